/-! THE PURE PART: the class's walk, step by step along the list. -/
theorem firstRoad_D (xs : Nat → Int32) (L D : Nat) (hD : 6 ≤ D) (I : Nat → Nat → Int32) (J : Nat → Nat → Int64) (X : XH) (n a b : Nat) (hn : I 1 1 = Int32.ofNat n) (hn2 : n ≤ 40) (ha : a < 24) (hb : b < 24) (hto : ∀ r, r < n → 0 ≤ (I 3 r).toInt ∧ (I 3 r).toInt ≤ 23) : zev xs L D 34 [.ref 1, .int (Int32.ofNat a), .int (Int32.ofNat b)] (zmk I J X) = some (.inr (some (.int (if (1000000000 : Int32) ≤ I 8 (24 * a + b) then -1 else zfst (zfrC I a b) n 0))), zmk I J X) := by
  obtain ⟨d, rfl⟩ := Nat.exists_eq_add_of_le hD
  rw [Nat.add_comm 6 d]
  exact firstRoad_eq xs L d I J X n a b hn hn2 ha hb hto
theorem zcSP {xs : Nat → Int32} {L d m : Nat} {as : List Value} {lo : LV} {h : AH} {o : Option Out} (hS : zseg (zP xs L d m) (zC m) 700 (zC m 0) lo [] h = o) (hlo : lv_args 0 as = lo := by rfl) (hl : (as.map fun (v : Value) => v.category).sum ≤ zML m := by exact Nat.le_of_ble_eq_true rfl) : zev xs L (d + 1) m as h = zth xs L d m o := by
  rw [← zE_P] at hS
  exact zcS hS hlo hl
/-- the class's heap, as it knows the signals at k over the base V -/
def zCH (V : Nat → Nat → Int32) (k : Int32) (H : Nat → Nat → Int32) : Prop := (∀ b, (b < 61 ∨ 122 < b) → b ∉ [33, 34, 49, 50, 51, 52] → H b = V b) ∧ (∀ s, s < nv (V 61 19) → H 33 s = zWc V k s) ∧ ∀ s, s < nv (V 61 19) → zcfS V k s = 1 → H 34 s = if zDb V k s = true then 1 else 0
theorem zCH_fr {V : Nat → Nat → Int32} {k : Int32} {H H' : Nat → Nat → Int32} (h : zCH V k H) (f : zfr8 [49, 50, 51, 52] [] H H') : zCH V k H' := by
  refine ⟨fun b h1 h2 => ?_, fun s hs => ?_, fun s hs hc => ?_⟩
  · have : b ∉ [49, 50, 51, 52] := fun z => h2 (List.mem_cons_of_mem _ (List.mem_cons_of_mem _ z))
    rw [f.1 b this (by omega)]
    exact h.1 b h1 h2
  · rw [f.1 33 (by decide) (by decide)]
    exact h.2.1 s hs
  · rw [f.1 34 (by decide) (by decide)]
    exact h.2.2 s hs hc
theorem zfr8_tr {S T S2 T2 : List Nat} {I I2 I3 : Nat → Nat → Int32} (h : zfr8 S T I I2) (g : zfr8 S2 T2 I2 I3) (h1 : ∀ b, b ∈ S2 → b ∈ S) (h2 : ∀ b, b ∈ T2 → b ∈ T) : zfr8 S T I I3 :=
  ⟨fun b hb h6 => (g.1 b (fun z => hb (h1 b z)) h6).trans (h.1 b hb h6), fun j hj => (g.2 j (fun z => hj (h2 j z))).trans (h.2 j hj)⟩
theorem zfr8_sub {S T S2 T2 : List Nat} {I I2 : Nat → Nat → Int32} (h : zfr8 S2 T2 I I2) (h1 : ∀ b, b ∈ S2 → b ∈ S) (h2 : ∀ b, b ∈ T2 → b ∈ T) : zfr8 S T I I2 := zfr8_tr zfr8_rfl h h1 h2
theorem nxp_q {V : Nat → Nat → Int32} {k : Int32} {H : Nat → Nat → Int32} (hB : PB V) (hC : zCH V k H) (b : Int32) {p : Nat} (hp : p < nv (V 61 19)) : znxp H b p = zqs V k b p := by
  obtain ⟨_, hL, _, hS, hD, hR, _⟩ := hB
  have n19 := nv_int hS.1.2.1
  have ho := hS.2.2.2.1 p hp
  have no := nv_int ho.1
  have hs : nv (V 32 p) < nv (V 61 19) := by omega
  unfold znxp zqs
  rw [hC.1 27 (by decide) (by decide), hC.1 32 (by decide) (by decide), hS.2.1.1, hC.2.1 _ hs]
  have hr := (rn_rg hS hD hR hL k _ hs).1
  unfold zWc
  by_cases c : zcfS V k (nv (V 32 p)) = 1
  · rw [if_pos c]
    have hne : ¬ zrnS V k (nv (V 32 p)) = -1 := fun z => by
      rw [z, i32_m1] at hr
      omega
    exact decide_eq_decide.mpr ⟨fun z => ⟨z.1, c⟩, fun z => ⟨z.1, hne⟩⟩
  · rw [if_neg c]
    exact decide_eq_decide.mpr ⟨fun z => absurd rfl z.2, fun z => absurd z.2 c⟩
theorem nxp_fst {V : Nat → Nat → Int32} {k : Int32} {H : Nat → Nat → Int32} (hB : PB V) (hC : zCH V k H) (b : Int32) {p : Nat} (hp : p ≤ nv (V 61 19)) : zfst (znxp H b) (nv (V 61 19) - p) p = zfst (zqs V k b) (nv (V 61 19) - p) p :=
  zfst_congr _ _ (fun r _ h => nxp_q hB hC b (by omega))
/-- the walk stands ahead of a list of passages; so many broken places there are in all -/
def ZW (V H : Nat → Nat → Int32) (k b : Int32) (rest : List ZP) (tot : Nat) : Prop := ∃ (p : Nat) (g : List Nat) (a c β : Nat), p ≤ nv (V 61 19) ∧ H 49 10 = zfst (zqs V k b) (nv (V 61 19) - p) p ∧ H 49 11 = Int32.ofNat a ∧ H 49 12 = Int32.ofNat c ∧ a < 24 ∧ c < 24 ∧ zGs V c a g ∧ rest = g.map (zgp (H 49 14)) ++ zrw V k none (ysg V k b (nv (V 61 19) - p) p) ∧ H 49 18 = Int32.ofNat β ∧ β + zbk V k none (ysg V k b (nv (V 61 19) - p) p) = tot ∧ H 49 8 = b ∧ H 49 9 = k ∧ (g = [] ∨ (0 ≤ (H 49 14).toInt ∧ (H 49 14).toInt ≤ 129599))
def PWk (V : Nat → Nat → Int32) : Prop := 0 ≤ (V 49 12).toInt ∧ (V 49 12).toInt ≤ 23
theorem start_y (xs : Nat → Int32) (L D : Nat) (hD : 7 ≤ D) {V H : Nat → Nat → Int32} (J : Nat → Nat → Int64) (X : XH) (k b : Int32) (hB : PB V) (hC : zCH V k H) (hK : PWk H) : ∃ H', zev xs L D 82 [.ref 49, .int b, .int k] (zmk H J X) = some (.inr none, zmk H' J X) ∧ zfr8 [49, 50] [] H H' ∧ (∀ c, c < 27 → H' 50 c = 0) ∧ ZW V H' k b (zrw V k none (ysg V k b (nv (V 61 19)) 0)) (zbk V k none (ysg V k b (nv (V 61 19)) 0)) := by
  have hS := hB.2.2.2.1
  have n19 := nv_int hS.1.2.1
  have h300 := hS.1.2.2
  have h26 : H 26 4 = Int32.ofNat (nv (V 61 19)) := by
    rw [hC.1 26 (by decide) (by decide), hS.1.1, nv_of hS.1.2.1]
  have ho : ∀ p, p < nv (V 61 19) → 0 ≤ (H 32 p).toInt ∧ (H 32 p).toInt < nv (V 61 19) := fun p hp => by
    rw [hC.1 32 (by decide) (by decide), n19]
    exact hS.2.2.2.1 p hp
  refine ⟨_, start_eq xs L D hD H J X b k _ h26 (by omega) ho, ?_, fun c hc => if_pos hc, 0, [], nv (H 49 12), nv (H 49 12), 0, Nat.zero_le _, ?_, ?_, ?_, ?_, ?_, rfl, rfl, rfl, Nat.zero_add _, rfl, rfl, Or.inl rfl⟩
  · exact zfr8_up (zfr8_ov (zfr8_up (zfr8_up (zfr8_up (zfr8_up zfr8_rfl (by decide) (by decide)) (by decide) (by decide)) (by decide) (by decide)) (by decide) (by decide)) (by decide) (by decide)) (by decide) (by decide)
  · have e := nxp_fst hB hC b (Nat.zero_le (nv (V 61 19)))
    rw [Nat.sub_zero] at e ⊢
    exact e
  · exact (nv_of hK.1).symm
  · exact (nv_of hK.1).symm
  · have := nv_int hK.1
    have := hK.2
    omega
  · have := nv_int hK.1
    have := hK.2
    omega
/-- what a step ends with, its passage found -/
theorem step_tail {V H1 : Nat → Nat → Int32} (J : Nat → Nat → Int64) (X : XH) (x : ZP) (hR : PRoad V) (hL : PLand V) (hx : zPok V x) (h4 : H1 4 = V 65) (h5 : H1 5 = V 66) (h13 : H1 49 13 = Int32.ofNat x.1) (h14 : H1 49 14 = x.2.1) (h17 : H1 49 17 = if x.2.2.2 = true then 1 else 0) : ∃ H', (if decide (¬ (H1 49 17) = 0) = true then
  (some (.inr (.inr (some (.int (1 : Int32))), zmk (zup H1 49 16 (zat H1 50 27 (((zat H1 4 40 (H1 49 13)) * (3 : Int32)) + ((H1 49 14) / (43200 : Int32))))) J X)) : Option Out)
  else some (.inr (.inr (some (.int (1 : Int32))), zmk (zput (zup H1 49 16 (zat H1 50 27 (((zat H1 4 40 (H1 49 13)) * (3 : Int32)) + ((H1 49 14) / (43200 : Int32))))) 50 27 (((zat H1 4 40 (H1 49 13)) * (3 : Int32)) + ((H1 49 14) / (43200 : Int32))) ((zat H1 50 27 (((zat H1 4 40 (H1 49 13)) * (3 : Int32)) + ((H1 49 14) / (43200 : Int32)))) + (zat H1 5 40 (H1 49 13)))) J X))) = some (.inr (.inr (some (.int 1)), zmk H' J X)) ∧ zfr8 [49, 50] [] H1 H' ∧ (∀ j, j ≠ 16 → H' 49 j = H1 49 j) ∧ H' 49 16 = H1 50 (zcell V x) ∧ H' 50 = zgn V x (H1 50) := by
  obtain ⟨c1, c2, c3, _⟩ := zcell_ok hR hL hx
  have h40 := hR.1.2.2
  have n4 := nv_int hR.1.2.1
  have hx1 := hx.1
  have e4 : zat H1 4 40 (H1 49 13) = V 65 x.1 := by rw [h13, zat_nat (by omega) (by omega), h4]
  have e5 : zat H1 5 40 (H1 49 13) = V 66 x.1 := by rw [h13, zat_nat (by omega) (by omega), h5]
  rw [e4, e5, h14, c3, zat_nat c1 (by omega), h17]
  by_cases c : x.2.2.2 = true
  · rw [if_pos c, if_pos (by decide)]
    refine ⟨_, rfl, zfr8_up zfr8_rfl (by decide) (by decide), fun j hj => ?_, rfl, ?_⟩
    · unfold zup
      rw [if_pos rfl, if_neg hj]
    · unfold zgn
      rw [if_pos c]
      rfl
  · rw [if_neg c, if_neg (by decide), zput_nat c1 (by omega), zup_ov _ 50]
    refine ⟨_, rfl, zfr8_ov (zfr8_up zfr8_rfl (by decide) (by decide)) (by decide) (by decide), fun j hj => ?_, rfl, ?_⟩
    · rw [zov_ne (by decide)]
      unfold zup
      rw [if_pos rfl, if_neg hj]
    · unfold zgn
      rw [if_neg c, zov_at]
      rfl
theorem step_n (xs : Nat → Int32) (L D : Nat) (hD : 8 ≤ D) {V H : Nat → Nat → Int32} (J : Nat → Nat → Int64) (X : XH) (k b : Int32) (tot : Nat) (hW : ZW V H k b [] tot) : zev xs L D 83 [.ref 49] (zmk H J X) = some (.inr (some (.int 0)), zmk H J X) ∧ H 49 18 = Int32.ofNat tot := by
  obtain ⟨d, rfl⟩ := Nat.exists_eq_add_of_le hD
  rw [show 8 + d = d + 2 + 6 by omega]
  obtain ⟨p, g, a, c, β, hp, h10, h11, h12, ha, hc, hg, hr, h18, ht, _, _, _⟩ := hW
  cases g with
  | cons r g => cases hr
  | nil =>
    have e : a = c := hg
    rcases ysg_fst V k b (nv (V 61 19) - p) p with ⟨f1, f2⟩ | ⟨r, _, _, _, _, f5⟩
    · rw [f2] at ht
      have ht : β = tot := ht
      refine ⟨?_, by rw [h18, ht]⟩
      refine (zcS (S83_0 xs L (d + 2) H J X)).trans ?_
      rw [h11, h12, e, if_pos (by rw [decide_eq_true_eq]), h10, f1, if_pos (by decide)]
      rfl
    · rw [f5] at hr
      cases hr
/-- the list behind a signal: the guessed roads, then the next signal -/
theorem zrw_some (V : Nat → Nat → Int32) (k : Int32) (q : Nat) (l : List Nat) : zrw V k (some q) l = (match l with
    | [] => []
    | s :: _ => (zbt V k q s).map (zgp (V 76 q))) ++ zrw V k none l := by
  cases l with
  | nil => rfl
  | cons s l => rfl
theorem zbk_some (V : Nat → Nat → Int32) (k : Int32) (q : Nat) (l : List Nat) : zbk V k (some q) l = (match l with
    | [] => 0
    | s :: _ => zbr V k q s) + zbk V k none l := by
  cases l with
  | nil => rfl
  | cons s l => rfl
