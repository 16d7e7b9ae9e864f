/-! THE PURE PART: a passage's charge, as the class works it. -/
theorem zst1_vc {f g : Nat → Int32} (e : ∀ j, j < 8 → f j = g j) (w : Int32) (s : (Nat → Int32) × Nat) : zst1 f w s = zst1 g w s := by
  by_cases c : zkd9 w = 1
  · have b := zkd9_1 c
    have en2 : (-w).toInt = -w.toInt := i32_neg (by omega)
    have c307 : (307 : Int32).toInt = 307 := by decide
    have e5 : (-w - 307).toInt = -w.toInt - 307 := by
      rw [i32_sub (by rw [en2, c307]; omega) (by rw [en2, c307]; omega), en2, c307]
    have n5 := nv_int (x := -w - 307) (by omega)
    unfold zst1
    rw [c]
    show (zset s.1 s.2 (f (nv (-w - 307))), s.2 + 1) = (zset s.1 s.2 (g (nv (-w - 307))), s.2 + 1)
    rw [e _ (by omega)]
  · unfold zst1
    split
    · rfl
    · rename_i q
      exact absurd q c
    · rfl
    · rfl
theorem zsts_vc {f g : Nat → Int32} (e : ∀ j, j < 8 → f j = g j) : ∀ (l : List Int32) (s : (Nat → Int32) × Nat), zsts f l s = zsts g l s
  | [], _ => rfl
  | w :: l, s => by
    show zsts f l (zst1 f w s) = zsts g l (zst1 g w s)
    rw [zst1_vc e, zsts_vc e l]
theorem zvl_vc {f g : Nat → Int32} (e : ∀ j, j < 8 → f j = g j) (l : List Int32) : zvl f l = zvl g l := by
  unfold zvl
  rw [zsts_vc e]
theorem zchg_vc {f g : Nat → Int32} (e : ∀ j, j < 8 → f j = g j) : ∀ (cl : List (Bool × List Int32)) (to : Int32), zchg f to cl = zchg g to cl
  | [], _ => rfl
  | (b, l) :: r, to => by
    show (if b = true then zchg f (zmx 0 (zmn 99999 (zvl f l))) r else if zvl f l = 0 then zchg f to r else 0) = (if b = true then zchg g (zmx 0 (zmn 99999 (zvl g l))) r else if zvl g l = 0 then zchg g to r else 0)
    rw [zvl_vc e, zchg_vc e r, zchg_vc e r]
/-- a clause list as the model keeps it at text x, from clause i and code p on -/
def zMc (V : Nat → Nat → Int32) (x : Nat) : Nat → Nat → List (Bool × List Int32) → Prop
  | _, p, [] => p ≤ 640
  | i, p, (b, l) :: r => V 98 (16 * x + i) = (if b = true then 0 else 1) ∧ V 99 (16 * x + i) = Int32.ofNat p ∧ V 100 (16 * x + i) = Int32.ofNat (p + (zmcs l).length) ∧ zrow (V 101) (640 * x + p) (zmcs l) ∧ zMc V x (i + 1) (p + (zmcs l).length) r
/-- a text: the class's object a and the model's place x hold the same clauses -/
def zTx (V : Nat → Nat → Int32) (X : XH) (C : Nat → List (Bool × List Int32)) (a x : Nat) : Prop := (∃ u, X.1 a 4 = some u ∧ 123 ≤ u ∧ X.2.1 u = (0, (yfl (C x)).length) ∧ (yfl (C x)).length < 400 ∧ zrow (V u) 0 (yfl (C x))) ∧ (V 95 x = Int32.ofNat (C x).length ∧ (C x).length ≤ 16 ∧ zMc V x 0 0 (C x)) ∧ ∀ c, c ∈ C x → zrp 40 0 c.2 1
def zidx (l m i : Nat) : Nat := if i < m then 4 * l + i else 36
def PTm (V : Nat → Nat → Int32) (X : XH) (C : Nat → List (Bool × List Int32)) (k : Int32) : Prop := ∀ l, l < 9 → ∃ ρ O, zTm V V X k l (nv (V 92 l)) ρ O ∧ ∀ i, i < zNm V l (nv (V 92 l)) → zTx V X C (ρ i) (zidx l (nv (V 92 l)) i)
/-- the values of a passage of box b, g gone ahead -/
def zvv (V : Nat → Nat → Int32) (b : Nat) (x : ZP) (g : Int32) : Nat → Int32 := fun j => if j = 0 then V 69 (nv (V 71 b)) else if j = 1 then V 70 (nv (V 71 b)) else if j = 2 then V 66 x.1 else if j = 3 then (x.2.1 - x.2.1 / 1440 * 1440) / 60 else if j = 4 then x.2.1 / 1440 - x.2.1 / 1440 / 7 * 7 else if j = 5 then V 67 x.1 else if j = 6 then g else if x.2.2.1 = -1 then 1 else 0
def ych (V : Nat → Nat → Int32) (C : Nat → List (Bool × List Int32)) (k : Int32) (b : Nat) (x : ZP) (g : Int32) : Int32 := if x.2.2.2 = true then 0 else match zbst (zFm V (nv (V 65 x.1)) (nv (V 92 (nv (V 65 x.1))))) (zOm V (nv (V 65 x.1)) (nv (V 92 (nv (V 65 x.1)))) k) x.2.1 k (zNm V (nv (V 65 x.1)) (nv (V 92 (nv (V 65 x.1))))) with
  | none => (10 : Int32) * V 66 x.1
  | some j => zchg (zvv V b x g) ((10 : Int32) * V 66 x.1) (C (zidx (nv (V 65 x.1)) (nv (V 92 (nv (V 65 x.1)))) j))
theorem zTm_H {V H : Nat → Nat → Int32} {X : XH} {k : Int32} {l m : Nat} {ρ : Nat → Nat} {O : Nat → Int32} (h : zTm V V X k l m ρ O) (e16 : H 16 = V 16) (e19 : H 19 = V 19) (e : ∀ b, 122 < b → H b = V b) : zTm V H X k l m ρ O := by
  obtain ⟨h1, h2, ⟨g1, g2, g3, g4, g5⟩, h4, h5, h6, h7⟩ := h
  refine ⟨h1, h2, ⟨g1, g2, by rw [e19]; exact g3, by rw [e16]; exact g4, fun i hi => ?_⟩, h4, h5, by rw [e16]; exact h6, fun i hi => ?_⟩
  · obtain ⟨q1, q2, q3, q4, q5, q6⟩ := g5 i hi
    exact ⟨q1, q2, q3, by rw [e _ (by omega)]; exact q4, by rw [e _ (by omega)]; exact q5, q6⟩
  · obtain ⟨q1, q2, q3, q4, q5, q6⟩ := g5 i hi
    rw [e _ (by omega)]
    exact h7 i hi
theorem e16 (xs : Nat → Int32) (L D : Nat) (hD : 6 ≤ D) (I : Nat → Nat → Int32) (J : Nat → Nat → Int64) (X : XH) (i : Int32) : zev xs L D 16 [.ref 9, .int i] (zmk I J X) = some (.inr (some (.int (zat I 11 16 (zat I 13 24 i)))), zmk I J X) := by
  obtain ⟨d, rfl⟩ := Nat.exists_eq_add_of_le hD
  rw [Nat.add_comm 6 d, ← zfz_eq]
  rfl
theorem e17 (xs : Nat → Int32) (L D : Nat) (hD : 6 ≤ D) (I : Nat → Nat → Int32) (J : Nat → Nat → Int64) (X : XH) (i : Int32) : zev xs L D 17 [.ref 9, .int i] (zmk I J X) = some (.inr (some (.int (zat I 12 16 (zat I 13 24 i)))), zmk I J X) := by
  obtain ⟨d, rfl⟩ := Nat.exists_eq_add_of_le hD
  rw [Nat.add_comm 6 d, ← zfz_eq]
  rfl
theorem e37 (xs : Nat → Int32) (L D : Nat) (hD : 6 ≤ D) (I : Nat → Nat → Int32) (J : Nat → Nat → Int64) (X : XH) (i : Int32) : zev xs L D 37 [.ref 1, .int i] (zmk I J X) = some (.inr (some (.int (zat I 5 40 i))), zmk I J X) := by
  obtain ⟨d, rfl⟩ := Nat.exists_eq_add_of_le hD
  rw [Nat.add_comm 6 d, ← zfz_eq]
  rfl
theorem e38 (xs : Nat → Int32) (L D : Nat) (hD : 6 ≤ D) (I : Nat → Nat → Int32) (J : Nat → Nat → Int64) (X : XH) (i : Int32) : zev xs L D 38 [.ref 1, .int i] (zmk I J X) = some (.inr (some (.int (zat I 6 40 i))), zmk I J X) := by
  obtain ⟨d, rfl⟩ := Nat.exists_eq_add_of_le hD
  rw [Nat.add_comm 6 d, ← zfz_eq]
  rfl
theorem e33 (xs : Nat → Int32) (L D : Nat) (hD : 6 ≤ D) (I : Nat → Nat → Int32) (J : Nat → Nat → Int64) (X : XH) (i : Int32) : zev xs L D 33 [.ref 1, .int i] (zmk I J X) = some (.inr (some (.int (zat I 4 40 i))), zmk I J X) := by
  obtain ⟨d, rfl⟩ := Nat.exists_eq_add_of_le hD
  rw [Nat.add_comm 6 d, ← zfz_eq]
  rfl
theorem e99 (xs : Nat → Int32) (L D : Nat) (hD : 6 ≤ D) (I : Nat → Nat → Int32) (J : Nat → Nat → Int64) (X : XH) (f : Nat → Int32) (i : Nat) (hi : i < 8) (v : Int32) : zev xs L D 99 [.ref 51, .int (Int32.ofNat i), .int v] (zmk (zov I 51 f) J X) = some (.inr none, zmk (zov I 51 (zset f i v)) J X) := by
  obtain ⟨d, rfl⟩ := Nat.exists_eq_add_of_le hD
  rw [Nat.add_comm 6 d, ← zfz_eq]
  show some (Sum.inr none, zmk (zput (zov I 51 f) 51 8 (Int32.ofNat i) v) J X) = _
  rw [zput_nat hi (by omega), zup_zov]
/-- the row of values, written one after another -/
def zwv (f : Nat → Int32) (v : Nat → Int32) : Nat → Nat → Int32
  | 0 => f
  | n + 1 => zset (zwv f v n) n (v n)
theorem zwv_at {f v : Nat → Int32} : ∀ {n j : Nat}, j < n → zwv f v n j = v j
  | 0, j, h => absurd h (Nat.not_lt_zero j)
  | n + 1, j, h => by
    show zset (zwv f v n) n (v n) j = v j
    by_cases c : j = n
    · rw [c, zset_at]
    · rw [zset_ne c]
      exact zwv_at (by omega)
theorem charge_c (xs : Nat → Int32) (L D : Nat) (hD : 10 ≤ D) {V H : Nat → Nat → Int32} (J : Nat → Nat → Int64) (X : XH) {C : Nat → List (Bool × List Int32)} (k : Int32) (b : Nat) (x : ZP) (g : Int32) (hB : PB V) (hC : zCH V k H) (hT : PTm V X C k) (hx : zPok V x) (hb : b < nv (V 61 7)) (h8 : H 49 8 = Int32.ofNat b) (h9 : H 49 9 = k) (h13 : H 49 13 = Int32.ofNat x.1) (h14 : H 49 14 = x.2.1) (h15 : H 49 15 = x.2.2.1) (h16 : H 49 16 = g) (h17 : H 49 17 = if x.2.2.2 = true then 1 else 0) : ∃ H', zev xs L D 88 [.ref 49] (zmk H J X) = some (.inr (some (.int (ych V C k b x g))), zmk H' J X) ∧ zfr8 [51, 52] [] H H' := by
  obtain ⟨d, rfl⟩ := Nat.exists_eq_add_of_le hD
  rw [show 10 + d = d + 4 + 6 by omega]
  obtain ⟨hN, hL, hF, hS, hDi, hRd, _⟩ := hB
  have S := zcSP (as := [.ref 49]) (S88_0 xs L (d + 4) H J X)
  rw [h17] at S
  unfold ych
  by_cases cd : x.2.2.2 = true
  · rw [if_pos cd] at S ⊢
    rw [if_neg (by decide)] at S
    exact ⟨H, S, zfr8_rfl⟩
  rw [if_neg cd] at S ⊢
  rw [if_pos (by decide)] at S
  have hx1 := hx.1
  have h40 := hRd.1.2.2
  have n4 := nv_int hRd.1.2.1
  have q65 := (hRd.2.2.1 x.1 hx1).2.2.1
  have n65 := nv_int q65.1
  have l9 := hL.2.2
  have n7 := nv_int hF.2.2.1.2.1
  have h24 := hF.2.2.1.2.2
  obtain ⟨q71, _, _⟩ := hF.2.2.2.2.2.2.2.2.2 b hb
  have n71 := nv_int q71.1
  have l16 := hF.2.1.2.2
  have r4 : H 4 = V 65 := (hC.1 4 (by decide) (by decide)).trans hRd.2.1.2.2.1
  have r5 : H 5 = V 66 := (hC.1 5 (by decide) (by decide)).trans hRd.2.1.2.2.2.1
  have r6 : H 6 = V 67 := (hC.1 6 (by decide) (by decide)).trans hRd.2.1.2.2.2.2
  have r11 : H 11 = V 69 := (hC.1 11 (by decide) (by decide)).trans hF.2.2.2.2.1
  have r12 : H 12 = V 70 := (hC.1 12 (by decide) (by decide)).trans hF.2.2.2.2.2.1
  have r13 : H 13 = V 71 := (hC.1 13 (by decide) (by decide)).trans hF.2.2.2.2.2.2.1
  have v0 : ∀ f, zat (zov H 51 f) 11 16 (zat (zov H 51 f) 13 24 (Int32.ofNat b)) = zvv V b x g 0 := fun f => by
    rw [zat_nat (a := 13) (by omega) (by omega), zov_ne (show 13 ≠ 51 by decide), r13, zat_of q71.1 (by omega), zov_ne (show 11 ≠ 51 by decide), r11]
    rfl
  have v1 : ∀ f, zat (zov H 51 f) 12 16 (zat (zov H 51 f) 13 24 (Int32.ofNat b)) = zvv V b x g 1 := fun f => by
    rw [zat_nat (a := 13) (by omega) (by omega), zov_ne (show 13 ≠ 51 by decide), r13, zat_of q71.1 (by omega), zov_ne (show 12 ≠ 51 by decide), r12]
    rfl
  have v2 : ∀ f, zat (zov H 51 f) 5 40 (Int32.ofNat x.1) = V 66 x.1 := fun f => by
    rw [zat_nat (a := 5) (by omega) (by omega), zov_ne (show 5 ≠ 51 by decide), r5]
  have v5 : ∀ f, zat (zov H 51 f) 6 40 (Int32.ofNat x.1) = V 67 x.1 := fun f => by
    rw [zat_nat (a := 6) (by omega) (by omega), zov_ne (show 6 ≠ 51 by decide), r6]
  have vl : ∀ f, zat (zov H 51 f) 4 40 (Int32.ofNat x.1) = Int32.ofNat (nv (V 65 x.1)) := fun f => by
    rw [zat_nat (a := 4) (by omega) (by omega), zov_ne (show 4 ≠ 51 by decide), r4, nv_of q65.1]
  have e8 : ∀ f, zov H 51 f 49 8 = Int32.ofNat b := fun f => h8
  have e9 : ∀ f, zov H 51 f 49 9 = k := fun f => h9
  have e13 : ∀ f, zov H 51 f 49 13 = Int32.ofNat x.1 := fun f => h13
  have e14 : ∀ f, zov H 51 f 49 14 = x.2.1 := fun f => h14
  have e15 : ∀ f, zov H 51 f 49 15 = x.2.2.1 := fun f => h15
  have e16' : ∀ f, zov H 51 f 49 16 = g := fun f => h16
  obtain ⟨w, hw⟩ : ∃ w : Nat → Int32, w = zvv V b x g := ⟨_, rfl⟩
  have hst := fun n (hn : n < 8) v (hv : w n = v) (D : Nat) (hD : 6 ≤ D) => (e99 xs L D hD H J X (zwv (H 51) w n) n hn v).trans (show some (Sum.inr none, zmk (zov H 51 (zset (zwv (H 51) w n) n v)) J X) = some (Sum.inr none, zmk (zov H 51 (zwv (H 51) w (n + 1))) J X) by rw [← hv]; rfl)
  have st0 : ∀ v, w 0 = v → zev xs L (d + 4 + 5) 99 [.ref 51, .int 0, .int v] (zmk (zov H 51 (zwv (H 51) w 0)) J X) = some (Sum.inr none, zmk (zov H 51 (zwv (H 51) w 1)) J X) := fun v hv => hst 0 (by decide) v hv (d + 4 + 5) (by omega)
  have st1 : ∀ v, w 1 = v → zev xs L (d + 4 + 5) 99 [.ref 51, .int 1, .int v] (zmk (zov H 51 (zwv (H 51) w 1)) J X) = some (Sum.inr none, zmk (zov H 51 (zwv (H 51) w 2)) J X) := fun v hv => hst 1 (by decide) v hv (d + 4 + 5) (by omega)
  have st2 : ∀ v, w 2 = v → zev xs L (d + 4 + 5) 99 [.ref 51, .int 2, .int v] (zmk (zov H 51 (zwv (H 51) w 2)) J X) = some (Sum.inr none, zmk (zov H 51 (zwv (H 51) w 3)) J X) := fun v hv => hst 2 (by decide) v hv (d + 4 + 5) (by omega)
  have st3 : ∀ v, w 3 = v → zev xs L (d + 4 + 5) 99 [.ref 51, .int 3, .int v] (zmk (zov H 51 (zwv (H 51) w 3)) J X) = some (Sum.inr none, zmk (zov H 51 (zwv (H 51) w 4)) J X) := fun v hv => hst 3 (by decide) v hv (d + 4 + 5) (by omega)
  have st4 : ∀ v, w 4 = v → zev xs L (d + 4 + 5) 99 [.ref 51, .int 4, .int v] (zmk (zov H 51 (zwv (H 51) w 4)) J X) = some (Sum.inr none, zmk (zov H 51 (zwv (H 51) w 5)) J X) := fun v hv => hst 4 (by decide) v hv (d + 4 + 5) (by omega)
  have st5 : ∀ v, w 5 = v → zev xs L (d + 4 + 5) 99 [.ref 51, .int 5, .int v] (zmk (zov H 51 (zwv (H 51) w 5)) J X) = some (Sum.inr none, zmk (zov H 51 (zwv (H 51) w 6)) J X) := fun v hv => hst 5 (by decide) v hv (d + 4 + 5) (by omega)
  have st6 : ∀ v, w 6 = v → zev xs L (d + 4 + 5) 99 [.ref 51, .int 6, .int v] (zmk (zov H 51 (zwv (H 51) w 6)) J X) = some (Sum.inr none, zmk (zov H 51 (zwv (H 51) w 7)) J X) := fun v hv => hst 6 (by decide) v hv (d + 4 + 5) (by omega)
  have st7 : ∀ v, w 7 = v → zev xs L (d + 4 + 5) 99 [.ref 51, .int 7, .int v] (zmk (zov H 51 (zwv (H 51) w 7)) J X) = some (Sum.inr none, zmk (zov H 51 (zwv (H 51) w 8)) J X) := fun v hv => hst 7 (by decide) v hv (d + 4 + 5) (by omega)
  have z0 : H = zov H 51 (zwv (H 51) w 0) := (zov_self H 51).symm
  rw [z0, e8, e16 xs L _ (by omega), zci_i, T88_1_8_689 xs L (d + 4), st0 _ (by rw [hw, v0]), zqv_v, T88_1_9_688 xs L (d + 4), e8, e17 xs L _ (by omega), zci_i, T88_1_17_680 xs L (d + 4), st1 _ (by rw [hw, v1]), zqv_v, T88_1_18_679 xs L (d + 4), e13, e37 xs L _ (by omega), zci_i, T88_1_26_671 xs L (d + 4), v2, st2 _ (by rw [hw]; rfl), zqv_v, T88_1_27_670 xs L (d + 4), e14, st3 _ (by rw [hw]; rfl), zqv_v, T88_1_37_660 xs L (d + 4), e14, st4 _ (by rw [hw]; rfl), zqv_v, T88_1_47_650 xs L (d + 4), e13, e38 xs L _ (by omega), zci_i, T88_1_55_642 xs L (d + 4), v5, st5 _ (by rw [hw]; rfl), zqv_v, T88_1_56_641 xs L (d + 4), e16', st6 _ (by rw [hw]; rfl), zqv_v, T88_1_62_635 xs L (d + 4), e15] at S
  have S8 : zev xs L (d + 4 + 5 + 1) 88 [.ref 49] (zmk (zov H 51 (zwv (H 51) w 0)) J X) = zth xs L (d + 4 + 5) 88 (zseg (zP xs L (d + 4 + 5) 88) (zC 88) 625 (zB88_3.drop 1) [(0, .ref 49)] [] (zmk (zov H 51 (zwv (H 51) w 8)) J X)) := by
    by_cases c : x.2.2.1 = -1
    · rw [if_neg (fun z => (of_decide_eq_true z) c), st7 1 (by rw [hw]; exact if_pos c), zqv_v] at S
      exact S
    · rw [if_pos (decide_eq_true c), st7 0 (by rw [hw]; exact if_neg c), zqv_v] at S
      exact S
  obtain ⟨ρ, O, hTm, hTx⟩ := hT (nv (V 65 x.1)) (by omega)
  have hTm2 : zTm V (zov H 51 (zwv (H 51) w 8)) X k (nv (V 65 x.1)) (nv (V 92 (nv (V 65 x.1)))) ρ O := zTm_H hTm (hC.1 16 (by decide) (by decide)) (hC.1 19 (by decide) (by decide)) (fun c hc => by
    rw [zov_ne (show c ≠ 51 by omega)]
    refine hC.1 c (Or.inr hc) (fun z => ?_)
    simp only [List.mem_cons, List.not_mem_nil, or_false] at z
    omega)
  have hbs := zTm_bst hTm x.2.1
  rw [T88_3_1_625 xs L (d + 4), e13, e33 xs L _ (by omega), zci_i, T88_3_8_618 xs L (d + 4), vl, e14, e9, find_eq xs L _ (by omega) _ J X _ _ ρ _ O x.2.1 k hTm2.2.2.1, zcr_r, T88_3_13_613 xs L (d + 4), e13, e37 xs L _ (by omega), zci_i, v2, T88_3_25_601 xs L (d + 4)] at S8
  have hfin : ∀ (cl : List (Bool × List Int32)) (t u : Nat), hK (zmk (zov H 51 (zwv (H 51) w 8)) J X) t = (18, 0) → hR (zmk (zov H 51 (zwv (H 51) w 8)) J X) t 4 = some u → hK (zmk (zov H 51 (zwv (H 51) w 8)) J X) u = (0, (yfl cl).length) → (yfl cl).length < 400 → u ≠ 52 → u ≠ 51 → zrow (H u) 0 (yfl cl) → (∀ c, c ∈ cl → zrp 40 0 c.2 1) → ∃ f', zev xs L (d + 4 + 5) 79 [.ref t, .ref 51, .ref 52, .int ((10 : Int32) * V 66 x.1)] (zmk (zov H 51 (zwv (H 51) w 8)) J X) = some (.inr (some (.int (zchg (zvv V b x g) ((10 : Int32) * V 66 x.1) cl))), zmk (zov (zov H 51 (zwv (H 51) w 8)) 52 f') J X) := by
    intro cl t u a1 a2 a3 a4 a5 a6 a7 a8
    obtain ⟨f', q⟩ := chargeT_eq xs L (d + 4 + 5) (by omega) (zov H 51 (zwv (H 51) w 8)) J X t u cl ((10 : Int32) * V 66 x.1) a1 a2 a3 (by omega) a5 (by rw [zov_ne a6]; exact a7) a8
    refine ⟨f', ?_⟩
    rw [q, zov_at, zchg_vc (g := zvv V b x g) (fun j hj => by rw [zwv_at hj, hw]) cl]
  have hend : ∀ (t : Nat) (v : Int32) (f' : Nat → Int32), zrfo ρ (zbst (zFm V (nv (V 65 x.1)) (nv (V 92 (nv (V 65 x.1))))) O x.2.1 k (zNm V (nv (V 65 x.1)) (nv (V 92 (nv (V 65 x.1)))))) = t → hK (zmk (zov H 51 (zwv (H 51) w 8)) J X) t = (18, 0) → zev xs L (d + 4 + 5) 79 [.ref t, .ref 51, .ref 52, .int ((10 : Int32) * V 66 x.1)] (zmk (zov H 51 (zwv (H 51) w 8)) J X) = some (.inr (some (.int v)), zmk (zov (zov H 51 (zwv (H 51) w 8)) 52 f') J X) → ∃ H', zev xs L (d + 4 + 6) 88 [.ref 49] (zmk H J X) = some (.inr (some (.int v)), zmk H' J X) ∧ zfr8 [51, 52] [] H H' := by
    intro t v f' e1 e2 e3
    refine ⟨zov (zov H 51 (zwv (H 51) w 8)) 52 f', ?_, zfr8_ov (zfr8_ov zfr8_rfl (by decide) (by decide)) (by decide) (by decide)⟩
    rw [e1, if_pos ⟨by decide, by decide, decide_eq_true e2⟩, e3, zci_i, T88_3_27_599 xs L (d + 4)] at S8
    rw [← z0] at S8
    exact S8
  cases hb2 : zbst (zFm V (nv (V 65 x.1)) (nv (V 92 (nv (V 65 x.1))))) (zOm V (nv (V 65 x.1)) (nv (V 92 (nv (V 65 x.1)))) k) x.2.1 k (zNm V (nv (V 65 x.1)) (nv (V 92 (nv (V 65 x.1))))) with
  | none =>
    rw [hb2] at hbs
    obtain ⟨f', q⟩ := hfin [] 16 17 rfl rfl rfl (by decide) (by decide) (by decide) trivial (fun c hc => by cases hc)
    exact hend 16 _ f' (by rw [hbs]; rfl) rfl q
  | some j =>
    rw [hb2] at hbs
    have hj := zbst_lt hb2
    obtain ⟨⟨u, t1, t2, t3, t4, t5⟩, _, t7⟩ := hTx j hj
    obtain ⟨_, q2, q3, _⟩ := hTm.2.2.1.2.2.2.2 j hj
    have hHu : H u = V u := hC.1 u (Or.inr (by omega)) (fun z => by
      simp only [List.mem_cons, List.not_mem_nil, or_false] at z
      omega)
    obtain ⟨f', q⟩ := hfin (C (zidx (nv (V 65 x.1)) (nv (V 92 (nv (V 65 x.1)))) j)) (ρ j) u ((zmk_K q2).trans q3) ((zmk_R q2).trans t1) ((zmk_K t2).trans t3) t4 (by omega) (by omega) (by rw [hHu]; exact t5) t7
    exact hend (ρ j) _ f' (by rw [hbs]; rfl) ((zmk_K q2).trans q3) q
