/-! THE PURE PART: terms under trial that can be read, both sides. -/
theorem att_good (xs : Nat → Int32) (L d : Nat) (I : Nat → Nat → Int32) (J : Nat → Nat → Int64) (X : XH) {C : Nat → List (Bool × List Int32)} {H' : Nat → Nat → Int32} (l m n : Nat) (c : Int32) (hB : PB I) (hK : PBlk I) (hW : PWk I) (hP : PTape I) (hT : PT I X C) (h54 : I 61 54 = -1) (Pl : l < nv (I 61 3)) (em : I 92 l = Int32.ofNat m) (m4 : m ≤ 4) (Qn : n ≤ nv (I 61 57)) (R : 0 ≤ c.toInt ∧ c.toInt ≤ 129599) (c1 : zev xs L (d + 53) 44 [.ref 35, .int (Int32.ofNat n)] (zmk I J X) = some (.inr (some (.int 0)), zmk H' J X)) (c2 : ∀ a, a ≠ 35 → a ≠ 37 → a ≠ 38 → H' a = I a) (c4 : ∀ (M : Nat → Nat → Int32) (Jm : Nat → Nat → Int64) (Xm : XH), M 104 = I 36 → ∃ M', zev xs L (d + 55) 160 [.ref 61, .int 36, .int (Int32.ofNat n)] (zmk M Jm Xm) = some (.inr (some (.int 0)), zmk M' Jm Xm) ∧ yfX 36 M M' ∧ M' 61 67 = -1 ∧ ∃ Cn lt nr, yRd M' 36 Cn lt nr ∧ (yfl Cn).length < 400 ∧ H' 35 13 = Int32.ofNat (yfl Cn).length ∧ zrow (H' 37) 0 (yfl Cn) ∧ H' 35 10 = lt ∧ H' 35 11 = nr) : ∃ I2 J2 X2, yAni xs L (d + 56) 231 210 [.int (Int32.ofNat l), .int (Int32.ofNat n), .int c] I J X I2 J2 X2 ∧ PT I2 X2 C ∧ yTry I J X I2 J2 X2 := by
  have hN := hB.1
  have hL := hB.2.1
  have hx : PTx I := hB.2.2.2.2.2.2
  have hLt : (I 1 0).toInt = (I 61 3).toInt := by rw [hL.1]
  have h57t : (I 35 1).toInt = (I 61 57).toInt := by rw [hP.1.1]
  have n3 := nv_int hL.2.1
  have hL9 := hL.2.2
  have n57 := nv_int hP.1.2.1
  have h57 := hP.1.2.2
  have l9 : l < 9 := by omega
  have tl : (Int32.ofNat l).toInt = l := i32_toInt (by omega)
  have tn : (Int32.ofNat n).toInt = n := i32_toInt (by omega)
  obtain ⟨t, ht⟩ : ∃ t, t = X.2.2.1 := ⟨_, rfl⟩
  have t123 : 123 ≤ t := by rw [ht]; exact hT.1
  have nm : nv (I 92 l) = m := by rw [em]; exact i32_clamp (by omega)
  -- the class, once it has read
  obtain ⟨A0, hA0⟩ : ∃ A0, A0 = zup (zup H' 0 12 (-1)) 35 1 0 := ⟨_, rfl⟩
  have a0 : ∀ q, q ≠ 0 → q ≠ 35 → q ≠ 37 → q ≠ 38 → A0 q = I q := fun q q0 q1 q2 q3 => by
    rw [hA0]
    exact (if_neg q1).trans ((if_neg q0).trans (c2 q q1 q2 q3))
  have a00 : ∀ k, k ≠ 12 → A0 0 k = I 0 k := fun k hk => by
    rw [hA0]
    refine (zup_k hk : zup H' 0 12 (-1) 0 k = H' 0 k).trans ?_
    rw [c2 0 (by decide) (by decide) (by decide)]
  have a012 : A0 0 12 = -1 := by rw [hA0]; exact (zup_at : zup H' 0 12 (-1) 0 12 = -1)
  have a351 : A0 35 1 = 0 := by rw [hA0]; exact zup_at
  have a35 : ∀ k, k ≠ 1 → A0 35 k = H' 35 k := fun k hk => by
    rw [hA0]
    exact (zup_k hk).trans rfl
  have a37 : A0 37 = H' 37 := by rw [hA0]; rfl
  have fA0 : zfr8 [0, 35, 37, 38] [] I A0 := ⟨fun q hq q6 => by
    simp only [List.mem_cons, List.not_mem_nil, or_false] at hq
    exact a0 q (by omega) (by omega) (by omega) (by omega), fun k _ => by rw [a0 61 (by decide) (by decide) (by decide) (by decide)]⟩
  have fA0' : zfr8 (ySa t) yTa I A0 := zfr8_sub fA0 (fun b hb => by
    simp only [List.mem_cons, List.not_mem_nil, or_false] at hb ⊢
    omega) (fun b hb => by cases hb)
  have PBA0 : PB A0 := PB_a t123 fA0' (a00 11 (by decide)) hB
  have PKA0 : PBlk A0 := PBlk_a t123 fA0' hK
  have wA0 : PWk A0 := PWk_fr fA0 (by decide) hW
  have TA0 : PTm A0 X C (I 61 2) := PTm_of (PT_e fA0 (by decide) (by decide) hT) (by rw [a0 61 (by decide) (by decide) (by decide) (by decide)]; exact h54) (PTx_fr fA0 (by decide) hx) _
  have nA0 : A0 0 11 = I 61 2 := by rw [a00 11 (by decide), hN.1]
  obtain ⟨H1, Ja, eA, fH1, wH1, jA⟩ := c138_eq xs L (d + 54) (by omega) (V := A0) (I := A0) J X l (I 61 2) nA0 l9 (fun _ _ => rfl) PBA0 PKA0 TA0 wA0
  obtain ⟨M0, _, f0, _, Cn0, lt0, nr0, rd0, len0, h13, h37, h10, h11⟩ := c4 I J X hP.2.1.symm
  obtain ⟨mm, hmm⟩ : ∃ mm, mm = (yfl Cn0).length := ⟨_, rfl⟩
  rw [← hmm] at h13 len0
  have b1 : ∀ q, q ∉ [33, 34, 49, 50, 51, 52] → q ≠ 61 → H1 q = A0 q := fH1.1
  have b61 : H1 61 = I 61 := by
    funext k
    rw [fH1.2 k (fun z => by cases z), a0 61 (by decide) (by decide) (by decide) (by decide)]
  have h1_11 : H1 0 11 = I 61 2 := by rw [b1 0 (by decide) (by decide), nA0]
  have h1_13 : H1 35 13 = Int32.ofNat mm := by rw [b1 35 (by decide) (by decide), a35 13 (by decide), h13]
  have h1_19 : H1 19 l = Int32.ofNat m := by rw [b1 19 (by decide) (by decide), a0 19 (by decide) (by decide) (by decide) (by decide), (hT.2.2 l l9).1, em]
  obtain ⟨A3, hA3⟩ : ∃ A3, A3 = zup (yTf H1 t mm c (H1 0 11)) 19 l (Int32.ofNat (m + 1)) := ⟨_, rfl⟩
  obtain ⟨X2, hX2⟩ : ∃ X2, X2 = zXr (zXt X mm) 18 (5 * l + m) (some t) := ⟨_, rfl⟩
  have d3 : ∀ q, q ≠ 19 → q ≠ t → q ≠ t + 1 → A3 q = H1 q := fun q q1 q2 q3 => by
    rw [hA3]
    exact (if_neg q1).trans (yTf_o q2 q3)
  have e3 : ∀ q, q ∉ [0, 19, 33, 34, 35, 37, 38, 49, 50, 51, 52] → q ≠ t → q ≠ t + 1 → A3 q = I q := fun q hq q2 q3 => by
    simp only [List.mem_cons, List.not_mem_nil, or_false] at hq
    by_cases q6 : q = 61
    · rw [q6, d3 61 (by decide) (by omega) (by omega), b61]
    · rw [d3 q (by omega) q2 q3, b1 q (by simp only [List.mem_cons, List.not_mem_nil, or_false]; omega) q6, a0 q (by omega) (by omega) (by omega) (by omega)]
  have e3S : ∀ q, (q < 61 ∨ 122 < q) → q ∉ ySa t → A3 q = I q := fun q _ hq => by
    simp only [List.mem_cons, List.not_mem_nil, or_false] at hq
    exact e3 q (by simp only [List.mem_cons, List.not_mem_nil, or_false]; omega) (by omega) (by omega)
  have a3_011 : A3 0 11 = I 61 2 := by rw [d3 0 (by decide) (by omega) (by omega), h1_11]
  have a3_19 : A3 19 l = Int32.ofNat (m + 1) := by rw [hA3]; exact zup_at
  have a3_19n : ∀ k, k ≠ l → A3 19 k = I 19 k := fun k hk => by
    rw [hA3]
    refine (zup_k hk).trans ?_
    rw [yTf_o (by omega) (by omega), b1 19 (by decide) (by decide), a0 19 (by decide) (by decide) (by decide) (by decide)]
  obtain ⟨y0, y1, y2, y3⟩ := yTf_t (I := H1) (t := t) (m := mm) (a := c) (c := H1 0 11)
  have a3t : ∀ k, A3 t k = yTf H1 t mm c (H1 0 11) t k := fun k => by
    rw [hA3, show zup (yTf H1 t mm c (H1 0 11)) 19 l (Int32.ofNat (m + 1)) t = yTf H1 t mm c (H1 0 11) t from if_neg (by omega)]
  have a3u : ∀ k, k < mm → A3 (t + 1) k = H' 37 k := fun k hk => by
    rw [hA3, show zup (yTf H1 t mm c (H1 0 11)) 19 l (Int32.ofNat (m + 1)) (t + 1) = yTf H1 t mm c (H1 0 11) (t + 1) from if_neg (by omega), yTf_u hk, b1 37 (by decide) (by decide), a37]
  have x18 : ∀ j, j ≠ 5 * l + m → X2.1 18 j = X.1 18 j := fun j hj => by
    rw [hX2, zXr_k hj, show (zXt X mm).1 18 = X.1 18 from zXr_o (by omega)]
  have xr : ∀ q k, 123 ≤ q → q < X.2.2.1 → X2.1 q k = X.1 q k := fun q k q1 q2 => by
    rw [hX2, show (zXr (zXt X mm) 18 (5 * l + m) (some t)).1 q = (zXt X mm).1 q from zXr_o (by omega), show (zXt X mm).1 q = X.1 q from zXr_o (by omega)]
  have xk : ∀ q, q < X.2.2.1 → X2.2.1 q = X.2.1 q := fun q q2 => by
    rw [hX2]
    exact (if_neg (show ¬ q = X.2.2.1 + 1 by omega)).trans (if_neg (show ¬ q = X.2.2.1 by omega))
  have xn : X2.2.2.1 = t + 2 := by rw [hX2, ht]; rfl
  have xt4 : X2.1 t 4 = some (t + 1) := by
    rw [hX2, show (zXr (zXt X mm) 18 (5 * l + m) (some t)).1 t = (zXt X mm).1 t from zXr_o (by omega), ht]
    exact zXr_at
  have xkt : X2.2.1 t = (18, 0) := by
    rw [hX2, ht]
    exact (if_neg (show ¬ X.2.2.1 = X.2.2.1 + 1 by omega)).trans (if_pos rfl)
  have xku : X2.2.1 (t + 1) = (0, mm) := by
    rw [hX2, ht]
    exact if_pos rfl
  have x18t : X2.1 18 (5 * l + m) = some t := by
    rw [hX2]
    exact zXr_at
  -- any base with the text at 36 and land l under trial
  have base : ∀ (W : Nat → Nat → Int32) (Cn : List (Bool × List Int32)) (lt nr : Int32), yGoodW I W (Int32.ofNat l) c Cn lt nr → yfl Cn = yfl Cn0 → lt = H' 35 10 → nr = H' 35 11 → PB (ymx A3 W) ∧ PBlk (ymx A3 W) ∧ PTm (ymx A3 W) X2 (fun y => if y = 36 then Cn else C y) (I 61 2) := by
    intro W Cn lt nr hG eC el en
    have fr := mix_fr e3S hG t123
    have fx : yFx 36 X.2.2.1 I (ymx A3 W) := mix_Fx (fun q q1 q2 => e3 q (by simp only [List.mem_cons, List.not_mem_nil, or_false]; omega) (by omega) (by omega)) hG
    have w : ∀ q, 61 < q → q ≤ 122 → ymx A3 W q = W q := fun q q1 q2 => ymx_w (by omega)
    have rd := hG.2.2.2.2.2.2.2
    have C36 : (fun y => if y = 36 then Cn else C y) 36 = Cn := if_pos rfl
    refine ⟨PB_a t123 fr (by rw [show ymx A3 W 0 = A3 0 from ymx_a (by decide), a3_011, hN.1]) hB, PBlk_a t123 fr hK, PTm_trial hT hx l9 nm ?_ ?_ ?_ (fun l' hl' => ?_) ?_ ?_ fx x18 xr xk (by omega) (fun y hy => if_neg hy) x18t t123 xkt ?_ ?_ ?_ ?_ ?_ ?_⟩
    · rw [show ymx A3 W 61 = W 61 from ymx_w (by decide)]
      exact hG.2.2.1
    · rw [w 92 (by decide) (by decide)]
      exact hG.1 92 (by decide) (by decide) (by decide)
    · rw [show ymx A3 W 16 = A3 16 from ymx_a (by decide)]
      exact e3 16 (by decide) (by omega) (by omega)
    · rw [show ymx A3 W 19 = A3 19 from ymx_a (by decide)]
      exact a3_19n l' hl'
    · rw [show ymx A3 W 19 = A3 19 from ymx_a (by decide)]
      exact a3_19
    · rw [w 94 (by decide) (by decide)]
      exact hG.1 94 (by decide) (by decide) (by decide)
    · rw [show ymx A3 W t = A3 t from ymx_a (Or.inr (by omega)), a3t, y0, w 93 (by decide) (by decide), hG.2.2.2.1]
    · rw [show ymx A3 W t = A3 t from ymx_a (Or.inr (by omega)), a3t, y0]
      exact R.1
    · rw [show ymx A3 W t = A3 t from ymx_a (Or.inr (by omega)), a3t, y1, h1_11]
      exact Int.le_refl _
    · rw [show ymx A3 W t = A3 t from ymx_a (Or.inr (by omega)), a3t, y2, b1 35 (by decide) (by decide), a35 10 (by decide), w 96 (by decide) (by decide), rd.2.2.2.2.1, el]
    · rw [show ymx A3 W t = A3 t from ymx_a (Or.inr (by omega)), a3t, y3, b1 35 (by decide) (by decide), a35 11 (by decide), w 97 (by decide) (by decide), rd.2.2.2.2.2, en]
    · unfold zTx
      rw [C36]
      refine ⟨⟨t + 1, xt4, by omega, ?_, ?_, ?_⟩, ⟨?_, rd.2.1, ?_⟩, rd.2.2.2.1⟩
      · rw [eC, ← hmm]
        exact xku
      · rw [eC, ← hmm]
        exact len0
      · rw [eC, show ymx A3 W (t + 1) = A3 (t + 1) from ymx_a (Or.inr (by omega))]
        exact zrow_cg (fun j _ hj => (a3u j (by omega)).symm) h37
      · rw [w 95 (by decide) (by decide)]
        exact rd.1
      · exact zMc_fr2 Cn 0 0 rd.2.2.1 (fun q j hq _ _ => by
          simp only [List.mem_cons, List.not_mem_nil, or_false] at hq
          rw [w q (by omega) (by omega)]) (fun j _ _ => by rw [w 101 (by decide) (by decide)])
  -- the class, tried
  have G0 := goodW_read (I := I) (M := I) (v54 := Int32.ofNat l) (c := c) (fun _ _ _ => rfl) (fun _ _ => rfl) f0 rd0
  obtain ⟨W0, hW0⟩ : ∃ W0, W0 = zup (zup M0 93 36 c) 61 54 (Int32.ofNat l) := ⟨_, rfl⟩
  rw [← hW0] at G0
  obtain ⟨p1, p2, p3⟩ := base W0 Cn0 lt0 nr0 G0 rfl h10.symm h11.symm
  have wA3 : PWk A3 := by
    unfold PWk
    rw [d3 49 (by decide) (by omega) (by omega)]
    exact wH1
  obtain ⟨H4, Jb, eB, fH4, wH4, jB⟩ := c138_eq xs L (d + 54) (by omega) (V := ymx A3 W0) (I := A3) Ja X2 l (I 61 2) a3_011 l9 (fun b hb => (ymx_a hb).symm) p1 p2 p3 wA3
  obtain ⟨v1, hv1⟩ : ∃ v1, v1 = (yal9 A0 C (I 61 2) l).toInt32 := ⟨_, rfl⟩
  obtain ⟨v2, hv2⟩ : ∃ v2, v2 = (yal9 (ymx A3 W0) (fun y => if y = 36 then Cn0 else C y) (I 61 2) l).toInt32 := ⟨_, rfl⟩
  rw [← hv1] at eA
  rw [← hv2] at eB
  have g4 : ∀ q, q ∉ [33, 34, 49, 50, 51, 52] → q ≠ 61 → H4 q = A3 q := fH4.1
  have g461 : H4 61 = I 61 := by
    funext k
    rw [fH4.2 k (fun z => by cases z), e3 61 (by decide) (by omega) (by omega)]
  have hcls := chain_c xs L d (I := I) (H' := H') (H1 := H1) (H4 := H4) (J := J) (Ja := Ja) (Jb := Jb) (X := X) (Int32.ofNat n) c v1 v2 l m mm l9 (by omega) ⟨by omega, by omega⟩ ⟨by omega, by omega⟩ R c1 (by rw [← hA0]; exact eA) h1_13 len0 h1_19 (by
    rw [← ht, ← hA3, ← hX2]
    exact eB) (by rw [g4 19 (by decide) (by decide), a3_19]) hT.1
  rw [← ht, ← hX2] at hcls
  obtain ⟨I1, hI1⟩ : ∃ I1, I1 = zup (zup H4 0 13 (v2 - v1)) 19 l (Int32.ofNat m) := ⟨_, rfl⟩
  obtain ⟨X3, hX3⟩ : ∃ X3, X3 = zXr X2 18 (5 * l + m) none := ⟨_, rfl⟩
  rw [← hI1, ← hX3] at hcls
  obtain ⟨J1, hJ1⟩ : ∃ J1, J1 = zup Jb 122 0 (0 : Int32).toInt64 := ⟨_, rfl⟩
  have i1 : ∀ q, q ∉ [0, 19, 33, 34, 35, 37, 38, 49, 50, 51, 52] → q ≠ t → q ≠ t + 1 → I1 q = I q := fun q hq q2 q3 => by
    have hq' := hq
    simp only [List.mem_cons, List.not_mem_nil, or_false] at hq
    by_cases q6 : q = 61
    · rw [q6, hI1, ← g461]
      rfl
    · rw [hI1]
      refine (if_neg (by omega)).trans ((if_neg (by omega)).trans ?_)
      rw [g4 q (by simp only [List.mem_cons, List.not_mem_nil, or_false]; omega) q6]
      exact e3 q hq' q2 q3
  have i1_0 : ∀ k, k ≠ 13 → I1 0 k = A0 0 k := fun k hk => by
    rw [hI1]
    refine (zup_k hk : zup H4 0 13 (v2 - v1) 0 k = H4 0 k).trans ?_
    rw [g4 0 (by decide) (by decide), d3 0 (by decide) (by omega) (by omega), b1 0 (by decide) (by decide)]
  have i1_13 : I1 0 13 = v2 - v1 := by rw [hI1]; exact (zup_at : zup H4 0 13 (v2 - v1) 0 13 = v2 - v1)
  have i1_19 : ∀ k, I1 19 k = I 19 k := fun k => by
    rw [hI1]
    by_cases e : k = l
    · rw [e, (hT.2.2 l l9).1, em]
      exact zup_at
    · refine (zup_k e).trans ?_
      show H4 19 k = _
      rw [g4 19 (by decide) (by decide), a3_19n k e]
  have i1_35 : I1 35 = A0 35 := by
    rw [hI1]
    show H4 35 = _
    rw [g4 35 (by decide) (by decide), d3 35 (by decide) (by omega) (by omega), b1 35 (by decide) (by decide)]
  have i1_49 : I1 49 = H4 49 := by rw [hI1]; rfl
  -- the model
  obtain ⟨M1, hM1⟩ : ∃ M1, M1 = zup (zup (zup I1 61 1 0) 61 57 0) 61 67 (-1) := ⟨_, rfl⟩
  have m1 : ∀ q, q ≠ 61 → M1 q = I1 q := fun q q1 => by
    rw [hM1]
    exact (if_neg q1).trans ((if_neg q1).trans (if_neg q1))
  have m161 : ∀ k, k ≠ 1 → k ≠ 57 → k ≠ 67 → M1 61 k = I 61 k := fun k k1 k2 k3 => by
    rw [hM1]
    exact (zup_k k3).trans ((zup_k k2).trans ((zup_k k1).trans (by rw [i1 61 (by decide) (by omega) (by omega)])))
  have mrow : ∀ q, 61 < q → q ≤ 122 → M1 q = I q := fun q q1 q2 => by
    rw [m1 q (by omega), i1 q (by simp only [List.mem_cons, List.not_mem_nil, or_false]; omega) (by omega) (by omega)]
  obtain ⟨M', e1, f1, e4, Cn, lt, nr, rd, len, g13, g37, g10, g11⟩ := c4 M1 J1 X3 (by rw [mrow 104 (by decide) (by decide), hP.2.1])
  have eC : yfl Cn = yfl Cn0 := by
    have hlen : (yfl Cn).length = (yfl Cn0).length := by
      rw [← hmm]
      exact i32_nat_inj (by omega) (by omega) (g13.symm.trans h13)
    exact zrow_eq hlen g37 h37
  obtain ⟨M2, hM2⟩ : ∃ M2, M2 = zup (zup M' 93 36 c) 61 54 (-1) := ⟨_, rfl⟩
  have G2 := goodW_read (I := I) (M := M1) (v54 := -1) (c := c) mrow (fun k hk => m161 k (fun z => hk (by rw [z]; decide)) (fun z => hk (by rw [z]; decide)) (fun z => hk (by rw [z]; decide))) f1 rd
  rw [← hM2] at G2
  have s2 : ∀ q, q ∉ [61, 93, 95, 96, 97, 98, 99, 100, 101] → M2 q = I1 q := fun q hq => by
    simp only [List.mem_cons, List.not_mem_nil, or_false] at hq
    rw [hM2, show zup (zup M' 93 36 c) 61 54 (-1) q = M' q from (if_neg (by omega)).trans (if_neg (by omega)), f1.1 q (by simp only [List.mem_cons, List.not_mem_nil, or_false]; omega), m1 q (by omega)]
  have frI1 : ∀ q, q ∉ ySa t → q ≠ 61 → I1 q = I q := fun q hq q6 => by
    simp only [List.mem_cons, List.not_mem_nil, or_false] at hq
    exact i1 q (by simp only [List.mem_cons, List.not_mem_nil, or_false]; omega) (by omega) (by omega)
  have fr2 : zfr8 (ySa t) yTa I M2 := ⟨fun q hq q6 => by
    have hq' := hq
    simp only [List.mem_cons, List.not_mem_nil, or_false] at hq
    rw [s2 q (by simp only [List.mem_cons, List.not_mem_nil, or_false]; omega)]
    exact frI1 q hq' q6, G2.2.1⟩
  have z2 : M2 0 11 = I 0 11 := by rw [s2 0 (by decide), i1_0 11 (by decide), a00 11 (by decide)]
  have PBM2 := PB_a t123 fr2 z2 hB
  have frV1 := mix_fr (A := A0) (fun q _ hq => by
    simp only [List.mem_cons, List.not_mem_nil, or_false] at hq
    exact a0 q (by omega) (by omega) (by omega) (by omega)) G2 t123
  have PBV1 : PB (ymx A0 M2) := PB_a t123 frV1 (by rw [show ymx A0 M2 0 = A0 0 from ymx_a (by decide), a00 11 (by decide)]) hB
  have PKV1 : PBlk (ymx A0 M2) := PBlk_a t123 frV1 hK
  have v1row : ∀ q, 61 < q → q ≤ 122 → ymx A0 M2 q = M2 q := fun q q1 q2 => ymx_w (by omega)
  have v161 : ymx A0 M2 61 = M2 61 := ymx_w (by decide)
  have v192 : ymx A0 M2 92 = I 92 := by
    rw [v1row 92 (by decide) (by decide)]
    exact G2.1 92 (by decide) (by decide) (by decide)
  have fx1 : yFx 36 X.2.2.1 I (ymx A0 M2) := mix_Fx (fun q q1 q2 => a0 q (by omega) (by omega) (by omega) (by omega)) G2
  have hrefl : yFX 45 X X := ⟨fun _ _ => rfl, fun _ _ _ _ => rfl, fun _ _ => rfl, Nat.le_refl _⟩
  have PTV1 : PT (ymx A0 M2) X C := by
    refine ⟨hT.1, ?_, fun l' hl' => ⟨?_, fun i hi => ?_⟩⟩
    · rw [show ymx A0 M2 16 = A0 16 from ymx_a (by decide), a0 16 (by decide) (by decide) (by decide) (by decide)]
      exact hT.2.1
    · rw [show ymx A0 M2 19 = A0 19 from ymx_a (by decide), a0 19 (by decide) (by decide) (by decide) (by decide), v192]
      exact (hT.2.2 l' hl').1
    · rw [v192] at hi
      have := hx l' hl'
      have := nv_int this.1
      exact yEn_keep fx1 hrefl rfl (by omega) (by omega) ((hT.2.2 l' hl').2 i hi)
  have PTxV1 : PTx (ymx A0 M2) := fun l' hl' => by
    rw [v192]
    exact hx l' hl'
  have TV1 : PTm (ymx A0 M2) X C (I 61 2) := PTm_of PTV1 (by rw [v161]; exact G2.2.2.1) PTxV1 _
  obtain ⟨M3, q1, q2⟩ := m211_eq xs L (d + 55) (by omega) (V := ymx A0 M2) (M := M2) J1 X3 (I 61 2) l PBV1 PBM2 ⟨fun b k1 k2 _ => (v1row b k1 (by omega)).symm, fun j _ => by rw [v161]⟩ (by rw [v161]; exact G2.2.1 2 (by decide)) TV1 l9
  obtain ⟨M4, hM4⟩ : ∃ M4, M4 = zup M3 61 54 (Int32.ofNat l) := ⟨_, rfl⟩
  have s4 : ∀ q, q ≠ 61 → q ∉ [102, 103, 108, 109, 110, 111, 112, 113, 114, 115, 116, 117, 118] → M4 q = M2 q := fun q q6 hq => by
    simp only [List.mem_cons, List.not_mem_nil, or_false] at hq
    rw [hM4, show zup M3 61 54 (Int32.ofNat l) q = M3 q from if_neg q6]
    exact q2.1 q (by simp only [List.mem_append, List.mem_cons, List.not_mem_nil, or_false]; omega) q6
  have s461 : ∀ k, k ≠ 54 → k ≠ 76 → k ≠ 77 → M4 61 k = M2 61 k := fun k k1 k2 k3 => by
    rw [hM4]
    refine (zup_k k1).trans (q2.2 k ?_)
    simp only [List.mem_cons, List.not_mem_nil, or_false]
    omega
  have G4 := goodW_fr (W2 := M4) (w54 := Int32.ofNat l) G2 (fun q k1 k2 k3 => s4 q (by omega) k3) (fun k hk => by
    simp only [List.mem_cons, List.not_mem_nil, or_false] at hk
    exact s461 k (by omega) (by omega) (by omega)) (by rw [hM4]; exact zup_at)
  obtain ⟨r1, r2, r3⟩ := base M4 Cn lt nr G4 eC g10.symm g11.symm
  have fr4 : zfr8 (ySa t) yTa I M4 := ⟨fun q hq q6 => by
    have hq' := hq
    simp only [List.mem_cons, List.not_mem_nil, or_false] at hq
    rw [s4 q q6 (by simp only [List.mem_cons, List.not_mem_nil, or_false]; omega)]
    exact fr2.1 q hq' q6, G4.2.1⟩
  have PBM4 := PB_a t123 fr4 (by rw [s4 0 (by decide) (by decide), z2]) hB
  have v261 : ymx A3 M4 61 = M4 61 := ymx_w (by decide)
  obtain ⟨M5, u1, u2⟩ := m211_eq xs L (d + 55) (by omega) (V := ymx A3 M4) (M := M4) J1 X3 (I 61 2) l r1 PBM4 ⟨fun b k1 k2 _ => (ymx_w (by omega)).symm, fun j _ => by rw [v261]⟩ (by rw [v261]; exact G4.2.1 2 (by decide)) r3 l9
  -- what the class found, told by the model's bases
  obtain ⟨_, _, eA', _⟩ := c138_eq xs L (d + 54) (by omega) (V := ymx A0 M2) (I := A0) J X l (I 61 2) nA0 l9 (fun b hb => (ymx_a hb).symm) PBV1 PKV1 TV1 wA0
  obtain ⟨_, _, eB', _⟩ := c138_eq xs L (d + 54) (by omega) (V := ymx A3 M4) (I := A3) Ja X2 l (I 61 2) a3_011 l9 (fun b hb => (ymx_a hb).symm) r1 r2 r3 wA3
  have w1 := (ret_i eA eA').1
  have w2 := (ret_i eB eB').1
  obtain ⟨w1L, hw1⟩ : ∃ w1L, w1L = yal9 (ymx A0 M2) C (I 61 2) l := ⟨_, rfl⟩
  obtain ⟨w2L, hw2⟩ : ∃ w2L, w2L = yal9 (ymx A3 M4) (fun y => if y = 36 then Cn else C y) (I 61 2) l := ⟨_, rfl⟩
  rw [← hw1] at w1 q1
  rw [← hw2] at w2 u1
  obtain ⟨I2, hI2⟩ : ∃ I2, I2 = zup M5 61 54 (-1) := ⟨_, rfl⟩
  obtain ⟨J2, hJ2⟩ : ∃ J2, J2 = zup J1 61 55 (w2L - w1L) := ⟨_, rfl⟩
  have t5 : ∀ q, q ≠ 61 → q ∉ [102, 103, 108, 109, 110, 111, 112, 113, 114, 115, 116, 117, 118] → I2 q = M2 q := fun q q6 hq => by
    have hq' := hq
    simp only [List.mem_cons, List.not_mem_nil, or_false] at hq
    rw [hI2, show zup M5 61 54 (-1) q = M5 q from if_neg q6, u2.1 q (by simp only [List.mem_append, List.mem_cons, List.not_mem_nil, or_false]; omega) q6, s4 q q6 hq']
  have t561 : ∀ k, k ≠ 54 → k ≠ 76 → k ≠ 77 → I2 61 k = M2 61 k := fun k k1 k2 k3 => by
    rw [hI2]
    refine (zup_k k1).trans ((u2.2 k ?_).trans (s461 k k1 k2 k3))
    simp only [List.mem_cons, List.not_mem_nil, or_false]
    omega
  have i2o : ∀ q, q ∉ [61, 93, 95, 96, 97, 98, 99, 100, 101, 102, 103, 108, 109, 110, 111, 112, 113, 114, 115, 116, 117, 118] → I2 q = I1 q := fun q hq => by
    simp only [List.mem_cons, List.not_mem_nil, or_false] at hq
    rw [t5 q (by omega) (by simp only [List.mem_cons, List.not_mem_nil, or_false]; omega), s2 q (by simp only [List.mem_cons, List.not_mem_nil, or_false]; omega)]
  have m261 : ∀ k, k ∉ [54, 58, 59, 60, 61, 62, 63, 64, 65, 66, 67, 68] → M2 61 k = M1 61 k := fun k hk => by
    simp only [List.mem_cons, List.not_mem_nil, or_false] at hk
    rw [hM2]
    refine (zup_k (by omega)).trans ?_
    exact f1.2.1 k (by simp only [List.mem_cons, List.not_mem_nil, or_false]; omega)
  have j2 : (J2 61 55).toInt32 = v2 - v1 := by
    rw [hJ2, w1, w2, show zup J1 61 55 (w2L - w1L) 61 55 = w2L - w1L from zup_at]
    exact Int64.toInt32_sub _ _
  refine ⟨I2, J2, X3, ⟨0, 0, I1, J1, ?_, ?_, ?_, fun _ => ?_⟩, ⟨?_, ?_, fun l' hl' => ⟨?_, fun i hi => ?_⟩⟩, ⟨?_, ?_, ⟨⟨?_, ?_, ?_⟩, ?_, fun k hk => ?_⟩, ?_, ?_, fun _ => ?_, fun _ => ?_, ?_, ?_, ?_⟩⟩
  · rw [hJ1]
    exact w231_ok xs L (d + 50) I J X (Int32.ofNat l) (Int32.ofNat n) c I1 Jb X3 0 hcls
  · have S := zcS (as := [.ref 61, .int (Int32.ofNat l), .int (Int32.ofNat n), .int c]) (S210_0 xs L (d + 50) I1 J1 X3 (Int32.ofNat l) (Int32.ofNat n) c)
    have i61 : I1 61 = I 61 := i1 61 (by decide) (by omega) (by omega)
    have k1 : decide (¬ zbi (¬ Int32.ofNat l < 0 ∧ ¬ I1 61 3 ≤ Int32.ofNat l) = 0) = true := decide_eq_true (fun z => (zbi_eq0.mp z) (by
      rw [i61]
      simp only [i32_lt, i32_le, Int32.reduceToInt]
      omega))
    have k2 : ¬ decide (Int32.ofNat n < 0) = true := fun z => by
      have z := i32_lt.mp (of_decide_eq_true z)
      have : (0 : Int32).toInt = 0 := by decide
      omega
    have k3 : decide (Int32.ofNat n ≤ I1 61 57) = true := decide_eq_true (i32_le.mpr (by
      rw [i61]
      omega))
    have k5 : ¬ decide (c < 0) = true := fun z => by
      have z := i32_lt.mp (of_decide_eq_true z)
      have : (0 : Int32).toInt = 0 := by decide
      omega
    have k6 : decide (c ≤ (129599 : Int32)) = true := decide_eq_true (i32_le.mpr (by
      have : (129599 : Int32).toInt = 129599 := by decide
      omega))
    have z36 : zix 0 37 0 (36 : Int32) := by decide
    have c36 : (36 : Int32).toNatClampNeg = 36 := by decide
    rw [if_pos k1, if_neg k2, if_pos k3, if_neg k5, if_pos k6, ← hM1, e1, zci_i, T210_5_6_670 xs L (d + 50), if_pos (show decide ((0 : Int32) = 0) = true by decide), if_pos z36, c36, ← hM2, q1, zcl_l, T210_6_11_658 xs L (d + 50), ← hM4, u1, zcl_l, T210_6_19_650 xs L (d + 50), ← hI2, ← hJ2] at S
    exact S
  · rw [t561 1 (by decide) (by decide) (by decide), m261 1 (by decide), hM1]
    rfl
  · rw [hJ2, hJ1]
    rfl
  · rw [hX3]
    show 123 ≤ X2.2.2.1
    omega
  · rw [i2o 16 (by decide), i1 16 (by decide) (by omega) (by omega)]
    exact hT.2.1
  · rw [i2o 19 (by decide), i1_19, i2o 92 (by decide), i1 92 (by decide) (by omega) (by omega)]
    exact (hT.2.2 l' hl').1
  · rw [i2o 92 (by decide), i1 92 (by decide) (by omega) (by omega)] at hi
    have hx' := hx l' hl'
    have := nv_int hx'.1
    have hF : yFx 36 X.2.2.1 I I2 := by
      refine ⟨fun q k1 k2 => ?_, fun a j ha hj => ?_, fun a j ha hj => ?_, fun j hj => ?_⟩
      · rw [i2o q (by simp only [List.mem_cons, List.not_mem_nil, or_false]; omega), i1 q (by simp only [List.mem_cons, List.not_mem_nil, or_false]; omega) (by omega) (by omega)]
      · have ha' := ha
        simp only [List.mem_cons, List.not_mem_nil, or_false] at ha
        rw [t5 a (by omega) (by simp only [List.mem_cons, List.not_mem_nil, or_false]; omega)]
        by_cases e : a = 94
        · rw [e, G2.1 94 (by decide) (by decide) (by decide)]
        · exact G2.2.2.2.2.1 a j (by simp only [List.mem_cons, List.not_mem_nil, or_false]; omega) hj
      · have ha' := ha
        simp only [List.mem_cons, List.not_mem_nil, or_false] at ha
        rw [t5 a (by omega) (by simp only [List.mem_cons, List.not_mem_nil, or_false]; omega)]
        exact G2.2.2.2.2.2.1 a j ha' hj
      · rw [t5 101 (by decide) (by decide)]
        exact G2.2.2.2.2.2.2.1 j hj
    have hXX : yFX (5 * l + m) X X3 := by
      rw [hX3]
      refine ⟨fun j hj => ?_, fun q k k1 k2 => ?_, fun q k2 => xk q k2, ?_⟩
      · rw [zXr_k hj]
        exact x18 j hj
      · rw [show (zXr X2 18 (5 * l + m) none).1 q = X2.1 q from zXr_o (by omega)]
        exact xr q k k1 k2
      · show X.2.2.1 ≤ X2.2.2.1
        omega
    have hne : 5 * l' + i ≠ 5 * l + m := fun z => by
      have e : l' = l := by omega
      rw [e] at hi
      omega
    exact yEn_keep hF hXX rfl (by omega) hne ((hT.2.2 l' hl').2 i hi)
  · rw [← ht]
    refine ⟨fun q hq q6 => ?_, fun k hk => ?_⟩
    · have hq' := hq
      simp only [List.mem_cons, List.not_mem_nil, or_false] at hq
      rw [i2o q (by simp only [List.mem_cons, List.not_mem_nil, or_false]; omega)]
      exact frI1 q hq' q6
    · have hk' := hk
      simp only [List.mem_cons, List.not_mem_nil, or_false] at hk
      rw [t561 k (by omega) (by omega) (by omega)]
      exact G2.2.1 k hk'
  · rw [i2o 0 (by decide), i1_0 11 (by decide), a00 11 (by decide)]
  · rw [i2o 35 (by decide), i1_35, a351, t561 57 (by decide) (by decide) (by decide), m261 57 (by decide), hM1]
    rfl
  · rw [t561 57 (by decide) (by decide) (by decide), m261 57 (by decide), hM1]
    exact (show 0 ≤ (0 : Int32).toInt by decide)
  · rw [t561 57 (by decide) (by decide) (by decide), m261 57 (by decide), hM1]
    exact (show (0 : Int32).toInt ≤ 400 by decide)
  · rw [i2o 36 (by decide), i2o 104 (by decide), i1 36 (by decide) (by omega) (by omega), i1 104 (by decide) (by omega) (by omega)]
    exact hP.2.1
  · rw [t561 57 (by decide) (by decide) (by decide), m261 57 (by decide), hM1] at hk
    exact absurd hk (Nat.not_lt_zero k)
  · unfold PWk
    rw [i2o 49 (by decide), i1_49]
    exact wH4
  · rw [hI2]
    exact zup_at
  · rw [i2o 0 (by decide), i1_0 12 (by decide), a012, t561 67 (by decide) (by decide) (by decide), hM2]
    exact ((zup_k (by decide)).trans e4).symm
  · rw [i2o 0 (by decide), i1_13, j2]
  · rw [hX3]
    show X.2.2.1 ≤ X2.2.2.1
    omega
  · rw [hX3, hX2]
    exact Nat.le_refl _
  · rw [hX3, hX2]
    show X.2.2.2.2 + 5 + mm ≤ _
    omega
