/-! THE PURE PART: each call keeps what holds between calls. Written by program (wip/whole/mk97992.py). -/
def yStep (xs : Nat → Int32) (L p : Nat) (I : Nat → Nat → Int32) (J : Nat → Nat → Int64) (X : XH) : Prop := ∃ I2 J2 X2 C2, zgo xs L 60 239 2 (yLO p) (zmk I J X) = zgo xs L 60 239 2 (yLO (p + 7)) (zmk I2 J2 X2) ∧ PALL I2 J2 X2 C2 ∧ PRm X X2
theorem st_land (xs : Nat → Int32) (L p : Nat) (hp : p + 7 ≤ L) (hL : L ≤ 3584) (hc : xs p &&& 31 = 0) (I : Nat → Nat → Int32) (J : Nat → Nat → Int64) (X : XH) {C : Nat → List (Bool × List Int32)} (q : PALL I J X C) : yStep xs L p I J X := by
  have q0 := q
  obtain ⟨⟨hN, hLd, hF, hS, hDi, hR, hx⟩, hK, hRt, hP, hW, hWy, hT, h54, h12, h13, hz⟩ := q
  obtain ⟨v, I1, I2, e1, e2, e3, fr, e5, m3, e7⟩ := a_land xs L 53 I J X hLd
  have m : ∀ k, k ∉ [1, 3] → (I 61 k).toInt ≤ (I2 61 k).toInt := fun k hk => mono_k fr hk
  have e9 : ∀ l, l < 9 → I2 92 l = I 92 l := fun l hl => by
    rcases e7 with e7 | e7
    · rw [e7]
    · rw [e7]
      by_cases c : l = nv (I 61 3)
      · rw [c, zset_at]
        exact (hz _ (by omega) (Nat.le_refl _)).symm
      · exact zset_ne c
  have n1 := nv_int hLd.2.1
  have n2 := nv_int e3.2.1
  have hFx : yFx 37 X.2.2.1 I I2 := ⟨fun b b1 b2 => fr.1 b (fun z => by
    simp only [List.mem_cons, List.not_mem_nil, or_false] at z
    omega) (by omega), fun a j ha _ => by
    simp only [List.mem_cons, List.not_mem_nil, or_false] at ha
    rw [fr.1 a (fun z => by
      simp only [List.mem_cons, List.not_mem_nil, or_false] at z
      omega) (by omega)], fun a j ha _ => by
    simp only [List.mem_cons, List.not_mem_nil, or_false] at ha
    rw [fr.1 a (fun z => by
      simp only [List.mem_cons, List.not_mem_nil, or_false] at z
      omega) (by omega)], fun j _ => by rw [fr.1 101 (by decide) (by decide)]⟩
  have hXX : yFX 45 X X := ⟨fun _ _ => rfl, fun _ _ _ _ => rfl, fun _ _ => rfl, Nat.le_refl _⟩
  refine ⟨I2, J, X, C, law_land xs L 60 p (by decide) hp hL hc I J X v e1 e2, ⟨⟨PNow_fr fr (by decide) (by decide) hN, e3, PFleet_fr fr (by decide) (by decide) hF, PSig_fr fr (by decide) (by decide) (m 7 (by decide)) (m 4 (by decide)) (m 2 (by decide)) hS, PDis_fr fr (by decide) (by decide) (by decide) (m 19 (by decide)) (m 4 (by decide)) hDi, PRoad_fr fr (by decide) (by decide) e5 m3 hR, fun l hl => by rw [e9 l hl]; exact hx l hl⟩, PBlk_fr fr (by decide) (by decide) hK, PRat_fr fr (by decide) (by decide) hRt, PTape_fr fr (by decide) (by decide) hP, PWk_fr fr (by decide) hW, PWay_fr fr (by decide) (by decide) (m 4 (by decide)) hWy, ⟨hT.1, by rw [fr.1 16 (by decide) (by decide)]; exact hT.2.1, fun l hl => ⟨by rw [fr.1 19 (by decide) (by decide), e9 l hl]; exact (hT.2.2 l hl).1, fun i hi => ?_⟩⟩, by rw [fr.2 54 (by decide)]; exact h54, by rw [fr.1 0 (by decide) (by decide), fr.2 67 (by decide)]; exact h12, by rw [fr.1 0 (by decide) (by decide)]; exact h13, fun l hl hn => ?_⟩, PRm_e (Or.inl rfl)⟩
  · rw [e9 l hl] at hi
    have h92 := hx l hl
    have := nv_int h92.1
    exact yEn_keep hFx hXX rfl (by omega) (by omega) ((hT.2.2 l hl).2 i hi)
  · rw [e9 l hl]
    exact hz l hl (by omega)
theorem st_road (xs : Nat → Int32) (L p : Nat) (hp : p + 7 ≤ L) (hL : L ≤ 3584) (hc : xs p &&& 31 = 1) (I : Nat → Nat → Int32) (J : Nat → Nat → Int64) (X : XH) {C : Nat → List (Bool × List Int32)} (q : PALL I J X C) : yStep xs L p I J X := by
  have q0 := q
  obtain ⟨⟨hN, hLd, hF, hS, hDi, hR, hx⟩, hK, hRt, hP, hW, hWy, hT, h54, h12, h13, hz⟩ := q
  obtain ⟨I2, J2, X2, ⟨k, v, I1, e1, e2, e3, e4⟩, r1, fr, e10, m4, hJ, hX⟩ := a_road xs L 49 I J X (xs (p + 1)) (xs (p + 2)) (xs (p + 3)) (xs (p + 4)) (xs (p + 5)) (if xs (p + 6) = 0 then 0 else 1) (by split <;> decide) hLd hR
  exact ⟨I2, J2, X2, C, law_road xs L 60 p (by decide) hp hL hc I J X (if xs (p + 6) = 0 then 0 else 1) rfl k v e1 e2 e3 e4, PALL_k fr q0 hX (zOut_61 hJ) (mono_k fr (by decide)) m4 (mono_k fr (by decide)) (mono_k fr (by decide)) (Or.inr (by decide)) (Or.inl (by unfold PLand; rw [e10, fr.2 3 (by decide)]; exact hLd)) (Or.inr (by decide)) (Or.inr (by decide)) (Or.inr (by decide)) (Or.inl r1) (Or.inr (by decide)) (Or.inr (by decide)) (Or.inr (by decide)) (Or.inr (by decide)) (Or.inr (by decide)) ⟨by decide, by decide⟩ (Or.inr (by decide))⟩
theorem st_provider (xs : Nat → Int32) (L p : Nat) (hp : p + 7 ≤ L) (hL : L ≤ 3584) (hc : xs p &&& 31 = 2) (I : Nat → Nat → Int32) (J : Nat → Nat → Int64) (X : XH) {C : Nat → List (Bool × List Int32)} (q : PALL I J X C) : yStep xs L p I J X := by
  have q0 := q
  obtain ⟨⟨hN, hLd, hF, hS, hDi, hR, hx⟩, hK, hRt, hP, hW, hWy, hT, h54, h12, h13, hz⟩ := q
  obtain ⟨v, I1, I2, e1, e2, r1, fr⟩ := a_provider xs L 53 I J X (xs (p + 1)) hF
  exact ⟨I2, J, X, C, law_provider xs L 60 p (by decide) hp hL hc I J X v e1 e2, PALL_k fr q0 (Or.inl rfl) rfl (mono_k fr (by decide)) (mono_k fr (by decide)) (mono_k fr (by decide)) (mono_k fr (by decide)) (Or.inr (by decide)) (Or.inr (by decide)) (Or.inl r1) (Or.inr (by decide)) (Or.inr (by decide)) (Or.inr (by decide)) (Or.inr (by decide)) (Or.inr (by decide)) (Or.inr (by decide)) (Or.inr (by decide)) (Or.inr (by decide)) ⟨by decide, by decide⟩ (Or.inr (by decide))⟩
theorem st_lorry (xs : Nat → Int32) (L p : Nat) (hp : p + 7 ≤ L) (hL : L ≤ 3584) (hc : xs p &&& 31 = 3) (I : Nat → Nat → Int32) (J : Nat → Nat → Int64) (X : XH) {C : Nat → List (Bool × List Int32)} (q : PALL I J X C) : yStep xs L p I J X := by
  have q0 := q
  obtain ⟨⟨hN, hLd, hF, hS, hDi, hR, hx⟩, hK, hRt, hP, hW, hWy, hT, h54, h12, h13, hz⟩ := q
  obtain ⟨v, I1, I2, e1, e2, r1, fr⟩ := a_lorry xs L 53 I J X (xs (p + 1)) (xs (p + 2)) hF
  exact ⟨I2, J, X, C, law_lorry xs L 60 p (by decide) hp hL hc I J X v e1 e2, PALL_k fr q0 (Or.inl rfl) rfl (mono_k fr (by decide)) (mono_k fr (by decide)) (mono_k fr (by decide)) (mono_k fr (by decide)) (Or.inr (by decide)) (Or.inr (by decide)) (Or.inl r1) (Or.inr (by decide)) (Or.inr (by decide)) (Or.inr (by decide)) (Or.inr (by decide)) (Or.inr (by decide)) (Or.inr (by decide)) (Or.inr (by decide)) (Or.inr (by decide)) ⟨by decide, by decide⟩ (Or.inr (by decide))⟩
theorem st_box (xs : Nat → Int32) (L p : Nat) (hp : p + 7 ≤ L) (hL : L ≤ 3584) (hc : xs p &&& 31 = 4) (I : Nat → Nat → Int32) (J : Nat → Nat → Int64) (X : XH) {C : Nat → List (Bool × List Int32)} (q : PALL I J X C) : yStep xs L p I J X := by
  have q0 := q
  obtain ⟨⟨hN, hLd, hF, hS, hDi, hR, hx⟩, hK, hRt, hP, hW, hWy, hT, h54, h12, h13, hz⟩ := q
  obtain ⟨I2, J2, X2, ⟨k, v, I1, e1, e2, e3, e4⟩, r1, fr, hJ, hX, m7⟩ := a_box xs L 52 I J X (xs (p + 1)) (xs (p + 2)) hF
  exact ⟨I2, J2, X2, C, law_box xs L 60 p (by decide) hp hL hc I J X k v e1 e2 e3 e4, PALL_k fr q0 hX (zOut_61 hJ) (mono_k fr (by decide)) (mono_k fr (by decide)) m7 (mono_k fr (by decide)) (Or.inr (by decide)) (Or.inr (by decide)) (Or.inl r1) (Or.inr (by decide)) (Or.inr (by decide)) (Or.inr (by decide)) (Or.inr (by decide)) (Or.inr (by decide)) (Or.inr (by decide)) (Or.inr (by decide)) (Or.inr (by decide)) ⟨by decide, by decide⟩ (Or.inr (by decide))⟩
theorem st_go (xs : Nat → Int32) (L p : Nat) (hp : p + 7 ≤ L) (hL : L ≤ 3584) (hc : xs p &&& 31 = 5) (I : Nat → Nat → Int32) (J : Nat → Nat → Int64) (X : XH) {C : Nat → List (Bool × List Int32)} (q : PALL I J X C) : yStep xs L p I J X := by
  have q0 := q
  obtain ⟨⟨hN, hLd, hF, hS, hDi, hR, hx⟩, hK, hRt, hP, hW, hWy, hT, h54, h12, h13, hz⟩ := q
  obtain ⟨I2, J2, X2, ⟨k, v, I1, e1, e2, e3, e4⟩, r1, fr, g1, g2, m2, hJ, hX⟩ := a_go xs L 52 I J X (xs (p + 1)) hN
  exact ⟨I2, J2, X2, C, law_go xs L 60 p (by decide) hp hL hc I J X k v e1 e2 e3 e4, PALL_k fr q0 hX (zOut_61 hJ) m2 (mono_k fr (by decide)) (mono_k fr (by decide)) (mono_k fr (by decide)) (Or.inl r1) (Or.inr (by decide)) (Or.inr (by decide)) (Or.inr (by decide)) (Or.inr (by decide)) (Or.inr (by decide)) (Or.inr (by decide)) (Or.inr (by decide)) (Or.inr (by decide)) (Or.inr (by decide)) (Or.inr (by decide)) ⟨by decide, by decide⟩ (Or.inl ⟨g1, g2⟩)⟩
theorem st_signal (xs : Nat → Int32) (L p : Nat) (hp : p + 7 ≤ L) (hL : L ≤ 3584) (hc : xs p &&& 31 = 6) (I : Nat → Nat → Int32) (J : Nat → Nat → Int64) (X : XH) {C : Nat → List (Bool × List Int32)} (q : PALL I J X C) : yStep xs L p I J X := by
  have q0 := q
  obtain ⟨⟨hN, hLd, hF, hS, hDi, hR, hx⟩, hK, hRt, hP, hW, hWy, hT, h54, h12, h13, hz⟩ := q
  obtain ⟨I2, J2, X2, ⟨k, v, I1, e1, e2, e3, e4⟩, r1, fr, hJ, hX, m19⟩ := a_signal xs L 50 I J X (xs (p + 1)) (xs (p + 2)) (xs (p + 3)) hN hF.2.2.1.1 hR.1 (PRoad_gan hR) hS
  exact ⟨I2, J2, X2, C, law_signal xs L 60 p (by decide) hp hL hc I J X k v e1 e2 e3 e4, PALL_k fr q0 hX (zOut_61 hJ) (mono_k fr (by decide)) (mono_k fr (by decide)) (mono_k fr (by decide)) m19 (Or.inr (by decide)) (Or.inr (by decide)) (Or.inr (by decide)) (Or.inl r1) (Or.inr (by decide)) (Or.inr (by decide)) (Or.inr (by decide)) (Or.inr (by decide)) (Or.inr (by decide)) (Or.inr (by decide)) (Or.inr (by decide)) ⟨by decide, by decide⟩ (Or.inr (by decide))⟩
theorem st_back (xs : Nat → Int32) (L p : Nat) (hp : p + 7 ≤ L) (hL : L ≤ 3584) (hc : xs p &&& 31 = 7) (I : Nat → Nat → Int32) (J : Nat → Nat → Int64) (X : XH) {C : Nat → List (Bool × List Int32)} (q : PALL I J X C) : yStep xs L p I J X := by
  have q0 := q
  obtain ⟨⟨hN, hLd, hF, hS, hDi, hR, hx⟩, hK, hRt, hP, hW, hWy, hT, h54, h12, h13, hz⟩ := q
  obtain ⟨I2, J2, X2, ⟨k, v, I1, e1, e2, e3, e4⟩, r1, fr, hJ, hX⟩ := a_back xs L 52 I J X (xs (p + 1)) hN hS
  exact ⟨I2, J2, X2, C, law_back xs L 60 p (by decide) hp hL hc I J X k v e1 e2 e3 e4, PALL_k fr q0 hX (zOut_61 hJ) (mono_k fr (by decide)) (mono_k fr (by decide)) (mono_k fr (by decide)) (mono_k fr (by decide)) (Or.inr (by decide)) (Or.inr (by decide)) (Or.inr (by decide)) (Or.inl r1) (Or.inr (by decide)) (Or.inr (by decide)) (Or.inr (by decide)) (Or.inr (by decide)) (Or.inr (by decide)) (Or.inr (by decide)) (Or.inr (by decide)) ⟨by decide, by decide⟩ (Or.inr (by decide))⟩
theorem st_dispute (xs : Nat → Int32) (L p : Nat) (hp : p + 7 ≤ L) (hL : L ≤ 3584) (hc : xs p &&& 31 = 8) (I : Nat → Nat → Int32) (J : Nat → Nat → Int64) (X : XH) {C : Nat → List (Bool × List Int32)} (q : PALL I J X C) : yStep xs L p I J X := by
  have q0 := q
  obtain ⟨⟨hN, hLd, hF, hS, hDi, hR, hx⟩, hK, hRt, hP, hW, hWy, hT, h54, h12, h13, hz⟩ := q
  obtain ⟨I2, J2, X2, ⟨k, v, I1, e1, e2, e3, e4⟩, r1, fr, hJ, hX⟩ := a_dispute xs L 52 I J X (xs (p + 1)) hS.1 hDi
  exact ⟨I2, J2, X2, C, law_dispute xs L 60 p (by decide) hp hL hc I J X k v e1 e2 e3 e4, PALL_k fr q0 hX (zOut_61 hJ) (mono_k fr (by decide)) (mono_k fr (by decide)) (mono_k fr (by decide)) (mono_k fr (by decide)) (Or.inr (by decide)) (Or.inr (by decide)) (Or.inr (by decide)) (Or.inr (by decide)) (Or.inl r1) (Or.inr (by decide)) (Or.inr (by decide)) (Or.inr (by decide)) (Or.inr (by decide)) (Or.inr (by decide)) (Or.inr (by decide)) ⟨by decide, by decide⟩ (Or.inr (by decide))⟩
theorem st_decide (xs : Nat → Int32) (L p : Nat) (hp : p + 7 ≤ L) (hL : L ≤ 3584) (hc : xs p &&& 31 = 9) (I : Nat → Nat → Int32) (J : Nat → Nat → Int64) (X : XH) {C : Nat → List (Bool × List Int32)} (q : PALL I J X C) : yStep xs L p I J X := by
  have q0 := q
  obtain ⟨⟨hN, hLd, hF, hS, hDi, hR, hx⟩, hK, hRt, hP, hW, hWy, hT, h54, h12, h13, hz⟩ := q
  obtain ⟨I2, J2, X2, ⟨k, v, I1, e1, e2, e3, e4⟩, r1, fr, hJ, hX⟩ := a_decide xs L 50 I J X (xs (p + 1)) (xs (p + 2)) (xs (p + 3)) hN ⟨hR.1.1, hR.1.2.2⟩ (PRoad_gan hR) hDi
  exact ⟨I2, J2, X2, C, law_decide xs L 60 p (by decide) hp hL hc I J X k v e1 e2 e3 e4, PALL_k fr q0 hX (zOut_61 hJ) (mono_k fr (by decide)) (mono_k fr (by decide)) (mono_k fr (by decide)) (mono_k fr (by decide)) (Or.inr (by decide)) (Or.inr (by decide)) (Or.inr (by decide)) (Or.inr (by decide)) (Or.inl r1) (Or.inr (by decide)) (Or.inr (by decide)) (Or.inr (by decide)) (Or.inr (by decide)) (Or.inr (by decide)) (Or.inr (by decide)) ⟨by decide, by decide⟩ (Or.inr (by decide))⟩
theorem st_feed (xs : Nat → Int32) (L p : Nat) (hp : p + 7 ≤ L) (hL : L ≤ 3584) (hc : xs p &&& 31 = 10) (I : Nat → Nat → Int32) (J : Nat → Nat → Int64) (X : XH) {C : Nat → List (Bool × List Int32)} (q : PALL I J X C) : yStep xs L p I J X := by
  have q0 := q
  obtain ⟨⟨hN, hLd, hF, hS, hDi, hR, hx⟩, hK, hRt, hP, hW, hWy, hT, h54, h12, h13, hz⟩ := q
  obtain ⟨v, I1, I2, e1, e2, r1, fr⟩ := a_feed xs L 53 I J X (xs (p + 1)) (xs (p + 2)) (xs (p + 3)) (xs (p + 4)) (xs (p + 5)) hP
  exact ⟨I2, J, X, C, law_feed xs L 60 p (by decide) hp hL hc I J X v e1 e2, PALL_k fr q0 (Or.inl rfl) rfl (mono_k fr (by decide)) (mono_k fr (by decide)) (mono_k fr (by decide)) (mono_k fr (by decide)) (Or.inr (by decide)) (Or.inr (by decide)) (Or.inr (by decide)) (Or.inr (by decide)) (Or.inr (by decide)) (Or.inr (by decide)) (Or.inr (by decide)) (Or.inr (by decide)) (Or.inl r1) (Or.inr (by decide)) (Or.inr (by decide)) ⟨by decide, by decide⟩ (Or.inr (by decide))⟩
theorem ySt_no {t b : Nat} (ht : 123 ≤ t) (h : b < 123) (hb : b ∉ [0, 19, 35, 37, 38, 92, 93, 94, 95, 96, 97, 98, 99, 100, 101]) : b ∉ ySt t := by
  simp only [List.mem_cons, List.not_mem_nil, or_false] at hb ⊢
  omega
theorem allt_no {t : Nat} {l : List Nat} (ht : 123 ≤ t) (h : ∀ b, b ∈ l → b < 123 ∧ b ∉ [0, 19, 35, 37, 38, 92, 93, 94, 95, 96, 97, 98, 99, 100, 101]) : ∀ b, b ∈ l → b ∉ ySt t := fun b hb => ySt_no ht (h b hb).1 (h b hb).2
theorem st_terms (xs : Nat → Int32) (L p : Nat) (hp : p + 7 ≤ L) (hL : L ≤ 3584) (hc : xs p &&& 31 = 11) (I : Nat → Nat → Int32) (J : Nat → Nat → Int64) (X : XH) {C : Nat → List (Bool × List Int32)} (q : PALL I J X C) : yStep xs L p I J X := by
  have q0 := q
  obtain ⟨⟨hN, hLd, hF, hS, hDi, hR, hx⟩, hK, hRt, hP, hW, hWy, hT, h54, h12, h13, hz⟩ := q
  obtain ⟨I2, J2, X2, C2, ⟨k, v, I1, e1, e2, e3, e4⟩, t1, ⟨fr, e11, e13, tp, tx, e12, xn, xc, xs9, z92⟩, hJ⟩ := a_terms xs L 2 I J X (xs (p + 1)) (xs (p + 2)) (xs (p + 3)) hN hLd hP hx hT
  have ht := hT.1
  have m : ∀ k, k ∉ yTt → (I 61 k).toInt ≤ (I2 61 k).toInt := fun k hk => mono_k fr hk
  refine ⟨I2, J2, X2, C2, law_terms xs L 60 p (by decide) hp hL hc I J X k v e1 e2 e3 e4, ⟨⟨?_, PLand_fr fr (allt_no ht (by decide)) (by decide) hLd, PFleet_fr fr (allt_no ht (by decide)) (by decide) hF, PSig_fr fr (allt_no ht (by decide)) (by decide) (m 7 (by decide)) (m 4 (by decide)) (m 2 (by decide)) hS, PDis_fr fr (allt_no ht (by decide)) (by decide) (by decide) (m 19 (by decide)) (m 4 (by decide)) hDi, PRoad_fr fr (allt_no ht (by decide)) (by decide) (by rw [fr.1 1 (ySt_no ht (by decide) (by decide)) (by decide)]) (m 3 (by decide)) hR, tx⟩, PBlk_fr fr (allt_no ht (by decide)) (by decide) hK, PRat_fr fr (allt_no ht (by decide)) (by decide) hRt, tp, PWk_fr fr (ySt_no ht (by decide) (by decide)) hW, PWay_fr fr (allt_no ht (by decide)) (by decide) (m 4 (by decide)) hWy, t1, by rw [fr.2 54 (by decide)]; exact h54, e12 h12, by rw [e13, zOut_61 hJ]; exact h13, fun l hl hn => ?_⟩, ⟨xc, xs9⟩⟩
  · unfold PNow
    rw [e11, fr.2 2 (by decide)]
    exact hN
  · rw [fr.2 3 (by decide)] at hn
    rw [z92 l hl hn]
    exact hz l hl hn
theorem e105 (xs : Nat → Int32) (L D : Nat) (hD : 6 ≤ D) (I : Nat → Nat → Int32) (J : Nat → Nat → Int64) (X : XH) : zev xs L D 105 [.ref 0] (zmk I J X) = some (.inr (some (.int (I 0 12))), zmk I J X) := by
  obtain ⟨d, rfl⟩ := Nat.exists_eq_add_of_le hD
  rw [Nat.add_comm 6 d]
  have S : zseg (zE xs L (d + 5) 105) (zC 105) 700 (zC 105 0) [(0, .ref 0)] [] (zmk I J X) = some (.inr (.inr (some (.int (I 0 12))), zmk I J X)) := rfl
  refine (zcS S).trans ?_
  rfl
theorem e108 (xs : Nat → Int32) (L D : Nat) (hD : 6 ≤ D) (I : Nat → Nat → Int32) (J : Nat → Nat → Int64) (X : XH) : zev xs L D 108 [.ref 0] (zmk I J X) = some (.inr (some (.int (I 0 13))), zmk I J X) := by
  obtain ⟨d, rfl⟩ := Nat.exists_eq_add_of_le hD
  rw [Nat.add_comm 6 d]
  have S : zseg (zE xs L (d + 5) 108) (zC 108) 700 (zC 108 0) [(0, .ref 0)] [] (zmk I J X) = some (.inr (.inr (some (.int (I 0 13))), zmk I J X)) := rfl
  refine (zcS S).trans ?_
  rfl
theorem st_fault (xs : Nat → Int32) (L p : Nat) (hp : p + 7 ≤ L) (hL : L ≤ 3584) (hc : xs p &&& 31 = 12) (I : Nat → Nat → Int32) (J : Nat → Nat → Int64) (X : XH) {C : Nat → List (Bool × List Int32)} (q : PALL I J X C) : yStep xs L p I J X := by
  have q0 := q
  obtain ⟨⟨hN, hLd, hF, hS, hDi, hR, hx⟩, hK, hRt, hP, hW, hWy, hT, h54, h12, h13, hz⟩ := q
  have fr : zfr8 [] [1] I (zup I 61 1 0) := zfr8_m zfr8_rfl (by decide)
  have e1 : zev xs L 60 105 [.ref 0] (zmk I J X) = some (.inr (some (.int (I 0 12))), zmk I J X) := e105 xs L 60 (by decide) I J X
  have e2 : zev xs L 60 179 [.ref 61] (zmk I J X) = some (.inr (some (.int (I 0 12))), zmk (zup I 61 1 0) J X) := by
    refine (zcS (S179_0 xs L 54 I J X)).trans ?_
    rw [h12]
    rfl
  exact ⟨_, J, X, C, law_fault xs L 60 p (by decide) hp hL hc I J X _ e1 e2, PALL_k fr q0 (Or.inl rfl) rfl (mono_k fr (by decide)) (mono_k fr (by decide)) (mono_k fr (by decide)) (mono_k fr (by decide)) (Or.inr (by decide)) (Or.inr (by decide)) (Or.inr (by decide)) (Or.inr (by decide)) (Or.inr (by decide)) (Or.inr (by decide)) (Or.inr (by decide)) (Or.inr (by decide)) (Or.inr (by decide)) (Or.inr (by decide)) (Or.inr (by decide)) ⟨by decide, by decide⟩ (Or.inr (by decide))⟩
theorem st_black (xs : Nat → Int32) (L p : Nat) (hp : p + 7 ≤ L) (hL : L ≤ 3584) (hc : xs p &&& 31 = 13) (I : Nat → Nat → Int32) (J : Nat → Nat → Int64) (X : XH) {C : Nat → List (Bool × List Int32)} (q : PALL I J X C) : yStep xs L p I J X := by
  have q0 := q
  obtain ⟨⟨hN, hLd, hF, hS, hDi, hR, hx⟩, hK, hRt, hP, hW, hWy, hT, h54, h12, h13, hz⟩ := q
  obtain ⟨I2, J2, X2, ⟨k, v, I1, e1, e2, e3, e4⟩, r1, fr, hJ, hX⟩ := a_black xs L 52 I J X (xs (p + 1)) (if xs (p + 2) = 0 then 0 else 1) (xs (p + 3)) (by split; exact Or.inl rfl; exact Or.inr rfl) hN hF.2.2.1.1 hK
  exact ⟨I2, J2, X2, C, law_black xs L 60 p (by decide) hp hL hc I J X (if xs (p + 2) = 0 then 0 else 1) rfl k v e1 e2 e3 e4, PALL_k fr q0 hX (zOut_61 hJ) (mono_k fr (by decide)) (mono_k fr (by decide)) (mono_k fr (by decide)) (mono_k fr (by decide)) (Or.inr (by decide)) (Or.inr (by decide)) (Or.inr (by decide)) (Or.inr (by decide)) (Or.inr (by decide)) (Or.inr (by decide)) (Or.inl r1) (Or.inr (by decide)) (Or.inr (by decide)) (Or.inr (by decide)) (Or.inr (by decide)) ⟨by decide, by decide⟩ (Or.inr (by decide))⟩
theorem st_rate (xs : Nat → Int32) (L p : Nat) (hp : p + 7 ≤ L) (hL : L ≤ 3584) (hc : xs p &&& 31 = 14) (I : Nat → Nat → Int32) (J : Nat → Nat → Int64) (X : XH) {C : Nat → List (Bool × List Int32)} (q : PALL I J X C) : yStep xs L p I J X := by
  have q0 := q
  obtain ⟨⟨hN, hLd, hF, hS, hDi, hR, hx⟩, hK, hRt, hP, hW, hWy, hT, h54, h12, h13, hz⟩ := q
  obtain ⟨I2, J2, X2, ⟨k, v, I1, e1, e2, e3, e4⟩, r1, fr, hJ, hX⟩ := a_rate xs L 50 I J X (xs (p + 1)) (xs (p + 2)) (xs (p + 3)) hN hLd hRt
  exact ⟨I2, J2, X2, C, law_rate xs L 60 p (by decide) hp hL hc I J X k v e1 e2 e3 e4, PALL_k fr q0 hX (zOut_61 hJ) (mono_k fr (by decide)) (mono_k fr (by decide)) (mono_k fr (by decide)) (mono_k fr (by decide)) (Or.inr (by decide)) (Or.inr (by decide)) (Or.inr (by decide)) (Or.inr (by decide)) (Or.inr (by decide)) (Or.inr (by decide)) (Or.inr (by decide)) (Or.inl r1) (Or.inr (by decide)) (Or.inr (by decide)) (Or.inr (by decide)) ⟨by decide, by decide⟩ (Or.inr (by decide))⟩
theorem st_track (xs : Nat → Int32) (L p : Nat) (hp : p + 7 ≤ L) (hL : L ≤ 3584) (hc : xs p &&& 31 = 15) (I : Nat → Nat → Int32) (J : Nat → Nat → Int64) (X : XH) {C : Nat → List (Bool × List Int32)} (q : PALL I J X C) : yStep xs L p I J X := by
  have q0 := q
  obtain ⟨⟨hN, hLd, hF, hS, hDi, hR, hx⟩, hK, hRt, hP, hW, hWy, hT, h54, h12, h13, hz⟩ := q
  obtain ⟨I2, J2, X2, ⟨k, v, I1, J1, e1, e2, e3, e4⟩, fr, hJ, r1, hX⟩ := a_track xs L 46 I J X (xs (p + 1)) (xs (p + 2)) (xs (p + 3)) ⟨q0.1, hK, hRt, fun k => PTm_of hT h54 hx k, hW⟩
  exact ⟨I2, J2, X2, C, law_track xs L 60 p (by decide) hp hL hc I J X k v e1 e2 e3 e4, PALL_k fr q0 hX hJ (mono_k fr (by decide)) (mono_k fr (by decide)) (mono_k fr (by decide)) (mono_k fr (by decide)) (Or.inr (by decide)) (Or.inr (by decide)) (Or.inr (by decide)) (Or.inr (by decide)) (Or.inr (by decide)) (Or.inr (by decide)) (Or.inr (by decide)) (Or.inr (by decide)) (Or.inr (by decide)) (Or.inl r1) (Or.inr (by decide)) ⟨by decide, by decide⟩ (Or.inr (by decide))⟩
theorem st_passage (xs : Nat → Int32) (L p : Nat) (hp : p + 7 ≤ L) (hL : L ≤ 3584) (hc : xs p &&& 31 = 16) (I : Nat → Nat → Int32) (J : Nat → Nat → Int64) (X : XH) {C : Nat → List (Bool × List Int32)} (q : PALL I J X C) : yStep xs L p I J X := by
  have q0 := q
  obtain ⟨⟨hN, hLd, hF, hS, hDi, hR, hx⟩, hK, hRt, hP, hW, hWy, hT, h54, h12, h13, hz⟩ := q
  obtain ⟨I2, J2, X2, ⟨k, v, I1, J1, e1, e2, e3, e4⟩, fr, hJ, r1, hX⟩ := a_passage xs L 46 I J X (xs (p + 1)) (xs (p + 2)) (xs (p + 3)) (xs (p + 4)) ⟨q0.1, hK, hRt, fun k => PTm_of hT h54 hx k, hW⟩
  exact ⟨I2, J2, X2, C, law_passage xs L 60 p (by decide) hp hL hc I J X k v e1 e2 e3 e4, PALL_k fr q0 hX hJ (mono_k fr (by decide)) (mono_k fr (by decide)) (mono_k fr (by decide)) (mono_k fr (by decide)) (Or.inr (by decide)) (Or.inr (by decide)) (Or.inr (by decide)) (Or.inr (by decide)) (Or.inr (by decide)) (Or.inr (by decide)) (Or.inr (by decide)) (Or.inr (by decide)) (Or.inr (by decide)) (Or.inl r1) (Or.inr (by decide)) ⟨by decide, by decide⟩ (Or.inr (by decide))⟩
theorem st_due (xs : Nat → Int32) (L p : Nat) (hp : p + 7 ≤ L) (hL : L ≤ 3584) (hc : xs p &&& 31 = 17) (I : Nat → Nat → Int32) (J : Nat → Nat → Int64) (X : XH) {C : Nat → List (Bool × List Int32)} (q : PALL I J X C) : yStep xs L p I J X := by
  have q0 := q
  obtain ⟨⟨hN, hLd, hF, hS, hDi, hR, hx⟩, hK, hRt, hP, hW, hWy, hT, h54, h12, h13, hz⟩ := q
  obtain ⟨I2, J2, X2, ⟨k, v, I1, J1, e1, e2, e3, e4⟩, fr, hJ, r1, hX⟩ := a_due xs L 46 I J X (xs (p + 1)) (xs (p + 2)) (xs (p + 3)) (xs (p + 4)) ⟨q0.1, hK, hRt, fun k => PTm_of hT h54 hx k, hW⟩
  exact ⟨I2, J2, X2, C, law_due xs L 60 p (by decide) hp hL hc I J X k v e1 e2 e3 e4, PALL_k fr q0 hX hJ (mono_k fr (by decide)) (mono_k fr (by decide)) (mono_k fr (by decide)) (mono_k fr (by decide)) (Or.inr (by decide)) (Or.inr (by decide)) (Or.inr (by decide)) (Or.inr (by decide)) (Or.inr (by decide)) (Or.inr (by decide)) (Or.inr (by decide)) (Or.inr (by decide)) (Or.inr (by decide)) (Or.inl r1) (Or.inr (by decide)) ⟨by decide, by decide⟩ (Or.inr (by decide))⟩
theorem st_unpaid (xs : Nat → Int32) (L p : Nat) (hp : p + 7 ≤ L) (hL : L ≤ 3584) (hc : xs p &&& 31 = 18) (I : Nat → Nat → Int32) (J : Nat → Nat → Int64) (X : XH) {C : Nat → List (Bool × List Int32)} (q : PALL I J X C) : yStep xs L p I J X := by
  have q0 := q
  obtain ⟨⟨hN, hLd, hF, hS, hDi, hR, hx⟩, hK, hRt, hP, hW, hWy, hT, h54, h12, h13, hz⟩ := q
  obtain ⟨I2, J2, X2, ⟨k, v, I1, J1, e1, e2, e3, e4⟩, fr, hJ, r1, hX⟩ := a_unpaid xs L 46 I J X (xs (p + 1)) (xs (p + 2)) (xs (p + 3)) ⟨q0.1, hK, hRt, fun k => PTm_of hT h54 hx k, hW⟩
  exact ⟨I2, J2, X2, C, law_unpaid xs L 60 p (by decide) hp hL hc I J X k v e1 e2 e3 e4, PALL_k fr q0 hX hJ (mono_k fr (by decide)) (mono_k fr (by decide)) (mono_k fr (by decide)) (mono_k fr (by decide)) (Or.inr (by decide)) (Or.inr (by decide)) (Or.inr (by decide)) (Or.inr (by decide)) (Or.inr (by decide)) (Or.inr (by decide)) (Or.inr (by decide)) (Or.inr (by decide)) (Or.inr (by decide)) (Or.inl r1) (Or.inr (by decide)) ⟨by decide, by decide⟩ (Or.inr (by decide))⟩
theorem st_falls (xs : Nat → Int32) (L p : Nat) (hp : p + 7 ≤ L) (hL : L ≤ 3584) (hc : xs p &&& 31 = 19) (I : Nat → Nat → Int32) (J : Nat → Nat → Int64) (X : XH) {C : Nat → List (Bool × List Int32)} (q : PALL I J X C) : yStep xs L p I J X := by
  have q0 := q
  obtain ⟨⟨hN, hLd, hF, hS, hDi, hR, hx⟩, hK, hRt, hP, hW, hWy, hT, h54, h12, h13, hz⟩ := q
  obtain ⟨I2, J2, X2, ⟨k, v, I1, J1, e1, e2, e3, e4⟩, fr, hJ, r1, hX⟩ := a_falls xs L 46 I J X (xs (p + 1)) (xs (p + 2)) (xs (p + 3)) ⟨q0.1, hK, hRt, fun k => PTm_of hT h54 hx k, hW⟩
  exact ⟨I2, J2, X2, C, law_falls xs L 60 p (by decide) hp hL hc I J X k v e1 e2 e3 e4, PALL_k fr q0 hX hJ (mono_k fr (by decide)) (mono_k fr (by decide)) (mono_k fr (by decide)) (mono_k fr (by decide)) (Or.inr (by decide)) (Or.inr (by decide)) (Or.inr (by decide)) (Or.inr (by decide)) (Or.inr (by decide)) (Or.inr (by decide)) (Or.inr (by decide)) (Or.inr (by decide)) (Or.inr (by decide)) (Or.inl r1) (Or.inr (by decide)) ⟨by decide, by decide⟩ (Or.inr (by decide))⟩
theorem st_way (xs : Nat → Int32) (L p : Nat) (hp : p + 7 ≤ L) (hL : L ≤ 3584) (hc : xs p &&& 31 = 20) (I : Nat → Nat → Int32) (J : Nat → Nat → Int64) (X : XH) {C : Nat → List (Bool × List Int32)} (q : PALL I J X C) : yStep xs L p I J X := by
  have q0 := q
  obtain ⟨⟨hN, hLd, hF, hS, hDi, hR, hx⟩, hK, hRt, hP, hW, hWy, hT, h54, h12, h13, hz⟩ := q
  obtain ⟨I2, J2, X2, ⟨k, v, I1, e1, e2, e3, e4⟩, r1, fr, hJ, hX⟩ := a_way xs L 51 I J X (xs (p + 1)) (xs (p + 4)) (((xs (p + 2)).toInt64 <<< ((32 : Int32).toInt64 &&& 63)) ||| ((xs (p + 3)).toInt64 &&& Int64.ofNat 4294967295)) hWy hR.1.1
  exact ⟨I2, J2, X2, C, law_way xs L 60 p (by decide) hp hL hc I J X (((xs (p + 2)).toInt64 <<< ((32 : Int32).toInt64 &&& 63)) ||| ((xs (p + 3)).toInt64 &&& Int64.ofNat 4294967295)) rfl k v e1 e2 e3 e4, PALL_k fr q0 hX (zOut_61 hJ) (mono_k fr (by decide)) (mono_k fr (by decide)) (mono_k fr (by decide)) (mono_k fr (by decide)) (Or.inr (by decide)) (Or.inr (by decide)) (Or.inr (by decide)) (Or.inr (by decide)) (Or.inr (by decide)) (Or.inr (by decide)) (Or.inr (by decide)) (Or.inr (by decide)) (Or.inr (by decide)) (Or.inr (by decide)) (Or.inl r1) ⟨by decide, by decide⟩ (Or.inr (by decide))⟩
theorem st_cameras (xs : Nat → Int32) (L p : Nat) (hp : p + 7 ≤ L) (hL : L ≤ 3584) (hc : xs p &&& 31 = 21) (I : Nat → Nat → Int32) (J : Nat → Nat → Int64) (X : XH) {C : Nat → List (Bool × List Int32)} (q : PALL I J X C) : yStep xs L p I J X := by
  have q0 := q
  obtain ⟨⟨hN, hLd, hF, hS, hDi, hR, hx⟩, hK, hRt, hP, hW, hWy, hT, h54, h12, h13, hz⟩ := q
  obtain ⟨I2, J2, X2, ⟨k, v, I1, e1, e2, e3, e4⟩, r1, fr, hJ, hX⟩ := a_cameras xs L 49 I J X (xs (p + 1)) hWy hR.1.2.1
  exact ⟨I2, J2, X2, C, law_cameras xs L 60 p (by decide) hp hL hc I J X k v e1 e2 e3 e4, PALL_k fr q0 hX (zOut_61 hJ) (mono_k fr (by decide)) (mono_k fr (by decide)) (mono_k fr (by decide)) (mono_k fr (by decide)) (Or.inr (by decide)) (Or.inr (by decide)) (Or.inr (by decide)) (Or.inr (by decide)) (Or.inr (by decide)) (Or.inr (by decide)) (Or.inr (by decide)) (Or.inr (by decide)) (Or.inr (by decide)) (Or.inr (by decide)) (Or.inl r1) ⟨by decide, by decide⟩ (Or.inr (by decide))⟩
theorem st_sees (xs : Nat → Int32) (L p : Nat) (hp : p + 7 ≤ L) (hL : L ≤ 3584) (hc : xs p &&& 31 = 22) (I : Nat → Nat → Int32) (J : Nat → Nat → Int64) (X : XH) {C : Nat → List (Bool × List Int32)} (q : PALL I J X C) : yStep xs L p I J X := by
  have q0 := q
  obtain ⟨⟨hN, hLd, hF, hS, hDi, hR, hx⟩, hK, hRt, hP, hW, hWy, hT, h54, h12, h13, hz⟩ := q
  obtain ⟨v, I2, e1, e2, fr⟩ := a_sees xs L 53 I J X (xs (p + 1)) hWy
  exact ⟨I2, J, X, C, law_sees xs L 60 p (by decide) hp hL hc I J X v e1 e2, PALL_k fr q0 (Or.inl rfl) rfl (mono_k fr (by decide)) (mono_k fr (by decide)) (mono_k fr (by decide)) (mono_k fr (by decide)) (Or.inr (by decide)) (Or.inr (by decide)) (Or.inr (by decide)) (Or.inr (by decide)) (Or.inr (by decide)) (Or.inr (by decide)) (Or.inr (by decide)) (Or.inr (by decide)) (Or.inr (by decide)) (Or.inr (by decide)) (Or.inr (by decide)) ⟨by decide, by decide⟩ (Or.inr (by decide))⟩
theorem st_attempt (xs : Nat → Int32) (L p : Nat) (hp : p + 7 ≤ L) (hL : L ≤ 3584) (hc : xs p &&& 31 = 23) (I : Nat → Nat → Int32) (J : Nat → Nat → Int64) (X : XH) {C : Nat → List (Bool × List Int32)} (q : PALL I J X C) : yStep xs L p I J X := by
  have q0 := q
  obtain ⟨⟨hN, hLd, hF, hS, hDi, hR, hx⟩, hK, hRt, hP, hW, hWy, hT, h54, h12, h13, hz⟩ := q
  obtain ⟨I2, J2, X2, ⟨k, v, I1, J1, e1, e2, e3, e4⟩, t1, ⟨fr, e11, tp, wk, f54, e12, e13, xn, xc, xs9⟩⟩ := a_attempt xs L 4 I J X (xs (p + 1)) (xs (p + 2)) (xs (p + 3)) q0.1 hK hW hP hT h54
  have ht := hT.1
  have m : ∀ k, k ∉ yTa → (I 61 k).toInt ≤ (I2 61 k).toInt := fun k hk => mono_k fr hk
  refine ⟨I2, J2, X2, C, law_attempt xs L 60 p (by decide) hp hL hc I J X k v e1 e2 e3 e4, ⟨PB_a ht fr e11 q0.1, PBlk_a ht fr hK, PRat_fr fr (all_no ht (by decide)) (by decide) hRt, tp, wk, PWay_fr fr (all_no ht (by decide)) (by decide) (m 4 (by decide)) hWy, t1, f54, e12 h12, e13 h13, fun l hl hn => ?_⟩, ⟨xc, xs9⟩⟩
  rw [fr.2 3 (by decide)] at hn
  rw [fr.1 92 (ySa_no ht (by decide) (by decide)) (by decide)]
  exact hz l hl hn
theorem st_more (xs : Nat → Int32) (L p : Nat) (hp : p + 7 ≤ L) (hL : L ≤ 3584) (hc : xs p &&& 31 = 24) (I : Nat → Nat → Int32) (J : Nat → Nat → Int64) (X : XH) {C : Nat → List (Bool × List Int32)} (q : PALL I J X C) : yStep xs L p I J X := by
  have q0 := q
  obtain ⟨⟨hN, hLd, hF, hS, hDi, hR, hx⟩, hK, hRt, hP, hW, hWy, hT, h54, h12, h13, hz⟩ := q
  have fr : zfr8 [] [1] I (zup I 61 1 0) := zfr8_m zfr8_rfl (by decide)
  have e1 : zev xs L 60 108 [.ref 0] (zmk I J X) = some (.inr (some (.int (I 0 13))), zmk I J X) := e108 xs L 60 (by decide) I J X
  have e2 : zev xs L 60 212 [.ref 61] (zmk I J X) = some (.inr (some (.int (I 0 13))), zmk (zup I 61 1 0) J X) := by
    refine (zcS (S212_0 xs L 54 I J X)).trans ?_
    rw [h13]
    rfl
  exact ⟨_, J, X, C, law_more xs L 60 p (by decide) hp hL hc I J X _ e1 e2, PALL_k fr q0 (Or.inl rfl) rfl (mono_k fr (by decide)) (mono_k fr (by decide)) (mono_k fr (by decide)) (mono_k fr (by decide)) (Or.inr (by decide)) (Or.inr (by decide)) (Or.inr (by decide)) (Or.inr (by decide)) (Or.inr (by decide)) (Or.inr (by decide)) (Or.inr (by decide)) (Or.inr (by decide)) (Or.inr (by decide)) (Or.inr (by decide)) (Or.inr (by decide)) ⟨by decide, by decide⟩ (Or.inr (by decide))⟩
theorem st_count (xs : Nat → Int32) (L p : Nat) (hp : p + 7 ≤ L) (hL : L ≤ 3584) (hc : xs p &&& 31 = 25) (I : Nat → Nat → Int32) (J : Nat → Nat → Int64) (X : XH) {C : Nat → List (Bool × List Int32)} (q : PALL I J X C) : yStep xs L p I J X := by
  have q0 := q
  obtain ⟨⟨hN, hLd, hF, hS, hDi, hR, hx⟩, hK, hRt, hP, hW, hWy, hT, h54, h12, h13, hz⟩ := q
  obtain ⟨I2, J2, X2, ⟨k, v, I1, e1, e2, e3, e4⟩, fr, hJ, hX⟩ := a_count xs L 52 I J X (xs (p + 1)) hN.1 hLd.1 hR.1.1 hF.1.1 hF.2.1.1 hF.2.2.1.1 hS.1.1 hDi.1.1 hWy.1.1 hP.1.1
  exact ⟨I2, J2, X2, C, law_count xs L 60 p (by decide) hp hL hc I J X k v e1 e2 e3 e4, PALL_k fr q0 hX (zOut_61 hJ) (mono_k fr (by decide)) (mono_k fr (by decide)) (mono_k fr (by decide)) (mono_k fr (by decide)) (Or.inr (by decide)) (Or.inr (by decide)) (Or.inr (by decide)) (Or.inr (by decide)) (Or.inr (by decide)) (Or.inr (by decide)) (Or.inr (by decide)) (Or.inr (by decide)) (Or.inr (by decide)) (Or.inr (by decide)) (Or.inr (by decide)) ⟨by decide, by decide⟩ (Or.inr (by decide))⟩
theorem st_all (xs : Nat → Int32) (L p : Nat) (hp : p + 7 ≤ L) (hL : L ≤ 3584) (I : Nat → Nat → Int32) (J : Nat → Nat → Int64) (X : XH) {C : Nat → List (Bool × List Int32)} (q : PALL I J X C) : yStep xs L p I J X := by
  by_cases c0 : xs p &&& 31 = 0
  · exact st_land xs L p hp hL c0 I J X q
  by_cases c1 : xs p &&& 31 = 1
  · exact st_road xs L p hp hL c1 I J X q
  by_cases c2 : xs p &&& 31 = 2
  · exact st_provider xs L p hp hL c2 I J X q
  by_cases c3 : xs p &&& 31 = 3
  · exact st_lorry xs L p hp hL c3 I J X q
  by_cases c4 : xs p &&& 31 = 4
  · exact st_box xs L p hp hL c4 I J X q
  by_cases c5 : xs p &&& 31 = 5
  · exact st_go xs L p hp hL c5 I J X q
  by_cases c6 : xs p &&& 31 = 6
  · exact st_signal xs L p hp hL c6 I J X q
  by_cases c7 : xs p &&& 31 = 7
  · exact st_back xs L p hp hL c7 I J X q
  by_cases c8 : xs p &&& 31 = 8
  · exact st_dispute xs L p hp hL c8 I J X q
  by_cases c9 : xs p &&& 31 = 9
  · exact st_decide xs L p hp hL c9 I J X q
  by_cases c10 : xs p &&& 31 = 10
  · exact st_feed xs L p hp hL c10 I J X q
  by_cases c11 : xs p &&& 31 = 11
  · exact st_terms xs L p hp hL c11 I J X q
  by_cases c12 : xs p &&& 31 = 12
  · exact st_fault xs L p hp hL c12 I J X q
  by_cases c13 : xs p &&& 31 = 13
  · exact st_black xs L p hp hL c13 I J X q
  by_cases c14 : xs p &&& 31 = 14
  · exact st_rate xs L p hp hL c14 I J X q
  by_cases c15 : xs p &&& 31 = 15
  · exact st_track xs L p hp hL c15 I J X q
  by_cases c16 : xs p &&& 31 = 16
  · exact st_passage xs L p hp hL c16 I J X q
  by_cases c17 : xs p &&& 31 = 17
  · exact st_due xs L p hp hL c17 I J X q
  by_cases c18 : xs p &&& 31 = 18
  · exact st_unpaid xs L p hp hL c18 I J X q
  by_cases c19 : xs p &&& 31 = 19
  · exact st_falls xs L p hp hL c19 I J X q
  by_cases c20 : xs p &&& 31 = 20
  · exact st_way xs L p hp hL c20 I J X q
  by_cases c21 : xs p &&& 31 = 21
  · exact st_cameras xs L p hp hL c21 I J X q
  by_cases c22 : xs p &&& 31 = 22
  · exact st_sees xs L p hp hL c22 I J X q
  by_cases c23 : xs p &&& 31 = 23
  · exact st_attempt xs L p hp hL c23 I J X q
  by_cases c24 : xs p &&& 31 = 24
  · exact st_more xs L p hp hL c24 I J X q
  by_cases c25 : xs p &&& 31 = 25
  · exact st_count xs L p hp hL c25 I J X q
  exact ⟨I, J, X, C, law_none xs L 60 p hp hL _ c0 c1 c2 c3 c4 c5 c6 c7 c8 c9 c10 c11 c12 c13 c14 c15 c16 c17 c18 c19 c20 c21 c22 c23 c24 c25, q, PRm_e (Or.inl rfl)⟩
