/-! THE PURE PART: terms under trial: the state. -/
def ymx (A W : Nat → Nat → Int32) : Nat → Nat → Int32 := fun b => if b < 61 ∨ 122 < b then A b else W b
theorem ymx_a {A W : Nat → Nat → Int32} {b : Nat} (h : b < 61 ∨ 122 < b) : ymx A W b = A b := if_pos h
theorem ymx_w {A W : Nat → Nat → Int32} {b : Nat} (h : ¬ (b < 61 ∨ 122 < b)) : ymx A W b = W b := if_neg h
/-- what may change while terms are tried -/
abbrev ySa (t : Nat) : List Nat := [t, t + 1, 0, 19, 33, 34, 35, 37, 38, 49, 50, 51, 52, 93, 95, 96, 97, 98, 99, 100, 101, 102, 103, 108, 109, 110, 111, 112, 113, 114, 115, 116, 117, 118]
abbrev yTa : List Nat := [1, 54, 57, 58, 59, 60, 61, 62, 63, 64, 65, 66, 67, 68, 76, 77]
theorem ySa_no {t b : Nat} (ht : 123 ≤ t) (h : b < 123) (hb : b ∉ [0, 19, 33, 34, 35, 37, 38, 49, 50, 51, 52, 93, 95, 96, 97, 98, 99, 100, 101, 102, 103, 108, 109, 110, 111, 112, 113, 114, 115, 116, 117, 118]) : b ∉ ySa t := by
  simp only [List.mem_cons, List.not_mem_nil, or_false] at hb ⊢
  omega
theorem all_no {t : Nat} {l : List Nat} (ht : 123 ≤ t) (h : ∀ b, b ∈ l → b < 123 ∧ b ∉ [0, 19, 33, 34, 35, 37, 38, 49, 50, 51, 52, 93, 95, 96, 97, 98, 99, 100, 101, 102, 103, 108, 109, 110, 111, 112, 113, 114, 115, 116, 117, 118]) : ∀ b, b ∈ l → b ∉ ySa t := fun b hb => ySa_no ht (h b hb).1 (h b hb).2
theorem PB_a {I I2 : Nat → Nat → Int32} {t : Nat} (ht : 123 ≤ t) (h : zfr8 (ySa t) yTa I I2) (h0 : I2 0 11 = I 0 11) (p : PB I) : PB I2 := by
  obtain ⟨a1, a2, a3, a4, a5, a6, a7⟩ := p
  have e : ∀ k, k ∉ yTa → (I 61 k).toInt ≤ (I2 61 k).toInt := fun k hk => by
    rw [h.2 k hk]
    exact Int.le_refl _
  refine ⟨?_, PLand_fr h (all_no ht (by decide)) (by decide) a2, PFleet_fr h (all_no ht (by decide)) (by decide) a3, PSig_fr h (all_no ht (by decide)) (by decide) (e 7 (by decide)) (e 4 (by decide)) (e 2 (by decide)) a4, PDis_fr h (all_no ht (by decide)) (by decide) (by decide) (e 19 (by decide)) (e 4 (by decide)) a5, PRoad_fr h (all_no ht (by decide)) (by decide) (by rw [h.1 1 (ySa_no ht (by decide) (by decide)) (by decide)]) (e 3 (by decide)) a6, PTx_fr h (ySa_no ht (by decide) (by decide)) a7⟩
  unfold PNow
  rw [h0, h.2 2 (by decide)]
  exact a1
theorem PBlk_a {I I2 : Nat → Nat → Int32} {t : Nat} (ht : 123 ≤ t) (h : zfr8 (ySa t) yTa I I2) (p : PBlk I) : PBlk I2 := PBlk_fr h (all_no ht (by decide)) (by decide) p
/-- the terms of all lands with a text under trial in one of them, known from k on -/
theorem PTm_trial {I V : Nat → Nat → Int32} {X X2 : XH} {C C2 : Nat → List (Bool × List Int32)} {k : Int32} {l0 m t : Nat} (p : PT I X C) (hx : PTx I) (hl0 : l0 < 9) (hm : nv (I 92 l0) = m) (h54 : V 61 54 = Int32.ofNat l0) (h92 : V 92 = I 92) (h16 : V 16 = I 16) (h19n : ∀ l, l ≠ l0 → V 19 l = I 19 l) (h19 : V 19 l0 = Int32.ofNat (m + 1)) (h94 : V 94 = I 94) (hF : yFx 36 X.2.2.1 I V) (hX : ∀ j, j ≠ 5 * l0 + m → X2.1 18 j = X.1 18 j) (hXr : ∀ r k, 123 ≤ r → r < X.2.2.1 → X2.1 r k = X.1 r k) (hXk : ∀ r, r < X.2.2.1 → X2.2.1 r = X.2.1 r) (hn : X.2.2.1 ≤ X2.2.2.1) (hC : ∀ y, y ≠ 36 → C2 y = C y) (t1 : X2.1 18 (5 * l0 + m) = some t) (t2 : 123 ≤ t) (t3 : X2.2.1 t = (18, 0)) (t4 : V t 0 = V 93 36) (t5 : 0 ≤ (V t 0).toInt) (t6 : (V t 1).toInt ≤ k.toInt) (t7 : V t 2 = V 96 36) (t8 : V t 3 = V 97 36) (t9 : zTx V X2 C2 t 36) : PTm V X2 C2 k := by
  have hFX : yFX (5 * l0 + m) X X2 := ⟨hX, hXr, hXk, hn⟩
  intro l hl
  have p2 := p.2.2 l hl
  have h92l := hx l hl
  have n92 := nv_int h92l.1
  have hm4 := hx l0 hl0
  have nm := nv_int hm4.1
  rw [h92]
  by_cases cl : l = l0
  · subst cl
    have eN : zNm V l (nv (I 92 l)) = m + 1 := by
      unfold zNm
      rw [if_pos h54, hm]
    obtain ⟨ρ, hρ⟩ : ∃ ρ : Nat → Nat, ρ = fun i => (X2.1 18 (5 * l + i)).getD 0 := ⟨_, rfl⟩
    have et : ρ m = t := by
      rw [hρ]
      show (X2.1 18 (5 * l + m)).getD 0 = t
      rw [t1]
      rfl
    refine ⟨ρ, fun i => V (ρ i) 1, ⟨by omega, by rw [h92]; exact (nv_of h92l.1).symm, ⟨hl, ?_, ?_, ?_, fun i hi => ?_⟩, fun i hi => ?_, fun i hi hn => ?_, ?_, fun i hi => ?_⟩, fun i hi => ?_⟩
    · rw [eN]
      omega
    · rw [eN]
      exact h19
    · rw [h16]
      exact p.2.1.1
    · rw [eN] at hi
      by_cases ci : i = m
      · subst ci
        have eF : zFm V l (nv (I 92 l)) i = V 93 36 := if_neg (by omega)
        rw [et, eF]
        exact ⟨t1, t2, t3, t4, (show V t 1 = V (ρ i) 1 by rw [et]), by rw [← t4]; exact t5⟩
      · obtain ⟨r, r1, r2, r3, r4, r5, r6, r7⟩ := yEn_keep (C2 := C2) hF hFX (hC _ (by omega)) (by omega) (by omega) (p2.2 i (by omega))
        have er : ρ i = r := by
          rw [hρ]
          show (X2.1 18 (5 * l + i)).getD 0 = r
          rw [r1]
          rfl
        have eF : zFm V l (nv (I 92 l)) i = V 93 (4 * l + i) := if_pos (by omega)
        rw [er, eF]
        exact ⟨r1, r2, r4, r5.1, (show V r 1 = V (ρ i) 1 by rw [er]), by rw [← r5.1]; exact r5.2.1⟩
    · obtain ⟨r, r1, r2, r3, r4, r5, r6, r7⟩ := yEn_keep (C2 := C2) hF hFX (hC _ (by omega)) (by omega) (by omega) (p2.2 i hi)
      have er : ρ i = r := by
        rw [hρ]
        show (X2.1 18 (5 * l + i)).getD 0 = r
        rw [r1]
        rfl
      show V (ρ i) 1 = _
      rw [er]
      exact r5.2.2.1
    · rw [eN] at hi
      have : i = m := by omega
      show (V (ρ i) 1).toInt ≤ _
      rw [this, et]
      exact t6
    · rw [h16]
      exact ⟨p.2.1.2.1, p.2.1.2.2⟩
    · rw [eN] at hi
      by_cases ci : i = m
      · rw [ci, et, if_neg (by omega)]
        exact ⟨t7, t8⟩
      · obtain ⟨r, r1, r2, r3, r4, r5, r6, r7⟩ := yEn_keep (C2 := C2) hF hFX (hC _ (by omega)) (by omega) (by omega) (p2.2 i (by omega))
        have er : ρ i = r := by
          rw [hρ]
          show (X2.1 18 (5 * l + i)).getD 0 = r
          rw [r1]
          rfl
        rw [er, if_pos (by omega)]
        exact r5.2.2.2
    · rw [eN] at hi
      by_cases ci : i = m
      · have ez : zidx l (nv (I 92 l)) i = 36 := if_neg (by omega)
        rw [ez, ci, et]
        exact t9
      · obtain ⟨r, r1, r2, r3, r4, r5, r6, r7⟩ := yEn_keep (C2 := C2) hF hFX (hC _ (by omega)) (by omega) (by omega) (p2.2 i (by omega))
        have er : ρ i = r := by
          rw [hρ]
          show (X2.1 18 (5 * l + i)).getD 0 = r
          rw [r1]
          rfl
        have ez : zidx l (nv (I 92 l)) i = 4 * l + i := if_pos (by omega)
        rw [er, ez]
        exact r7
  · have eN : zNm V l (nv (I 92 l)) = nv (I 92 l) := by
      unfold zNm
      rw [h54]
      exact if_neg (fun z => cl (i32_nat_inj (by omega) (by omega) z).symm)
    obtain ⟨ρ, hρ⟩ : ∃ ρ : Nat → Nat, ρ = fun i => (X2.1 18 (5 * l + i)).getD 0 := ⟨_, rfl⟩
    have en : ∀ i, i < nv (I 92 l) → ∃ r, ρ i = r ∧ X2.1 18 (5 * l + i) = some r ∧ 123 ≤ r ∧ X2.2.1 r = (18, 0) ∧ (V r 0 = V 93 (4 * l + i) ∧ 0 ≤ (V r 0).toInt ∧ V r 1 = V 94 (4 * l + i) ∧ V r 2 = V 96 (4 * l + i) ∧ V r 3 = V 97 (4 * l + i)) ∧ zTx V X2 C2 r (4 * l + i) := fun i hi => by
      obtain ⟨r, r1, r2, r3, r4, r5, r6, r7⟩ := yEn_keep (C2 := C2) hF hFX (hC _ (by omega)) (by omega) (by omega) (p2.2 i hi)
      refine ⟨r, ?_, r1, r2, r4, r5, r7⟩
      rw [hρ]
      show (X2.1 18 (5 * l + i)).getD 0 = r
      rw [r1]
      rfl
    refine ⟨ρ, fun i => V 94 (4 * l + i), ⟨by omega, by rw [h92]; exact (nv_of h92l.1).symm, ⟨hl, ?_, ?_, ?_, fun i hi => ?_⟩, fun i _ => rfl, fun i hi hn => ?_, ?_, fun i hi => ?_⟩, fun i hi => ?_⟩
    · rw [eN]
      omega
    · rw [eN, h19n l cl, p2.1]
      exact (nv_of h92l.1).symm
    · rw [h16]
      exact p.2.1.1
    · rw [eN] at hi
      obtain ⟨r, er, r1, r2, r4, r5, r7⟩ := en i hi
      have eF : zFm V l (nv (I 92 l)) i = V 93 (4 * l + i) := if_pos hi
      rw [er, eF]
      exact ⟨r1, r2, r4, r5.1, r5.2.2.1, by rw [← r5.1]; exact r5.2.1⟩
    · rw [eN] at hi
      exact absurd hi hn
    · rw [h16]
      exact ⟨p.2.1.2.1, p.2.1.2.2⟩
    · rw [eN] at hi
      obtain ⟨r, er, r1, r2, r4, r5, r7⟩ := en i hi
      rw [er, if_pos hi]
      exact r5.2.2.2
    · rw [eN] at hi
      obtain ⟨r, er, r1, r2, r4, r5, r7⟩ := en i hi
      have ez : zidx l (nv (I 92 l)) i = 4 * l + i := if_pos hi
      rw [er, ez]
      exact r7
