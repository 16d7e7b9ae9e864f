/-! THE PURE PART: terms under trial, both sides. -/
theorem ret_i {v w : Int32} {h g : AH} {o : Option (Ret × AH)} (a : o = some (.inr (some (.int v)), h)) (b : o = some (.inr (some (.int w)), g)) : v = w ∧ h = g := by
  have q := Option.some.inj (a.symm.trans b)
  have q1 : (Sum.inr (some (Value.int v)) : Ret) = Sum.inr (some (Value.int w)) := congrArg Prod.fst q
  refine ⟨?_, congrArg Prod.snd q⟩
  injection q1 with q1
  injection q1 with q1
  injection q1
theorem yRd_cg {M W : Nat → Nat → Int32} {x : Nat} {C : List (Bool × List Int32)} {lt nr : Int32} (e : ∀ a, a ∈ [95, 96, 97, 98, 99, 100, 101] → W a = M a) (h : yRd M x C lt nr) : yRd W x C lt nr := by
  obtain ⟨h1, h2, h3, h4, h5, h6⟩ := h
  refine ⟨by rw [e 95 (by decide)]; exact h1, h2, zMc_fr2 C 0 0 h3 (fun a j ha _ _ => ?_) (fun j _ _ => by rw [e 101 (by decide)]), h4, by rw [e 96 (by decide)]; exact h5, by rw [e 97 (by decide)]; exact h6⟩
  simp only [List.mem_cons, List.not_mem_nil, or_false] at ha
  rw [e a (by simp only [List.mem_cons, List.not_mem_nil, or_false]; omega)]
/-- a call that tries terms, what it keeps -/
def yTry (I : Nat → Nat → Int32) (J : Nat → Nat → Int64) (X : XH) (I2 : Nat → Nat → Int32) (J2 : Nat → Nat → Int64) (X2 : XH) : Prop := zfr8 (ySa X.2.2.1) yTa I I2 ∧ I2 0 11 = I 0 11 ∧ PTape I2 ∧ PWk I2 ∧ I2 61 54 = -1 ∧ (I 0 12 = I 61 67 → I2 0 12 = I2 61 67) ∧ (I 0 13 = (J 61 55).toInt32 → I2 0 13 = (J2 61 55).toInt32) ∧ X.2.2.1 ≤ X2.2.2.1 ∧ X2.2.2.2.1 ≤ X.2.2.2.1 + 2 ∧ X2.2.2.2.2 ≤ X.2.2.2.2 + 410
/-- the rows of the model a text read at 36 may stand in -/
abbrev yMl : List Nat := [93, 95, 96, 97, 98, 99, 100, 101, 102, 103, 108, 109, 110, 111, 112, 113, 114, 115, 116, 117, 118]
/-- a heap whose model part is as I's but for a text at 36, land l under trial -/
def yGoodW (I W : Nat → Nat → Int32) (v54 c : Int32) (Cn : List (Bool × List Int32)) (lt nr : Int32) : Prop := (∀ q, 61 < q → q ≤ 122 → q ∉ yMl → W q = I q) ∧ (∀ k, k ∉ yTa → W 61 k = I 61 k) ∧ W 61 54 = v54 ∧ W 93 36 = c ∧ (∀ a j, a ∈ [93, 95, 96, 97] → j ≠ 36 → W a j = I a j) ∧ (∀ a j, a ∈ [98, 99, 100] → j < 16 * 36 ∨ 16 * 36 + 16 ≤ j → W a j = I a j) ∧ (∀ j, j < 640 * 36 ∨ 640 * 36 + 640 ≤ j → W 101 j = I 101 j) ∧ yRd W 36 Cn lt nr
theorem goodW_fr {I W W2 : Nat → Nat → Int32} {v54 w54 c : Int32} {Cn : List (Bool × List Int32)} {lt nr : Int32} (h : yGoodW I W v54 c Cn lt nr) (e : ∀ q, 61 < q → q ≤ 122 → q ∉ [102, 103, 108, 109, 110, 111, 112, 113, 114, 115, 116, 117, 118] → W2 q = W q) (e1 : ∀ k, k ∉ yTa → W2 61 k = W 61 k) (e2 : W2 61 54 = w54) : yGoodW I W2 w54 c Cn lt nr := by
  obtain ⟨h1, h2, h3, h4, h5, h6, h7, h8⟩ := h
  have r : ∀ a, a ∈ [93, 95, 96, 97, 98, 99, 100, 101] → W2 a = W a := fun a ha => e a (by
    simp only [List.mem_cons, List.not_mem_nil, or_false] at ha
    omega) (by
    simp only [List.mem_cons, List.not_mem_nil, or_false] at ha
    omega) (by
    simp only [List.mem_cons, List.not_mem_nil, or_false] at ha ⊢
    omega)
  refine ⟨fun q q1 q2 q3 => ?_, fun k hk => (e1 k hk).trans (h2 k hk), e2, by rw [r 93 (by decide)]; exact h4, fun a j ha hj => ?_, fun a j ha hj => ?_, fun j hj => by rw [r 101 (by decide)]; exact h7 j hj, yRd_cg (fun a ha => r a ?_) h8⟩
  · simp only [List.mem_cons, List.not_mem_nil, or_false] at q3
    rw [e q q1 q2 (by simp only [List.mem_cons, List.not_mem_nil, or_false]; omega)]
    exact h1 q q1 q2 (by simp only [List.mem_cons, List.not_mem_nil, or_false]; omega)
  · rw [r a (by simp only [List.mem_cons, List.not_mem_nil, or_false] at ha ⊢; omega)]
    exact h5 a j ha hj
  · rw [r a (by simp only [List.mem_cons, List.not_mem_nil, or_false] at ha ⊢; omega)]
    exact h6 a j ha hj
  · simp only [List.mem_cons, List.not_mem_nil, or_false] at ha ⊢
    omega
/-- such a heap, from what reading leaves -/
theorem goodW_read {I M M' : Nat → Nat → Int32} {v54 c : Int32} {Cn : List (Bool × List Int32)} {lt nr : Int32} (hM : ∀ q, 61 < q → q ≤ 122 → M q = I q) (hM1 : ∀ k, k ∉ yTa → M 61 k = I 61 k) (f : yfX 36 M M') (rd : yRd M' 36 Cn lt nr) : yGoodW I (zup (zup M' 93 36 c) 61 54 v54) v54 c Cn lt nr := by
  have o : ∀ q, q ≠ 93 → q ≠ 61 → zup (zup M' 93 36 c) 61 54 v54 q = M' q := fun q q1 q2 => (if_neg q2).trans (if_neg q1)
  refine ⟨fun q q1 q2 q3 => ?_, fun k hk => ?_, zup_at, (zup_at : zup M' 93 36 c 93 36 = c), fun a j ha hj => ?_, fun a j ha hj => ?_, fun j hj => ?_, yRd_cg (fun a ha => ?_) rd⟩
  · simp only [List.mem_cons, List.not_mem_nil, or_false] at q3
    rw [o q (by omega) (by omega), f.1 q (by simp only [List.mem_cons, List.not_mem_nil, or_false]; omega)]
    exact hM q q1 q2
  · have hk' := hk
    simp only [List.mem_cons, List.not_mem_nil, or_false] at hk
    refine (zup_k (by omega)).trans ?_
    show M' 61 k = _
    rw [f.2.1 k (by simp only [List.mem_cons, List.not_mem_nil, or_false]; omega)]
    exact hM1 k hk'
  · simp only [List.mem_cons, List.not_mem_nil, or_false] at ha
    by_cases e : a = 93
    · rw [e]
      show zup M' 93 36 c 93 j = _
      rw [zup_k hj, f.1 93 (by decide), hM 93 (by decide) (by decide)]
    · rw [o a e (by omega), f.2.2.1 a j (by simp only [List.mem_cons, List.not_mem_nil, or_false]; omega) hj, hM a (by omega) (by omega)]
  · have ha' := ha
    simp only [List.mem_cons, List.not_mem_nil, or_false] at ha
    rw [o a (by omega) (by omega), f.2.2.2.1 a j ha' hj, hM a (by omega) (by omega)]
  · rw [o 101 (by decide) (by decide), f.2.2.2.2 j hj, hM 101 (by decide) (by decide)]
  · simp only [List.mem_cons, List.not_mem_nil, or_false] at ha
    exact o a (by omega) (by omega)
/-- the base of the class's part A and the model's part W -/
theorem mix_fr {I A W : Nat → Nat → Int32} {t : Nat} {v54 c : Int32} {Cn : List (Bool × List Int32)} {lt nr : Int32} (hA : ∀ q, (q < 61 ∨ 122 < q) → q ∉ ySa t → A q = I q) (hW : yGoodW I W v54 c Cn lt nr) (h123 : 123 ≤ t) : zfr8 (ySa t) yTa I (ymx A W) := by
  refine ⟨fun q hq q6 => ?_, fun k hk => ?_⟩
  · by_cases e : q < 61 ∨ 122 < q
    · rw [ymx_a e]
      exact hA q e hq
    · rw [ymx_w e]
      refine hW.1 q (by omega) (by omega) (fun z => hq ?_)
      simp only [List.mem_cons, List.not_mem_nil, or_false] at z ⊢
      omega
  · rw [show ymx A W 61 = W 61 from ymx_w (by decide)]
    exact hW.2.1 k hk
theorem mix_Fx {I A W : Nat → Nat → Int32} {n : Nat} {v54 c : Int32} {Cn : List (Bool × List Int32)} {lt nr : Int32} (hA : ∀ q, 123 ≤ q → q < n → A q = I q) (hW : yGoodW I W v54 c Cn lt nr) : yFx 36 n I (ymx A W) := by
  have w : ∀ a, a ∈ [93, 94, 95, 96, 97, 98, 99, 100, 101] → ymx A W a = W a := fun a ha => ymx_w (by
    simp only [List.mem_cons, List.not_mem_nil, or_false] at ha
    omega)
  refine ⟨fun q q1 q2 => ?_, fun a j ha hj => ?_, fun a j ha hj => ?_, fun j hj => ?_⟩
  · rw [ymx_a (Or.inr (by omega))]
    exact hA q q1 q2
  · rw [w a (by simp only [List.mem_cons, List.not_mem_nil, or_false] at ha ⊢; omega)]
    by_cases e : a = 94
    · rw [e, hW.1 94 (by decide) (by decide) (by decide)]
    · exact hW.2.2.2.2.1 a j (by simp only [List.mem_cons, List.not_mem_nil, or_false] at ha ⊢; omega) hj
  · rw [w a (by simp only [List.mem_cons, List.not_mem_nil, or_false] at ha ⊢; omega)]
    exact hW.2.2.2.2.2.1 a j ha hj
  · rw [w 101 (by decide)]
    exact hW.2.2.2.2.2.2.1 j hj
