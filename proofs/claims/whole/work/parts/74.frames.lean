/-! THE PURE PART: what a call leaves as it was, piece by piece. -/
theorem PSig_fr {S T : List Nat} {I I2 : Nat → Nat → Int32} (h : zfr8 S T I I2) (hs : ∀ b, b ∈ [26, 27, 28, 29, 30, 31, 32, 74, 75, 76, 77, 78] → b ∉ S) (h19 : 19 ∉ T) (h7 : (I 61 7).toInt ≤ (I2 61 7).toInt) (h4 : (I 61 4).toInt ≤ (I2 61 4).toInt) (h2 : (I 61 2).toInt ≤ (I2 61 2).toInt) (p : PSig I) : PSig I2 := by
  obtain ⟨p1, p2, p3, p4⟩ := p
  unfold PSig
  rw [h.1 26 (hs 26 (by decide)) (by decide), h.1 27 (hs 27 (by decide)) (by decide), h.1 28 (hs 28 (by decide)) (by decide), h.1 29 (hs 29 (by decide)) (by decide), h.1 30 (hs 30 (by decide)) (by decide), h.1 31 (hs 31 (by decide)) (by decide), h.1 32 (hs 32 (by decide)) (by decide), h.1 74 (hs 74 (by decide)) (by decide), h.1 75 (hs 75 (by decide)) (by decide), h.1 76 (hs 76 (by decide)) (by decide), h.1 77 (hs 77 (by decide)) (by decide), h.1 78 (hs 78 (by decide)) (by decide), h.2 19 h19]
  refine ⟨p1, p2, fun s hs => ?_, p4⟩
  have q := p3 s hs
  omega
theorem PDis_fr {S T : List Nat} {I I2 : Nat → Nat → Int32} (h : zfr8 S T I I2) (hs : ∀ b, b ∈ [20, 21, 22, 23, 24, 25, 79, 80, 81, 82, 83] → b ∉ S) (h20 : 20 ∉ T) (h21 : 21 ∉ T) (h19 : (I 61 19).toInt ≤ (I2 61 19).toInt) (h4 : (I 61 4).toInt ≤ (I2 61 4).toInt) (p : PDis I) : PDis I2 := by
  obtain ⟨p1, p2, p3, p4, p5⟩ := p
  unfold PDis
  rw [h.1 20 (hs 20 (by decide)) (by decide), h.1 21 (hs 21 (by decide)) (by decide), h.1 22 (hs 22 (by decide)) (by decide), h.1 23 (hs 23 (by decide)) (by decide), h.1 24 (hs 24 (by decide)) (by decide), h.1 25 (hs 25 (by decide)) (by decide), h.1 79 (hs 79 (by decide)) (by decide), h.1 80 (hs 80 (by decide)) (by decide), h.1 81 (hs 81 (by decide)) (by decide), h.1 82 (hs 82 (by decide)) (by decide), h.1 83 (hs 83 (by decide)) (by decide), h.2 20 h20, h.2 21 h21]
  refine ⟨p1, p2, p3, fun e he => ?_, p5⟩
  obtain ⟨q1, q2⟩ := p4 e he
  refine ⟨by omega, ?_⟩
  rcases q2 with q2 | ⟨a1, a2, a3, a4⟩
  · exact Or.inl q2
  · exact Or.inr ⟨a1, a2, fun z => by
      have := a3 z
      omega, a4⟩
theorem PRoad_fr {S T : List Nat} {I I2 : Nat → Nat → Int32} (h : zfr8 S T I I2) (hs : ∀ b, b ∈ [2, 3, 4, 5, 6, 7, 8, 63, 64, 65, 66, 67, 73] → b ∉ S) (h4 : 4 ∉ T) (h1 : I2 1 1 = I 1 1) (h3 : (I 61 3).toInt ≤ (I2 61 3).toInt) (p : PRoad I) : PRoad I2 := by
  obtain ⟨p1, p2, p3, p4⟩ := p
  unfold PRoad
  rw [h1, h.1 2 (hs 2 (by decide)) (by decide), h.1 3 (hs 3 (by decide)) (by decide), h.1 4 (hs 4 (by decide)) (by decide), h.1 5 (hs 5 (by decide)) (by decide), h.1 6 (hs 6 (by decide)) (by decide), h.1 7 (hs 7 (by decide)) (by decide), h.1 8 (hs 8 (by decide)) (by decide), h.1 63 (hs 63 (by decide)) (by decide), h.1 64 (hs 64 (by decide)) (by decide), h.1 65 (hs 65 (by decide)) (by decide), h.1 66 (hs 66 (by decide)) (by decide), h.1 67 (hs 67 (by decide)) (by decide), h.1 73 (hs 73 (by decide)) (by decide), h.2 4 h4]
  refine ⟨p1, p2, fun r hr => ?_, ?_⟩
  · obtain ⟨q1, q2, q3, q4⟩ := p3 r hr
    exact ⟨q1, q2, by omega, q4⟩
  · rw [zed_cg (h.1 63 (hs 63 (by decide)) (by decide)) (h.1 64 (hs 64 (by decide)) (by decide)) (h.1 66 (hs 66 (by decide)) (by decide)) (h.1 73 (hs 73 (by decide)) (by decide))]
    exact p4
theorem PTx_fr {S T : List Nat} {I I2 : Nat → Nat → Int32} (h : zfr8 S T I I2) (hs : 92 ∉ S) (p : PTx I) : PTx I2 := by
  unfold PTx
  rw [h.1 92 hs (by decide)]
  exact p
theorem PBlk_fr {S T : List Nat} {I I2 : Nat → Nat → Int32} (h : zfr8 S T I I2) (hs : ∀ b, b ∈ [39, 40, 41, 42, 43, 84, 85, 86, 91] → b ∉ S) (h22 : 22 ∉ T) (p : PBlk I) : PBlk I2 := by
  unfold PBlk
  rw [h.1 39 (hs 39 (by decide)) (by decide), h.1 40 (hs 40 (by decide)) (by decide), h.1 41 (hs 41 (by decide)) (by decide), h.1 42 (hs 42 (by decide)) (by decide), h.1 43 (hs 43 (by decide)) (by decide), h.1 84 (hs 84 (by decide)) (by decide), h.1 85 (hs 85 (by decide)) (by decide), h.1 86 (hs 86 (by decide)) (by decide), h.1 91 (hs 91 (by decide)) (by decide), h.2 22 h22]
  exact p
theorem PRat_fr {S T : List Nat} {I I2 : Nat → Nat → Int32} (h : zfr8 S T I I2) (hs : ∀ b, b ∈ [44, 45, 46, 47, 48, 87, 88, 89, 90] → b ∉ S) (h23 : 23 ∉ T) (p : PRat I) : PRat I2 := by
  unfold PRat
  rw [h.1 44 (hs 44 (by decide)) (by decide), h.1 45 (hs 45 (by decide)) (by decide), h.1 46 (hs 46 (by decide)) (by decide), h.1 47 (hs 47 (by decide)) (by decide), h.1 48 (hs 48 (by decide)) (by decide), h.1 87 (hs 87 (by decide)) (by decide), h.1 88 (hs 88 (by decide)) (by decide), h.1 89 (hs 89 (by decide)) (by decide), h.1 90 (hs 90 (by decide)) (by decide), h.2 23 h23]
  exact p
theorem PTape_fr {S T : List Nat} {I I2 : Nat → Nat → Int32} (h : zfr8 S T I I2) (hs : ∀ b, b ∈ [35, 36, 104] → b ∉ S) (h57 : 57 ∉ T) (p : PTape I) : PTape I2 := by
  unfold PTape
  rw [h.1 35 (hs 35 (by decide)) (by decide), h.1 36 (hs 36 (by decide)) (by decide), h.1 104 (hs 104 (by decide)) (by decide), h.2 57 h57]
  exact p
theorem PWk_fr {S T : List Nat} {I I2 : Nat → Nat → Int32} (h : zfr8 S T I I2) (hs : 49 ∉ S) (p : PWk I) : PWk I2 := by
  unfold PWk
  rw [h.1 49 hs (by decide)]
  exact p
theorem zTx_fr {S T : List Nat} {I I2 : Nat → Nat → Int32} {X : XH} {C : Nat → List (Bool × List Int32)} {a x : Nat} (h : zfr8 S T I I2) (hs : ∀ b, b ∈ [95, 98, 99, 100, 101] → b ∉ S) (hS : ∀ b, b ∈ S → b < 123) (p : zTx I X C a x) : zTx I2 X C a x := by
  obtain ⟨⟨u, u1, u2, u3, u4, u5⟩, ⟨q1, q2, q3⟩, r⟩ := p
  refine ⟨⟨u, u1, u2, u3, u4, ?_⟩, ⟨?_, q2, ?_⟩, r⟩
  · rw [h.1 u (fun z => by
      have := hS u z
      omega) (by omega)]
    exact u5
  · rw [h.1 95 (hs 95 (by decide)) (by decide)]
    exact q1
  · exact zMc_eq (h.1 98 (hs 98 (by decide)) (by decide)) (h.1 99 (hs 99 (by decide)) (by decide)) (h.1 100 (hs 100 (by decide)) (by decide)) (h.1 101 (hs 101 (by decide)) (by decide)) x _ _ _ q3
theorem PTm_fr {S T : List Nat} {I I2 : Nat → Nat → Int32} {X : XH} {C : Nat → List (Bool × List Int32)} {k : Int32} (h : zfr8 S T I I2) (hs : ∀ b, b ∈ [16, 19, 92, 93, 94, 95, 96, 97, 98, 99, 100, 101] → b ∉ S) (h54 : 54 ∉ T) (hS : ∀ b, b ∈ S → b < 123) (p : PTm I X C k) : PTm I2 X C k := by
  intro l hl
  obtain ⟨ρ, O, h1, h2⟩ := p l hl
  have e92 := h.1 92 (hs 92 (by decide)) (by decide)
  have eN : ∀ m, zNm I2 l m = zNm I l m := fun m => by
    unfold zNm
    rw [h.2 54 h54]
  have eF : ∀ m, zFm I2 l m = zFm I l m := fun m => by
    unfold zFm
    rw [h.1 93 (hs 93 (by decide)) (by decide)]
  refine ⟨ρ, O, ?_, fun i hi => ?_⟩
  · have g := zTm_H h1 (h.1 16 (hs 16 (by decide)) (by decide)) (h.1 19 (hs 19 (by decide)) (by decide)) (fun b hb => h.1 b (fun z => by
      have := hS b z
      omega) (by omega))
    unfold zTm
    rw [e92, eN, eF, h.1 94 (hs 94 (by decide)) (by decide), h.1 96 (hs 96 (by decide)) (by decide), h.1 97 (hs 97 (by decide)) (by decide)]
    exact g
  · rw [e92, eN] at hi
    rw [e92]
    exact zTx_fr h (fun b hb => hs b (by
      simp only [List.mem_cons, List.not_mem_nil, or_false] at hb ⊢
      omega)) hS (h2 i hi)
/-- what a query may change -/
abbrev yQ : List Nat := [33, 34, 49, 50, 51, 52, 102, 103, 108, 109, 110, 111, 112, 113, 114, 115, 116, 117, 118]
abbrev yT : List Nat := [1, 76, 77]
theorem PB_q {I I2 : Nat → Nat → Int32} (h : zfr8 yQ yT I I2) (p : PB I) : PB I2 := by
  obtain ⟨a1, a2, a3, a4, a5, a6, a7⟩ := p
  have e : ∀ k, k ∉ yT → (I 61 k).toInt ≤ (I2 61 k).toInt := fun k hk => by
    rw [h.2 k hk]
    exact Int.le_refl _
  exact ⟨PNow_fr h (by decide) (by decide) a1, PLand_fr h (by decide) (by decide) a2, PFleet_fr h (by decide) (by decide) a3, PSig_fr h (by decide) (by decide) (e 7 (by decide)) (e 4 (by decide)) (e 2 (by decide)) a4, PDis_fr h (by decide) (by decide) (by decide) (e 19 (by decide)) (e 4 (by decide)) a5, PRoad_fr h (by decide) (by decide) (by rw [h.1 1 (by decide) (by decide)]) (e 3 (by decide)) a6, PTx_fr h (by decide) a7⟩
theorem yMV_q {I I2 : Nat → Nat → Int32} (h : zfr8 [33, 34, 49, 50, 51, 52] [1] I I2) : yMV I I2 := by
  refine ⟨fun b b1 b2 b3 => h.1 b (fun z => ?_) (by omega), fun j hj => h.2 j (fun z => hj ?_)⟩
  · simp only [List.mem_cons, List.not_mem_nil, or_false] at z
    omega
  · simp only [List.mem_cons, List.not_mem_nil, or_false] at z ⊢
    omega
theorem known_ok (xs : Nat → Int32) (L D : Nat) (hD : 6 ≤ D) (I : Nat → Nat → Int32) (J : Nat → Nat → Int64) (X : XH) (a : Int32) (h : 0 ≤ a.toInt ∧ a.toInt ≤ (I 0 11).toInt) : zev xs L D 125 [.ref 0, .int a] (zmk I J X) = some (.inr none, zmk I J X) := by
  obtain ⟨d, rfl⟩ := Nat.exists_eq_add_of_le hD
  rw [Nat.add_comm 6 d]
  refine (zcS (S125_0 xs L d I J X _)).trans ?_
  simp only [decide_eq_true_eq, zbi_eq0, i32_lt, Int32.reduceToInt]
  rw [if_pos (by omega)]
  rfl
theorem known_no (xs : Nat → Int32) (L D : Nat) (hD : 6 ≤ D) (I : Nat → Nat → Int32) (J : Nat → Nat → Int64) (X : XH) (a : Int32) (h : ¬ (0 ≤ a.toInt ∧ a.toInt ≤ (I 0 11).toInt)) : zev xs L D 125 [.ref 0, .int a] (zmk I J X) = some (.inl 1, zmk I J (zXe X)) := by
  obtain ⟨d, rfl⟩ := Nat.exists_eq_add_of_le hD
  rw [Nat.add_comm 6 d]
  refine (zcS (S125_0 xs L d I J X _)).trans ?_
  simp only [decide_eq_true_eq, zbi_eq0, i32_lt, Int32.reduceToInt]
  rw [if_neg (by omega)]
  rfl
theorem sum_c (xs : Nat → Int32) (L D : Nat) (hD : 12 ≤ D) {V I : Nat → Nat → Int32} (J : Nat → Nat → Int64) (X : XH) {C : Nat → List (Bool × List Int32)} (k pr : Int32) (hVI : ∀ b, (b < 61 ∨ 122 < b) → I b = V b) (hB : PB V) (hK : PBlk V) (hT : PTm V X C k) (hW : PWk I) : ∃ H, zev xs L D 130 [.ref 0, .int pr, .int k] (zmk I J X) = some (.inr none, zmk H (yjo (yjo J 54 (ysum V C k pr J).1) 55 (ysum V C k pr J).2) X) ∧ zCH V k H ∧ zfr8 [33, 34, 49, 50, 51, 52] [] I H ∧ PWk H := by
  obtain ⟨d, rfl⟩ := Nat.exists_eq_add_of_le hD
  rw [show 12 + d = d + 6 + 6 by omega]
  obtain ⟨H1, a1, a2, a3⟩ := know_c xs L (d + 6 + 5) (by omega) J X k hVI hB hT
  obtain ⟨H2, b1, b2, b3⟩ := addUp_c xs L (d + 6 + 5) (by omega) J X k pr hB hK hT a2 (PWk_fr a3 (by decide) hW)
  refine ⟨H2, ?_, zCH_fr a2 b2, zfr8_tr (zfr8_sub a3 (fun b h => List.mem_append_left [49, 50, 51, 52] h) (fun _ h => h)) b2 (fun b h => List.mem_append_right [33, 34] h) (fun _ h => h), b3⟩
  refine (zcS (S130_0 xs L (d + 6) I J X pr k)).trans ?_
  rw [a1, zcw_v, T130_0_4_696 xs L (d + 6), b1, zcw_v, T130_0_9_691 xs L (d + 6)]
  rfl
