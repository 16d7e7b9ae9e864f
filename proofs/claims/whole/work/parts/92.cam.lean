/-! THE PURE PART: cameras on both sides. -/
def yCam (A W : Nat → Nat) (m n z r : Nat) (a3 a4 a5 : Int32) : Prop := (a4 = -1 ∧ a3 = 0 ∧ ∀ r', r ≤ r' → r' < 2 ^ n → z < ypc 12 (yit r' n n).1) ∨ ∃ s, a3 = Int32.ofNat s ∧ a4 = Int32.ofNat (ysn A W m s) ∧ a5 = Int32.ofNat (ypc 12 s) ∧ s < 4096 ∧ (∃ r', r ≤ r' ∧ r' < 2 ^ n ∧ (yit r' n n).1 = s) ∧ ypc 12 s ≤ z ∧ ∀ r', r ≤ r' → r' < 2 ^ n → ypc 12 (yit r' n n).1 ≤ z → yky A W m (yit r' n n).1 ≤ yky A W m s
theorem yCam_skip {A W : Nat → Nat} {m n z r : Nat} {a3 a4 a5 : Int32} (h : yCam A W m n z (r + 1) a3 a4 a5) (hz : z < ypc 12 (yit r n n).1) : yCam A W m n z r a3 a4 a5 := by
  rcases h with ⟨h1, h2, h3⟩ | ⟨s, h1, h2, h3, h4, ⟨q, q1, q2, q3⟩, h6, h7⟩
  · refine Or.inl ⟨h1, h2, fun r' a b => ?_⟩
    by_cases e : r' = r
    · rw [e]
      exact hz
    · exact h3 r' (by omega) b
  · refine Or.inr ⟨s, h1, h2, h3, h4, ⟨q, by omega, q2, q3⟩, h6, fun r' a b c => ?_⟩
    by_cases e : r' = r
    · rw [e] at c
      omega
    · exact h7 r' (by omega) b c
theorem yCam_keep {A W : Nat → Nat} {m n z r : Nat} {a3 a4 a5 : Int32} {s : Nat} (h : yCam A W m n z (r + 1) a3 a4 a5) (e3 : a4 = Int32.ofNat (ysn A W m s)) (hs : ysn A W m s < 2147483648) (h1' : a3 = Int32.ofNat s) (hk : yky A W m (yit r n n).1 ≤ yky A W m s) (hs2 : s < 4096) : yCam A W m n z r a3 a4 a5 := by
  rcases h with ⟨h1, h2, h3⟩ | ⟨t, h1, h2, h3, h4, ⟨q, q1, q2, q3⟩, h6, h7⟩
  · rw [h1] at e3
    have := congrArg Int32.toInt e3
    rw [i32_toInt hs] at this
    have : (-1 : Int32).toInt = -1 := by decide
    omega
  · have et : t = s := i32_nat_inj (by omega) (by omega) (h1.symm.trans h1')
    subst et
    refine Or.inr ⟨t, h1, h2, h3, h4, ⟨q, by omega, q2, q3⟩, h6, fun r' a b c => ?_⟩
    by_cases e : r' = r
    · rw [e]
      exact hk
    · exact h7 r' (by omega) b c
theorem yCam_new {A W : Nat → Nat} {m n z r : Nat} {a3 a4 a5 : Int32} (hr : r < 2 ^ n) (hn : n ≤ 12) (h : yCam A W m n z (r + 1) a3 a4 a5) (hz : ypc 12 (yit r n n).1 ≤ z) (hk : ∀ s, a3 = Int32.ofNat s → a4 = Int32.ofNat (ysn A W m s) → a5 = Int32.ofNat (ypc 12 s) → s < 4096 → yky A W m s ≤ yky A W m (yit r n n).1) : yCam A W m n z r (Int32.ofNat (yit r n n).1) (Int32.ofNat (ysn A W m (yit r n n).1)) (Int32.ofNat (ypc 12 (yit r n n).1)) := by
  have l := (yit_lt r n n).1
  have h12 : 2 ^ 12 = 4096 := rfl
  have l2 : 2 ^ n ≤ 2 ^ 12 := Nat.pow_le_pow_right (by decide) hn
  refine Or.inr ⟨_, rfl, rfl, rfl, by omega, ⟨r, Nat.le_refl _, hr, rfl⟩, hz, fun r' a b c => ?_⟩
  by_cases e : r' = r
  · rw [e]
    exact Nat.le_refl _
  · rcases h with ⟨h1, h2, h3⟩ | ⟨s, h1, h2, h3, h4, _, h6, h7⟩
    · have := h3 r' (by omega) b
      omega
    · exact Nat.le_trans (h7 r' (by omega) b c) (hk s h1 h2 h3 h4)
theorem cam_loop (xs : Nat → Int32) (L d : Nat) {V M : Nat → Nat → Int32} (J : Nat → Nat → Int64) (X : XH) (z n : Nat) (hz : z ≤ 12) (hP : PWay V) (h4 : 0 ≤ (V 61 4).toInt) (hn : n = min 12 (nv (V 61 4))) (h105 : M 105 = V 105) (h106 : M 106 = V 106) (h107 : M 107 = V 107) (h69 : M 61 69 = V 61 69) : ∀ (r : Nat) (a3 a4 a5 : Int32), r ≤ 2 ^ n → yCam (fun j => nv (V 58 j)) (fun j => nv (V 59 j)) (nv (V 61 69)) n z r a3 a4 a5 → ∃ b3 b4 b5, zgo xs L (d + 1 + 5) 209 4 [(0, .ref 61), (1, .int (Int32.ofNat z)), (2, .int (Int32.ofNat n)), (3, .int a3), (4, .int a4), (5, .int a5), (6, .int (Int32.ofNat r - 1))] (zmk M J X) = some (.inr (some (.int b3)), zmk M J X) ∧ yCam (fun j => nv (V 58 j)) (fun j => nv (V 59 j)) (nv (V 61 69)) n z 0 b3 b4 b5
  | 0, a3, a4, a5, hr, hc => by
    refine ⟨a3, a4, a5, ?_, hc⟩
    rw [zgo_q, S209_4 xs L (d + 1), if_pos (show decide (Int32.ofNat 0 - 1 < (0 : Int32)) = true by decide)]
    rfl
  | r + 1, a3, a4, a5, hr, hc => by
    have hm := nv_int hP.1.2.1
    have hm2 := hP.1.2.2
    have h12 : 2 ^ 12 = 4096 := rfl
    have l2 : 2 ^ n ≤ 2 ^ 12 := Nat.pow_le_pow_right (by decide) (by omega)
    have hw := PWay_ws hP h4
    have ls := (yit_lt r n n).1
    have lc := (yit_lt r n n).2
    obtain ⟨k1, k2⟩ := yit_eq r n (by omega) (by omega)
    have er : Int32.ofNat (r + 1) - 1 = Int32.ofNat r := by
      rw [← nat_succ, Int32.add_sub_cancel]
    have en : Int32.ofNat r + (-1 : Int32) = Int32.ofNat r - 1 := (Int32.sub_eq_add_neg _ _).symm
    have hsn := ysn_le (A := fun j => nv (V 58 j)) (W := fun j => nv (V 59 j)) (yit r n n).1 (nv (V 61 69)) (fun j hj => (hw.2 j hj).2.2.2.2)
    have sm := seen_m xs L (d + 1 + 5) (by omega) J X (Int32.ofNat (yit r n n).1) hP h105 h106 h107 h69
    rw [yse_nat (by omega) (by omega) hw.2] at sm
    have bl := bits_loop xs L (d + 1) M J X (Int32.ofNat z) a3 a4 a5 r n (by omega) (by omega) n 0 (Nat.zero_add _)
    have S := zgo_q xs L (d + 1 + 5) 209 4 [(0, .ref 61), (1, .int (Int32.ofNat z)), (2, .int (Int32.ofNat n)), (3, .int a3), (4, .int a4), (5, .int a5), (6, .int (Int32.ofNat r))] (zmk M J X)
    rw [S209_4 xs L (d + 1), if_neg (fun q => by
      have q := i32_lt.mp (of_decide_eq_true q)
      rw [i32_toInt (by omega)] at q
      have : (0 : Int32).toInt = 0 := by decide
      omega), zth_go] at S
    have S2 := S.trans bl
    rw [zgo_q xs L (d + 1 + 5) 209 7, S209_7 xs L (d + 1), if_pos (decide_eq_true ((nat_le (by omega) (by omega)).mpr (Nat.le_refl _)))] at S2
    rw [k2] at S2
    have hpc := ypc_le 12 (yit r n n).1
    rw [er]
    by_cases c1 : ypc 12 (yit r n n).1 ≤ z
    · rw [if_pos (decide_eq_true ((nat_le (by omega) (by omega)).mpr c1)), sm, zci_i, T209_11_3_691 xs L (d + 1), en] at S2
      have esn : (Int32.ofNat (ysn (fun j => nv (V 58 j)) (fun j => nv (V 59 j)) (nv (V 61 69)) (yit r n n).1)).toInt = _ := i32_toInt (by omega)
      have hold : ∀ s, a4 = Int32.ofNat (ysn (fun j => nv (V 58 j)) (fun j => nv (V 59 j)) (nv (V 61 69)) s) → a4.toInt = (ysn (fun j => nv (V 58 j)) (fun j => nv (V 59 j)) (nv (V 61 69)) s : Int) := fun s e => by
        have l := ysn_le (A := fun j => nv (V 58 j)) (W := fun j => nv (V 59 j)) s (nv (V 61 69)) (fun j hj => (hw.2 j hj).2.2.2.2)
        rw [e, i32_toInt (by omega)]
      have hold5 : ∀ s, a5 = Int32.ofNat (ypc 12 s) → a5.toInt = (ypc 12 s : Int) := fun s e => by
        have l := ypc_le 12 s
        rw [e, i32_toInt (by omega)]
      have epc : (Int32.ofNat (ypc 12 (yit r n n).1)).toInt = _ := i32_toInt (by omega)
      by_cases c2 : (Int32.ofNat (ysn (fun j => nv (V 58 j)) (fun j => nv (V 59 j)) (nv (V 61 69)) (yit r n n).1)).toInt < a4.toInt
      · rw [if_pos (decide_eq_true (i32_lt.mpr c2)), zth_go] at S2
        have hk : yCam (fun j => nv (V 58 j)) (fun j => nv (V 59 j)) (nv (V 61 69)) n z r a3 a4 a5 := by
          rcases hc with ⟨h1, h2, h3⟩ | ⟨s, h1, h2, h3, h4, h5, h6, h7⟩
          · have : a4.toInt = -1 := by rw [h1]; decide
            omega
          · have := hold s h2
            have l := ysn_le (A := fun j => nv (V 58 j)) (W := fun j => nv (V 59 j)) s (nv (V 61 69)) (fun j hj => (hw.2 j hj).2.2.2.2)
            exact yCam_keep (Or.inr ⟨s, h1, h2, h3, h4, h5, h6, h7⟩) h2 (by omega) h1 (yky_lt.mpr (Or.inl (by omega))) h4
        obtain ⟨b3, b4, b5, r1, r2⟩ := cam_loop xs L d J X z n hz hP h4 hn h105 h106 h107 h69 r a3 a4 a5 (by omega) hk
        exact ⟨b3, b4, b5, S2.trans r1, r2⟩
      · rw [if_neg (fun q => c2 (i32_lt.mp (of_decide_eq_true q)))] at S2
        by_cases c3 : Int32.ofNat (ysn (fun j => nv (V 58 j)) (fun j => nv (V 59 j)) (nv (V 61 69)) (yit r n n).1) = a4
        · rw [if_neg (fun q => (of_decide_eq_true q) c3)] at S2
          have c3t := congrArg Int32.toInt c3
          by_cases c4 : (Int32.ofNat (ypc 12 (yit r n n).1)).toInt < a5.toInt
          · rw [if_pos (decide_eq_true (i32_lt.mpr c4)), zth_go] at S2
            obtain ⟨b3, b4, b5, r1, r2⟩ := cam_loop xs L d J X z n hz hP h4 hn h105 h106 h107 h69 r _ _ _ (by omega) (yCam_new (by omega) (by omega) hc c1 (fun s s1 s2 s3 s4 => by
              have q1 := hold s s2
              have q2 := hold5 s s3
              refine yky_lt.mpr (Or.inr ⟨by omega, Or.inl (by omega)⟩)))
            exact ⟨b3, b4, b5, S2.trans r1, r2⟩
          · rw [if_neg (fun q => c4 (i32_lt.mp (of_decide_eq_true q))), zth_go] at S2
            have hk : yCam (fun j => nv (V 58 j)) (fun j => nv (V 59 j)) (nv (V 61 69)) n z r a3 a4 a5 := by
              rcases hc with ⟨h1, h2, h3⟩ | ⟨s, h1, h2, h3, h4, ⟨q, q1, q2, q3⟩, h6, h7⟩
              · have : a4.toInt = -1 := by rw [h1]; decide
                omega
              · have e1 := hold s h2
                have e2 := hold5 s h3
                have l := ysn_le (A := fun j => nv (V 58 j)) (W := fun j => nv (V 59 j)) s (nv (V 61 69)) (fun j hj => (hw.2 j hj).2.2.2.2)
                have kq := (yit_eq q n (by omega) q2).1
                have hmul : r * 2 ^ (12 - n) ≤ q * 2 ^ (12 - n) := Nat.mul_le_mul_right _ (by omega)
                refine yCam_keep (Or.inr ⟨s, h1, h2, h3, h4, ⟨q, q1, q2, q3⟩, h6, h7⟩) h2 (by omega) h1 (yky_lt.mpr (Or.inr ⟨by omega, ?_⟩)) h4
                by_cases e : ypc 12 s < ypc 12 (yit r n n).1
                · exact Or.inl e
                · refine Or.inr ⟨by omega, ?_⟩
                  rw [k1, ← q3, kq]
                  exact hmul
            obtain ⟨b3, b4, b5, r1, r2⟩ := cam_loop xs L d J X z n hz hP h4 hn h105 h106 h107 h69 r a3 a4 a5 (by omega) hk
            exact ⟨b3, b4, b5, S2.trans r1, r2⟩
        · rw [if_pos (decide_eq_true c3), zth_go] at S2
          obtain ⟨b3, b4, b5, r1, r2⟩ := cam_loop xs L d J X z n hz hP h4 hn h105 h106 h107 h69 r _ _ _ (by omega) (yCam_new (by omega) (by omega) hc c1 (fun s s1 s2 s3 s4 => by
            have q1 := hold s s2
            refine yky_lt.mpr (Or.inl ?_)
            have : (Int32.ofNat (ysn (fun j => nv (V 58 j)) (fun j => nv (V 59 j)) (nv (V 61 69)) (yit r n n).1)).toInt ≠ a4.toInt := fun e => c3 (i32_eq.mpr e)
            omega))
          exact ⟨b3, b4, b5, S2.trans r1, r2⟩
    · rw [if_neg (fun q => c1 ((nat_le (by omega) (by omega)).mp (of_decide_eq_true q))), en, zth_go] at S2
      obtain ⟨b3, b4, b5, r1, r2⟩ := cam_loop xs L d J X z n hz hP h4 hn h105 h106 h107 h69 r a3 a4 a5 (by omega) (yCam_skip hc (by omega))
      exact ⟨b3, b4, b5, S2.trans r1, r2⟩
