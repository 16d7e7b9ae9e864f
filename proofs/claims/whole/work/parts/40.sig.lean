/-! THE PURE PART: a signal more, in its place among all. -/
/-- the order with the places from p on one further -/
def zshf (o : Nat → Int32) (p n : Nat) : Nat → Int32 := fun k => if p < k ∧ k ≤ n then o (k - 1) else o k
/-- where a signal of minute t comes -/
def zpos (m : Nat → Int32) (o : Nat → Int32) (t : Int32) : Nat → Nat
  | 0 => 0
  | p + 1 => if (m (nv (o p))).toInt ≤ t.toInt then p + 1 else zpos m o t p
theorem nat_pred (p : Nat) : Int32.ofNat (p + 1) - (1 : Int32) = Int32.ofNat p := by
  rw [← nat_succ]
  exact Int32.add_sub_cancel _ _
theorem nat_dec (p : Nat) : Int32.ofNat (p + 1) + (-1 : Int32) = Int32.ofNat p := by
  have h := nat_pred p
  rw [Int32.sub_eq_add_neg] at h
  exact h
theorem zshf_n (o : Nat → Int32) (n : Nat) : zshf o n n = o := by
  funext k
  exact if_neg (by omega)
theorem zshf_step {o : Nat → Int32} {p n : Nat} (h : p + 1 ≤ n) : zset (zshf o (p + 1) n) (p + 1) (o p) = zshf o p n := by
  funext k
  unfold zset zshf
  by_cases c : k = p + 1
  · rw [if_pos c, if_pos (by omega), c]
    rfl
  · rw [if_neg c]
    by_cases c2 : p + 1 < k ∧ k ≤ n
    · rw [if_pos c2, if_pos (by omega)]
    · rw [if_neg c2, if_neg (by omega)]
theorem sig_loop (xs : Nat → Int32) (L d : Nat) (I : Nat → Nat → Int32) (J : Nat → Nat → Int64) (X : XH) (o : Nat → Int32) (n : Nat) (hn : n < 300) (a b t w : Int32) (ho : ∀ k, k < n → 0 ≤ (o k).toInt ∧ (o k).toInt < n) : ∀ p, p ≤ n → zgo xs L (d + 5) 66 3 [(0, .ref 26), (1, .int a), (2, .int b), (3, .int t), (4, .int w), (5, .int (Int32.ofNat p))] (zmk (zov I 32 (zshf o p n)) J X) = some (.inr (some (.int (I 26 4))), zmk (zup (zov I 32 (zset (zshf o (zpos (I 29) o t p) n) (zpos (I 29) o t p) (I 26 4))) 26 4 (I 26 4 + 1)) J X)
  | 0, hp => by
    rw [zgo_q, S66_3, if_pos (by decide)]
    have e : zput (zov I 32 (zshf o 0 n)) 32 300 (Int32.ofNat 0) (zov I 32 (zshf o 0 n) 26 4) = zov I 32 (zset (zshf o 0 n) 0 (I 26 4)) := by
      rw [zput_nat (by omega) (by omega), zup_zov]
      rfl
    rw [e]
    rfl
  | p + 1, hp => by
    have ih := sig_loop xs L d I J X o n hn a b t w ho p (by omega)
    have h1 := ho p (by omega)
    have n1 := nv_int h1.1
    have hsh : zshf o (p + 1) n p = o p := if_neg (by omega)
    rw [zgo_q, S66_3, if_neg (fun z => by
      have z := (nat_le (a := p + 1) (b := 0) (by omega) (by omega)).mp (of_decide_eq_true z)
      omega), nat_pred, nat_dec]
    have e1 : zat (zov I 32 (zshf o (p + 1) n)) 32 300 (Int32.ofNat p) = o p := by
      rw [zat_nat (by omega) (by omega), zov_at, hsh]
    have e2 : zat (zov I 32 (zshf o (p + 1) n)) 29 300 (o p) = I 29 (nv (o p)) := by
      rw [zat_of h1.1 (by omega)]
      rfl
    rw [e1, e2]
    by_cases c : (I 29 (nv (o p))).toInt ≤ t.toInt
    · rw [if_pos (decide_eq_true (i32_le.mpr c))]
      have e : zpos (I 29) o t (p + 1) = p + 1 := if_pos c
      have e3 : zput (zov I 32 (zshf o (p + 1) n)) 32 300 (Int32.ofNat (p + 1)) (zov I 32 (zshf o (p + 1) n) 26 4) = zov I 32 (zset (zshf o (p + 1) n) (p + 1) (I 26 4)) := by
        rw [zput_nat (by omega) (by omega), zup_zov]
        rfl
      rw [e, e3]
      rfl
    · rw [if_neg (fun z => c (i32_le.mp (of_decide_eq_true z))), zth_go]
      have e : zpos (I 29) o t (p + 1) = zpos (I 29) o t p := if_neg c
      rw [e, zput_nat (by omega) (by omega), zup_zov, zshf_step hp]
      exact ih
theorem zpos_le (m o : Nat → Int32) (t : Int32) : ∀ p, zpos m o t p ≤ p
  | 0 => Nat.le_refl 0
  | p + 1 => by
    have := zpos_le m o t p
    unfold zpos
    split <;> omega
theorem zpos_lo {m o : Nat → Int32} {t : Int32} : ∀ p, 0 < zpos m o t p → (m (nv (o (zpos m o t p - 1)))).toInt ≤ t.toInt
  | 0, h => absurd h (Nat.lt_irrefl 0)
  | p + 1, h => by
    unfold zpos at h ⊢
    by_cases c : (m (nv (o p))).toInt ≤ t.toInt
    · rw [if_pos c]
      exact c
    · rw [if_neg c] at h ⊢
      exact zpos_lo p h
theorem zpos_hi {m o : Nat → Int32} {t : Int32} : ∀ p k, zpos m o t p ≤ k → k < p → t.toInt < (m (nv (o k))).toInt
  | 0, k, _, h => absurd h (Nat.not_lt_zero k)
  | p + 1, k, h1, h2 => by
    unfold zpos at h1
    by_cases c : (m (nv (o p))).toInt ≤ t.toInt
    · rw [if_pos c] at h1
      omega
    · rw [if_neg c] at h1
      by_cases e : k = p
      · rw [e]
        omega
      · exact zpos_hi p k h1 (by omega)
theorem a_signal (xs : Nat → Int32) (L d : Nat) (I : Nat → Nat → Int32) (J : Nat → Nat → Int64) (X : XH) (a b t : Int32) (hN : PNow I) (hB : I 9 2 = I 61 7) (hR : I 1 1 = I 61 4 ∧ 0 ≤ (I 61 4).toInt ∧ (I 61 4).toInt ≤ 40) (hG : ∀ r, r < nv (I 61 4) → (I 7 r = 1000000000 ↔ ¬ I 73 r = 0)) (hF : PSig I) : ∃ I2 J2 X2, zAns xs L (d + 10) 217 150 [.int a, .int b, .int t] I J X I2 J2 X2 ∧ PSig I2 ∧ zfr8 [26, 27, 28, 29, 30, 31, 32, 74, 75, 76, 77, 78] [1, 19] I I2 ∧ zOut J J2 ∧ (X2 = X ∨ X2 = zXe X) ∧ (I 61 19).toInt ≤ (I2 61 19).toInt := by
  have hF0 := hF
  obtain ⟨⟨h1, h2, h3⟩, ⟨h4, h5, h6, h7, h8⟩, h9, h10, h11, h12⟩ := hF
  obtain ⟨g1, g2, g3⟩ := hN
  have h1t : (I 26 4).toInt = (I 61 19).toInt := by rw [h1]
  have hBt : (I 9 2).toInt = (I 61 7).toInt := by rw [hB]
  have hRt : (I 1 1).toInt = (I 61 4).toInt := by rw [hR.1]
  have g1t : (I 0 11).toInt = (I 61 2).toInt := by rw [g1]
  have n19 := nv_int h2
  have n4 := nv_int hR.2.1
  by_cases P : (0 ≤ a.toInt ∧ a.toInt < (I 9 2).toInt) ∧ 0 ≤ b.toInt ∧ b.toInt < (I 1 1).toInt
  · have nb := nv_int P.2.1
    have z7 : zat I 7 40 b = I 7 (nv b) := zat_of P.2.1 (by omega)
    have zb73 : zix 1 40 1 b := zix_of rfl P.2.1 (by omega)
    have hGb := hG (nv b) (by omega)
    by_cases W : ¬ I 73 b.toNatClampNeg = 0 ∧ 0 ≤ t.toInt ∧ t.toInt ≤ (I 61 2).toInt
    · have W7 : zat I 7 40 b = 1000000000 := z7.trans (hGb.mpr W.1)
      by_cases Q : (I 61 19).toInt < 300
      · have e1 := nv_add1 h2 (by omega)
        have z19 : zix 0 300 0 (I 61 19) := zix_of rfl (by omega) (by omega)
        have hz2 : ∀ (I3 : Nat → Nat → Int32) (q : Nat) (v : Int32), zput I3 q 300 (I 26 4) v = zov I3 q (zset (I3 q) (nv (I 61 19)) v) := by
          intro I3 q v
          rw [zput_zset (by omega) (by omega), h1]
        -- the class's rows with the signal
        have hC : ∃ I1, I1 = zput (zput (zput (zput (zput I 27 300 (I 26 4) a) 28 300 (I 26 4) b) 29 300 (I 26 4) t) 30 300 (I 26 4) (I 0 11)) 31 300 (I 26 4) (-1) := ⟨_, rfl⟩
        obtain ⟨I1, hI1⟩ := hC
        have hI1b := hI1
        rw [hz2, hz2, hz2, hz2, hz2] at hI1b
        have i32e : I1 32 = I 32 := by rw [hI1b]; rfl
        have i26 : I1 26 = I 26 := by rw [hI1b]; rfl
        have i61 : I1 61 = I 61 := by rw [hI1b]; rfl
        have i29 : I1 29 = zset (I 76) (nv (I 61 19)) t := by rw [hI1b, ← h6]; rfl
        have ho : ∀ k, k < nv (I 61 19) → 0 ≤ (I 32 k).toInt ∧ (I 32 k).toInt < nv (I 61 19) := fun k hk => by
          have := h10 k hk
          omega
        have hq : ∃ q, q = zpos (I1 29) (I 32) t (nv (I 61 19)) := ⟨_, rfl⟩
        obtain ⟨q, hq⟩ := hq
        have hqn : q ≤ nv (I 61 19) := by rw [hq]; exact zpos_le _ _ _ _
        have hlo : 0 < q → (I1 29 (nv (I 32 (q - 1)))).toInt ≤ t.toInt := by
          rw [hq]
          exact zpos_lo _
        have hhi : ∀ k, q ≤ k → k < nv (I 61 19) → t.toInt < (I1 29 (nv (I 32 k))).toInt := by
          rw [hq]
          exact zpos_hi _
        have hadd : ∀ D, 6 ≤ D → zev xs L D 66 [.ref 26, .int a, .int b, .int t, .int (I 0 11)] (zmk I J X) = some (.inr (some (.int (I 26 4))), zmk (zup (zov I1 32 (zset (zshf (I 32) q (nv (I 61 19))) q (I 26 4))) 26 4 (I 26 4 + 1)) J X) := by
          intro D hD
          obtain ⟨d, rfl⟩ := Nat.exists_eq_add_of_le hD
          rw [Nat.add_comm 6 d]
          refine (zcS (S66_0 xs L d I J X _ _ _ _)).trans ?_
          rw [if_pos (decide_eq_true (show I 26 4 < 300 from by
            rw [i32_lt]
            simp only [Int32.reduceToInt]
            omega)), zth_go, ← hI1]
          have hl := sig_loop xs L d I1 J X (I 32) (nv (I 61 19)) (by omega) a b t (I 0 11) ho (nv (I 61 19)) (Nat.le_refl _)
          rw [zshf_n, ← i32e, zov_self, nv_of h2, i26] at hl
          rw [i32e, ← hq] at hl
          rw [h1] at hl ⊢
          exact hl
        refine ⟨zup (zup (zup (zup (zup (zup (zup (zup (zov I1 32 (zset (zshf (I 32) q (nv (I 61 19))) q (I 26 4))) 26 4 (I 26 4 + 1)) 61 1 0) 74 (I 61 19).toNatClampNeg a) 75 (I 61 19).toNatClampNeg b) 76 (I 61 19).toNatClampNeg t) 77 (I 61 19).toNatClampNeg (I 61 2)) 78 (I 61 19).toNatClampNeg (-1)) 61 19 (I 61 19 + 1), zup J 122 0 (I 26 4).toInt64, X, ⟨0, I 26 4, zup (zov I1 32 (zset (zshf (I 32) q (nv (I 61 19))) q (I 26 4))) 26 4 (I 26 4 + 1), ?_, ?_, rfl, fun _ => zup_at⟩, ?_, ?_, Or.inr ⟨_, rfl⟩, Or.inl rfl, ?_⟩
        · refine w217_ok xs L (d + 4) I J X a b t _ J X (I 26 4) ?_
          refine (zcS (S114_0 xs L (d + 3) I J X _ _ _)).trans ?_
          rw [need_ok xs L _ (by omega) I J X a _ P.1, zcw_v, T114_0_6_694, need_ok xs L _ (by omega) I J X b _ P.2, zcw_v, T114_0_12_688]
          simp only [decide_eq_true_eq, zbi_eq0]
          simp only [i32_lt, Int32.reduceToInt]
          rw [if_neg (fun z => z W7), if_pos (by omega), hadd _ (by omega), zci_i, T114_2_8_669]
          rfl
        · refine (zcS (S150_0 xs L (d + 4) _ _ X _ _ _)).trans ?_
          have e : (zup (zov I1 32 (zset (zshf (I 32) q (nv (I 61 19))) q (I 26 4))) 26 4 (I 26 4 + 1)) 61 = I 61 := i61
          have e73 : (zup (zov I1 32 (zset (zshf (I 32) q (nv (I 61 19))) q (I 26 4))) 26 4 (I 26 4 + 1)) 73 = I 73 := by
            show I1 73 = I 73
            rw [hI1b]
            rfl
          rw [e, e73, if_pos zb73, if_pos z19, if_pos z19, if_pos z19, if_pos z19, if_pos z19, i32_add_sub, h1]
          have W1 := W.1
          simp only [decide_eq_true_eq, zbi_eq0]
          simp only [i32_le, i32_lt, Int32.reduceToInt]
          have c300 : ¬ I 61 19 = 300 := fun z => by
            rw [z] at Q
            exact absurd Q (by decide)
          rw [if_neg (by omega), if_pos (by omega), if_neg c300, if_neg W1, if_neg (by omega), if_pos (by omega)]
          rfl
        · have hm : ∀ k, k < nv (I 61 19) → I1 29 (nv (I 32 k)) = I 76 (nv (I 32 k)) := by
            intro k hk
            have h13 := h10 k hk
            have n13 := nv_int h13.1
            rw [i29, zset_ne (by omega)]
          have i74 : I1 74 = I 74 := by rw [hI1b]; rfl
          have i75 : I1 75 = I 75 := by rw [hI1b]; rfl
          have i76 : I1 76 = I 76 := by rw [hI1b]; rfl
          have i77 : I1 77 = I 77 := by rw [hI1b]; rfl
          have i78 : I1 78 = I 78 := by rw [hI1b]; rfl
          have hFk : ∀ k, k < nv (I 61 19) + 1 → k ≠ q → ∃ j, j < nv (I 61 19) ∧ zset (zshf (I 32) q (nv (I 61 19))) q (I 26 4) k = I 32 j ∧ (k < q → j = k) ∧ (q < k → j + 1 = k) := by
            intro k hk hne
            rw [zset_ne hne]
            unfold zshf
            by_cases c : q < k
            · rw [if_pos ⟨c, by omega⟩]
              exact ⟨k - 1, by omega, rfl, fun z => by omega, fun z => by omega⟩
            · rw [if_neg (by omega)]
              exact ⟨k, by omega, rfl, fun z => rfl, fun z => by omega⟩
          refine ⟨⟨?_, ?_, ?_⟩, ⟨?_, ?_, ?_, ?_, ?_⟩, ?_, ?_, ?_, ?_⟩
          · show I 26 4 + 1 = I 61 19 + 1
            rw [h1]
          · show 0 ≤ (I 61 19 + 1).toInt
            omega
          · show (I 61 19 + 1).toInt ≤ 300
            omega
          · show I1 27 = fun k' => if k' = (I 61 19).toNatClampNeg then a else I1 74 k'
            rw [hI1b]
            show zset (I 27) (nv (I 61 19)) a = fun k' => if k' = (I 61 19).toNatClampNeg then a else I 74 k'
            rw [h4]
            rfl
          · show I1 28 = fun k' => if k' = (I 61 19).toNatClampNeg then b else I1 75 k'
            rw [hI1b]
            show zset (I 28) (nv (I 61 19)) b = fun k' => if k' = (I 61 19).toNatClampNeg then b else I 75 k'
            rw [h5]
            rfl
          · show I1 29 = fun k' => if k' = (I 61 19).toNatClampNeg then t else I1 76 k'
            rw [hI1b]
            show zset (I 29) (nv (I 61 19)) t = fun k' => if k' = (I 61 19).toNatClampNeg then t else I 76 k'
            rw [h6]
            rfl
          · show I1 30 = fun k' => if k' = (I 61 19).toNatClampNeg then I 61 2 else I1 77 k'
            rw [hI1b]
            show zset (I 30) (nv (I 61 19)) (I 0 11) = fun k' => if k' = (I 61 19).toNatClampNeg then I 61 2 else I 77 k'
            rw [h7, g1]
            rfl
          · show I1 31 = fun k' => if k' = (I 61 19).toNatClampNeg then -1 else I1 78 k'
            rw [hI1b]
            show zset (I 31) (nv (I 61 19)) (-1) = fun k' => if k' = (I 61 19).toNatClampNeg then -1 else I 78 k'
            rw [h8]
            rfl
          · show ∀ s, s < nv (I 61 19 + 1) → (0 ≤ (if s = nv (I 61 19) then a else I1 74 s).toInt ∧ (if s = nv (I 61 19) then a else I1 74 s).toInt < (I1 61 7).toInt) ∧ (0 ≤ (if s = nv (I 61 19) then b else I1 75 s).toInt ∧ (if s = nv (I 61 19) then b else I1 75 s).toInt < (I1 61 4).toInt) ∧ (0 ≤ (if s = nv (I 61 19) then t else I1 76 s).toInt ∧ (if s = nv (I 61 19) then t else I1 76 s).toInt ≤ (if s = nv (I 61 19) then I 61 2 else I1 77 s).toInt ∧ (if s = nv (I 61 19) then I 61 2 else I1 77 s).toInt ≤ (I1 61 2).toInt) ∧ -1 ≤ (if s = nv (I 61 19) then -1 else I1 78 s).toInt
            rw [i61, i74, i75, i76, i77, i78]
            intro s hs
            by_cases c : s = nv (I 61 19)
            · rw [if_pos c, if_pos c, if_pos c, if_pos c, if_pos c, i32_m1]
              omega
            · rw [if_neg c, if_neg c, if_neg c, if_neg c, if_neg c]
              exact h9 s (by omega)
          · intro k hk
            have hk : k < nv (I 61 19 + 1) := hk
            show 0 ≤ (zset (zshf (I 32) q (nv (I 61 19))) q (I 26 4) k).toInt ∧ (zset (zshf (I 32) q (nv (I 61 19))) q (I 26 4) k).toInt < (I 61 19 + 1).toInt
            by_cases c : k = q
            · rw [c, zset_at]
              omega
            · obtain ⟨j, j1, j2, _, _⟩ := hFk k (by omega) c
              rw [j2]
              have := h10 j j1
              omega
          · intro k r hkr hr
            have hr : r < nv (I 61 19 + 1) := hr
            show (if nv (zset (zshf (I 32) q (nv (I 61 19))) q (I 26 4) k) = nv (I 61 19) then t else I1 76 (nv (zset (zshf (I 32) q (nv (I 61 19))) q (I 26 4) k))).toInt < (if nv (zset (zshf (I 32) q (nv (I 61 19))) q (I 26 4) r) = nv (I 61 19) then t else I1 76 (nv (zset (zshf (I 32) q (nv (I 61 19))) q (I 26 4) r))).toInt ∨ ((if nv (zset (zshf (I 32) q (nv (I 61 19))) q (I 26 4) k) = nv (I 61 19) then t else I1 76 (nv (zset (zshf (I 32) q (nv (I 61 19))) q (I 26 4) k))).toInt = (if nv (zset (zshf (I 32) q (nv (I 61 19))) q (I 26 4) r) = nv (I 61 19) then t else I1 76 (nv (zset (zshf (I 32) q (nv (I 61 19))) q (I 26 4) r))).toInt ∧ (zset (zshf (I 32) q (nv (I 61 19))) q (I 26 4) k).toInt < (zset (zshf (I 32) q (nv (I 61 19))) q (I 26 4) r).toInt)
            have hMo : ∀ j, j < nv (I 61 19) → (if nv (I 32 j) = nv (I 61 19) then t else I1 76 (nv (I 32 j))) = I 76 (nv (I 32 j)) := by
              intro j hj
              have := h10 j hj
              have := nv_int this.1
              rw [if_neg (by omega), i76]
            by_cases ck : k = q
            · have cr : r ≠ q := by omega
              obtain ⟨j, j1, j2, _, j4⟩ := hFk r (by omega) cr
              rw [ck, zset_at, j2, hMo j j1, h1, if_pos rfl]
              left
              have := hhi j (by omega) j1
              rw [hm j j1] at this
              exact this
            · obtain ⟨i, i1, i2, i3, i4⟩ := hFk k (by omega) ck
              by_cases cr : r = q
              · rw [cr, zset_at, i2, hMo i i1, h1, if_pos rfl]
                have := hlo (by omega)
                have hx : (I 76 (nv (I 32 i))).toInt ≤ t.toInt := by
                  rw [hm (q - 1) (by omega)] at this
                  by_cases ce : i = q - 1
                  · rw [ce]
                    exact this
                  · rcases h11 i (q - 1) (by omega) (by omega) with z | z <;> omega
                have := h10 i i1
                omega
              · obtain ⟨j, j1, j2, j3, j4⟩ := hFk r (by omega) cr
                rw [i2, j2, hMo i i1, hMo j j1]
                exact h11 i j (by omega) j1
          · intro s hs
            have hs : s < nv (I 61 19 + 1) := hs
            show ∃ p, p < nv (I 61 19 + 1) ∧ zset (zshf (I 32) q (nv (I 61 19))) q (I 26 4) p = Int32.ofNat s
            by_cases c : s = nv (I 61 19)
            · refine ⟨q, by omega, ?_⟩
              rw [zset_at, c, nv_of h2, h1]
            · obtain ⟨p, p1, p2⟩ := h12 s (by omega)
              by_cases c2 : p < q
              · refine ⟨p, by omega, ?_⟩
                rw [zset_ne (by omega)]
                unfold zshf
                rw [if_neg (by omega)]
                exact p2
              · refine ⟨p + 1, by omega, ?_⟩
                rw [zset_ne (by omega)]
                unfold zshf
                rw [if_pos (by omega)]
                exact p2
        · have hi : zfr8 [26, 27, 28, 29, 30, 31, 32, 74, 75, 76, 77, 78] [1, 19] I I1 := by
            rw [hI1]
            exact zfr8_put (zfr8_put (zfr8_put (zfr8_put (zfr8_put zfr8_rfl (by decide) (by decide)) (by decide) (by decide)) (by decide) (by decide)) (by decide) (by decide)) (by decide) (by decide)
          exact zfr8_m (zfr8_up (zfr8_up (zfr8_up (zfr8_up (zfr8_up (zfr8_m (zfr8_up (zfr8_ov hi (by decide) (by decide)) (by decide) (by decide)) (by decide)) (by decide) (by decide)) (by decide) (by decide)) (by decide) (by decide)) (by decide) (by decide)) (by decide) (by decide)) (by decide)
        · have e1 := nv_add1 h2 (by omega)
          show (I 61 19).toInt ≤ (I 61 19 + 1).toInt
          omega
      · have c300 : I 61 19 = 300 := by
          rw [i32_eq]
          simp only [Int32.reduceToInt]
          omega
        refine ⟨zup I 61 1 0, zup J 122 0 (-1 : Int32).toInt64, X, ⟨0, -1, I, ?_, ?_, rfl, fun _ => zup_at⟩, hF0, zfr8_m zfr8_rfl (by decide), Or.inr ⟨_, rfl⟩, Or.inl rfl, Int.le_refl _⟩
        · refine w217_ok xs L (d + 4) I J X a b t _ J X (-1) ?_
          refine (zcS (S114_0 xs L (d + 3) I J X _ _ _)).trans ?_
          rw [need_ok xs L _ (by omega) I J X a _ P.1, zcw_v, T114_0_6_694, need_ok xs L _ (by omega) I J X b _ P.2, zcw_v, T114_0_12_688]
          have hadd : ∀ D, 6 ≤ D → zev xs L D 66 [.ref 26, .int a, .int b, .int t, .int (I 0 11)] (zmk I J X) = some (.inr (some (.int (-1))), zmk I J X) := by
            intro D hD
            obtain ⟨d, rfl⟩ := Nat.exists_eq_add_of_le hD
            rw [Nat.add_comm 6 d]
            refine (zcS (S66_0 xs L d I J X _ _ _ _)).trans ?_
            rw [h1, c300, if_neg (by decide)]
            rfl
          simp only [decide_eq_true_eq, zbi_eq0]
          simp only [i32_lt, Int32.reduceToInt]
          rw [if_neg (fun z => z W7), if_pos (by omega), hadd _ (by omega), zci_i, T114_2_8_669]
          rfl
        · refine (zcS (S150_0 xs L (d + 4) _ _ X _ _ _)).trans ?_
          simp only [decide_eq_true_eq, zbi_eq0]
          simp only [i32_le, i32_lt, Int32.reduceToInt]
          rw [if_neg (by omega), if_pos (by omega), if_pos c300]
          rfl
    · refine ⟨zup I 61 1 0, zup J 122 0 (-1 : Int32).toInt64, X, ⟨0, -1, I, ?_, ?_, rfl, fun _ => zup_at⟩, hF0, zfr8_m zfr8_rfl (by decide), Or.inr ⟨_, rfl⟩, Or.inl rfl, Int.le_refl _⟩
      · refine w217_ok xs L (d + 4) I J X a b t _ J X (-1) ?_
        refine (zcS (S114_0 xs L (d + 3) I J X _ _ _)).trans ?_
        rw [need_ok xs L _ (by omega) I J X a _ P.1, zcw_v, T114_0_6_694, need_ok xs L _ (by omega) I J X b _ P.2, zcw_v, T114_0_12_688]
        simp only [decide_eq_true_eq, zbi_eq0]
        simp only [i32_lt, Int32.reduceToInt]
        by_cases G : zat I 7 40 b = 1000000000
        · have G2 : ¬ I 73 b.toNatClampNeg = 0 := hGb.mp (z7.symm.trans G)
          have W2 : ¬ (0 ≤ t.toInt ∧ t.toInt ≤ (I 61 2).toInt) := fun z => W ⟨G2, z⟩
          rw [if_neg (fun z => z G), if_neg (by omega)]
          rfl
        · rw [if_pos G]
          rfl
      · refine (zcS (S150_0 xs L (d + 4) _ _ X _ _ _)).trans ?_
        rw [if_pos zb73]
        simp only [decide_eq_true_eq, zbi_eq0]
        simp only [i32_le, i32_lt, Int32.reduceToInt]
        rw [if_neg (by omega), if_pos (by omega)]
        by_cases c1 : I 61 19 = 300
        · rw [if_pos c1]
          rfl
        rw [if_neg c1]
        by_cases c2 : I 73 b.toNatClampNeg = 0
        · rw [if_pos c2]
          rfl
        have W2 : ¬ (0 ≤ t.toInt ∧ t.toInt ≤ (I 61 2).toInt) := fun z => W ⟨c2, z⟩
        rw [if_neg c2]
        by_cases c3 : t.toInt < 0
        · rw [if_pos c3]
          rfl
        rw [if_neg c3, if_neg (by omega)]
        rfl
  · refine ⟨zup (zup I 61 1 0) 61 1 1, J, zXe X, ⟨1, 0, I, ?_, ?_, zup_at, fun z => absurd z (by decide)⟩, hF0, zfr8_m (zfr8_m zfr8_rfl (by decide)) (by decide), Or.inl rfl, Or.inr rfl, Int.le_refl _⟩
    · refine w217_x0 xs L (d + 4) I J X a b t _ J (zXe X) ?_
      refine (zcS (S114_0 xs L (d + 3) I J X _ _ _)).trans ?_
      by_cases c : 0 ≤ a.toInt ∧ a.toInt < (I 9 2).toInt
      · rw [need_ok xs L _ (by omega) I J X a _ c, zcw_v, T114_0_6_694, need_no xs L _ (by omega) I J X b _ (fun z => P ⟨c, z⟩), zcw_x, zthr_P rfl]
        rfl
      · rw [need_no xs L _ (by omega) I J X a _ c, zcw_x, zthr_P rfl]
        rfl
    · refine (zcS (S150_0 xs L (d + 4) _ _ _ _ _ _)).trans ?_
      simp only [decide_eq_true_eq, zbi_eq0]
      simp only [i32_le, i32_lt, Int32.reduceToInt]
      by_cases c : ¬ (¬ a.toInt < 0 ∧ ¬ (I 61 7).toInt ≤ a.toInt)
      · rw [if_pos c]
        rfl
      · rw [if_neg c, if_neg (by omega)]
        rfl
