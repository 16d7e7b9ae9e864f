/-! THE PURE PART: a level of the reader with one kind of operator, both sides. -/
theorem zrank_ops {t : Int32} (h0 : ¬ zrank t = 0) (h6 : ¬ zrank t = 3) : zkd9 (-t) = 3 ∧ zmcs [-t] = [zmo (-t)] ∧ ¬ t = 40 ∧ ¬ t = 306 := by
  have : t = 42 ∨ t = 43 ∨ t = 45 ∨ t = 47 ∨ t = 60 ∨ t = 61 ∨ t = 304 ∨ t = 305 := by
    unfold zrank at h0 h6
    by_cases c1 : t = 42
    · exact Or.inl c1
    by_cases c2 : t = 43
    · exact Or.inr (Or.inl c2)
    by_cases c3 : t = 45
    · exact Or.inr (Or.inr (Or.inl c3))
    by_cases c4 : t = 47
    · exact Or.inr (Or.inr (Or.inr (Or.inl c4)))
    by_cases c5 : t = 60
    · exact Or.inr (Or.inr (Or.inr (Or.inr (Or.inl c5))))
    by_cases c6 : t = 61
    · exact Or.inr (Or.inr (Or.inr (Or.inr (Or.inr (Or.inl c6)))))
    by_cases c7 : t = 304
    · exact Or.inr (Or.inr (Or.inr (Or.inr (Or.inr (Or.inr (Or.inl c7))))))
    by_cases c8 : t = 305
    · exact Or.inr (Or.inr (Or.inr (Or.inr (Or.inr (Or.inr (Or.inr c8))))))
    rw [if_neg c1, if_neg c2, if_neg c3, if_neg c4, if_neg c5, if_neg c6, if_neg c7, if_neg c8] at h0 h6
    by_cases c9 : t = 306
    · rw [if_pos c9] at h6
      exact absurd rfl h6
    · rw [if_neg c9] at h0
      exact absurd rfl h0
  rcases this with e | e | e | e | e | e | e | e <;> subst e <;> decide
theorem zrp_two2 {lim : Nat} {l r : List Int32} {w : Int32} (h : zkd9 w = 3) (q : zrp (lim + 1) 0 l 1) (g : zrp lim 0 r 1) : zrp (lim + 1) 0 (l ++ r ++ [w]) 1 := by
  have g2 := zrp_off 1 r 0 1 g
  rw [Nat.zero_add] at g2
  exact zrp_app (zrp_app q g2) (Or.inr (Or.inr ⟨h, Nat.le_refl _, rfl⟩))
theorem yjc_ne {r : Int32} {d i : Nat} {cm : Nat → Bool} (h : i ≠ d) : yjc r d cm i = cm i := by
  unfold yjc
  by_cases c4 : (4 : Int32) ≤ r
  · rw [if_pos c4]
    by_cases c5 : r = 4
    · rw [if_pos c5]
      exact if_neg h
    · rw [if_neg c5]
  · rw [if_neg c4]
    exact if_neg h
theorem lv_loop (xs : Nat → Int32) (L Dc d0 : Nat) (Jc Jm : Nat → Nat → Int64) (Xc Xm : XH) {V : Nat → Nat → Int32} {T : Nat → Int32} {n c : Nat} {hd lt nr : Int32} {x ar : Nat} (sub : Nat) (r ρs : Int32) (lim : Nat) (post : Int32 → (Nat → Bool) → Prop) (G : (Nat → Nat → Int32) → Option (Ret × AH)) (K u w : List Int32) (hn : n ≤ 400) (hV : V 36 = T) (hb : ∀ i, i < n → 0 ≤ (T i).toInt ∧ (T i).toInt ≤ 255) (hx : x < 37) (har : ar ≤ 6) (hDc : 7 ≤ Dc) (r0 : ¬ r = 0) (r3 : ¬ r = 3) (r4 : ¬ r = 4) (hρ : r.toInt ≤ ρs.toInt) (hw : ytop r w) (hno : ∀ M : Nat → Nat → Int32, ¬ M 61 65 = 0 → G M = some (.inr none, zmk M Jm Xm)) (hend : ∀ (M : Nat → Nat → Int32) (b : Nat), b ≤ n → yMt M T n b → M 61 65 = 0 → ¬ zrank (ylx T n b).1 = r → G M = some (.inr none, zmk M Jm Xm)) (hop : ∀ (M : Nat → Nat → Int32) (b : Nat), b ≤ n → yMt M T n b → M 61 65 = 0 → zrank (ylx T n b).1 = r → ∀ M1 M2 M3 : Nat → Nat → Int32, zev xs L Dc 161 [.ref 61] (zmk M Jm Xm) = some (.inr none, zmk M1 Jm Xm) → zev xs L Dc sub [.ref 61, .int (Int32.ofNat x), .int (Int32.ofNat ar)] (zmk M1 Jm Xm) = some (.inr none, zmk M2 Jm Xm) → zev xs L Dc 176 [.ref 61, .int (Int32.ofNat x), .int (zmo (-(ylx T n b).1))] (zmk M2 Jm Xm) = some (.inr none, zmk M3 Jm Xm) → G M = G M3) (hS : ∀ (M1 : Nat → Nat → Int32) (b1 : Nat) (K1 u1 : List Int32) (t : Int32) (ns1 : Nat) (cm1 : Nat → Bool), zrank t = r → b1 ≤ n → yMt M1 T n b1 → M1 61 65 = 0 → yMK M1 x K1 → 2 * (K1.length + ypn (t :: w)) ≤ 3 * b1 → (∃ t' cm, post t' cm ∧ cm1 = yjc r ar cm) → (∃ ns, ns1 = yjn r ns) → yLv xs L Dc sub d0 Jc Jm Xc Xm V T n c hd lt nr x ar M1 b1 K1 u1 (t :: w) (yjm r) ns1 cm1 ρs lim post) : ∀ (f : Nat) (M : Nat → Nat → Int32) (b : Nat) (out u1 w1 : List Int32) (mn1 : Int32) (ns1 : Nat) (cm1 : Nat → Bool), n - b < f → b ≤ n → yMt M T n b → M 61 65 = 0 → yMK M x (K ++ zmcs out) → zrp (lim + 1) 0 out 1 → 2 * ((K ++ zmcs out).length + ypn w) ≤ 3 * b + 1 → yEq r w1 u1 w (u ++ out) → post (ylx T n b).1 cm1 → ∃ M', G M = some (.inr none, zmk M' Jm Xm) ∧ yfM x K.length M M' ∧ ((∃ k p, (¬ k = 0 ∧ ¬ k = 9) ∧ M' 61 65 = k ∧ M' 61 66 = Int32.ofNat p ∧ ∀ Q, yBad V k p Q → yRun xs L d0 Jc Xc V n b c hd lt nr 4 u1 w1 ar mn1 ns1 cm1 Q) ∨ (M' 61 65 = 0 ∧ ∃ b' out' u' w' mn' ns' cm', b ≤ b' ∧ b' ≤ n ∧ yMt M' T n b' ∧ yMK M' x (K ++ zmcs out') ∧ zrp (lim + 1) 0 out' 1 ∧ 2 * ((K ++ zmcs out').length + ypn w) ≤ 3 * b' + 1 ∧ yEq r w' u' w (u ++ out') ∧ (∀ i, i < ar → cm' i = cm1 i) ∧ (post (ylx T n b').1 cm' ∧ ¬ zrank (ylx T n b').1 = r) ∧ ∀ Q, yRun xs L d0 Jc Xc V n b' c hd lt nr 4 u' w' ar mn' ns' cm' Q → yRun xs L d0 Jc Xc V n b c hd lt nr 4 u1 w1 ar mn1 ns1 cm1 Q))
  | 0, _, _, _, _, _, _, _, _, hf, _, _, _, _, _, _, _, _ => absurd hf (Nat.not_lt_zero _)
  | f + 1, M, b, out, u1, w1, mn1, ns1, cm1, hf, hbn, hM, h0, hMK, hz, hK, hq, hp => by
    subst hV
    by_cases ht : zrank (ylx (V 36) n b).1 = r
    · obtain ⟨t, et⟩ : ∃ t, t = (ylx (V 36) n b).1 := ⟨_, rfl⟩
      obtain ⟨o1, o2, o3, o4⟩ := zrank_ops (t := (ylx (V 36) n b).1) (by rw [ht]; exact r0) (by rw [ht]; exact r3)
      have hx6 : ¬ (ylx (V 36) n b).1 = 256 := fun z => r0 (by
        rw [← ht, z]
        decide)
      have rg := ylx_rg (V 36) n b hbn
      have hlt := rg.2.2.2.2 hx6
      obtain ⟨M1, s1, s2, s3⟩ := step_m xs L Dc hDc Jm Xm hn hbn hb hM
      have hu : yun (zrank (ylx (V 36) n b).1) w1 u1 = (u ++ out, w) := yEq_top hq (by rw [ht]; exact Int.le_refl _) (by rw [ht]; exact hw)
      have ytl : ypn ((ylx (V 36) n b).1 :: w) = 1 + ypn w := by
        show (if (ylx (V 36) n b).1 = 40 then 0 else 1) + ypn w = _
        rw [if_neg o3]
      obtain ⟨M2, a1, a2, a3⟩ := hS M1 (ylx (V 36) n b).2.2.2 (K ++ zmcs out) (u ++ out) (ylx (V 36) n b).1 (yjn r ns1) (yjc r ar cm1) ht rg.2.1 s3 (by rw [s2.2 65 (by decide), h0]) (yMK_fr hMK (s2.2 68 (by decide)) (s2.1 101 (by decide))) (by
        rw [ytl]
        omega) ⟨_, cm1, hp, rfl⟩ ⟨ns1, rfl⟩
      have hop' := hop M b hbn hM h0 ht M1 M2
      have hle : K.length ≤ (K ++ zmcs out).length := by
        rw [List.length_append]
        omega
      have f1 : yfM x K.length M M2 := yfM_tr (yfM_step s2) a2 hle
      have goj : ∀ Q, yRun xs L d0 Jc Xc V n (ylx (V 36) n b).2.2.2 c hd lt nr 3 (u ++ out) ((ylx (V 36) n b).1 :: w) ar (yjm r) (yjn r ns1) (yjc r ar cm1) Q → yRun xs L d0 Jc Xc V n b c hd lt nr 4 u1 w1 ar mn1 ns1 cm1 Q := fun Q hQ => j_op xs L d0 Jc Xc hn har (by rw [ht]; exact r0) o4 (fun z => absurd (ht.symm.trans z) r4) (by
        rw [hu, ht]
        exact hQ)
      rcases a3 with ⟨k, p, k0, e1, e2, e3⟩ | ⟨z0, b2, out2, u2, w2, mn2, ns2, cm2, c1, c2, c3, c4, c5, c6, c7, c8, c9, c10⟩
      · have kn : ¬ M2 61 65 = 0 := by
          rw [e1]
          exact k0.1
        have g1 := hop' M2 s1 a1 (emit_no xs L Dc (by omega) M2 Jm Xm _ _ kn)
        exact ⟨M2, g1.trans (hno M2 kn), f1, Or.inl ⟨k, p, k0, e1, e2, fun Q hQ => goj Q (e3 Q hQ)⟩⟩
      · have c6' := c6
        rw [ytl] at c6'
        obtain ⟨M3, m1, m2, m3, m4, m5⟩ := emit_m xs L Dc (by omega) M2 Jm Xm x ((K ++ zmcs out) ++ zmcs out2) (zmo (-(ylx (V 36) n b).1)) hx (by omega) z0 c4
        have g1 := hop' M3 s1 a1 m1
        have ez : (K ++ zmcs out) ++ zmcs out2 ++ [zmo (-(ylx (V 36) n b).1)] = K ++ zmcs (out ++ out2 ++ [-(ylx (V 36) n b).1]) := by
          rw [zmcs_app, zmcs_app, o2, List.append_assoc, List.append_assoc, List.append_assoc]
        have el : (K ++ zmcs (out ++ out2 ++ [-(ylx (V 36) n b).1])).length = ((K ++ zmcs out) ++ zmcs out2).length + 1 := by
          rw [← ez, List.length_append]
          rfl
        have hle2 : K.length ≤ ((K ++ zmcs out) ++ zmcs out2).length := by
          rw [List.length_append]
          omega
        have h03 : M3 61 65 = 0 := by rw [m4 65 (by decide), z0]
        have hM3 : yMt M3 (V 36) n b2 := yMt_fr c3 (m3 104 (by decide) (by decide)) (fun k hk => by
          simp only [List.mem_cons, List.not_mem_nil, or_false] at hk
          exact m4 k (by omega))
        have f3 : yfM x K.length M M3 := yfM_tr f1 (k2 := ((K ++ zmcs out) ++ zmcs out2).length) ⟨m3, fun j hj => m4 j (fun z => hj (by
          rw [z]
          decide)), fun j hj => m5 j (by omega)⟩ hle2
        have q3 : yEq r w2 u2 w (u ++ (out ++ out2 ++ [-(ylx (V 36) n b).1])) := by
          have e : u ++ (out ++ out2 ++ [-(ylx (V 36) n b).1]) = (u ++ out) ++ out2 ++ [-(ylx (V 36) n b).1] := by
            rw [List.append_assoc, List.append_assoc, List.append_assoc]
          rw [e]
          exact yEq_tr (yEq_le c7 hρ) (yEq_op (by rw [ht]; exact Int.le_refl _))
        obtain ⟨M4, i1, i2, i3⟩ := lv_loop xs L Dc d0 Jc Jm Xc Xm sub r ρs lim post G K u w hn rfl hb hx har hDc r0 r3 r4 hρ hw hno hend hop hS f M3 b2 (out ++ out2 ++ [-(ylx (V 36) n b).1]) u2 w2 mn2 ns2 cm2 (by omega) c2 hM3 h03 (by
          rw [← ez]
          exact m2) (zrp_two2 o1 hz c5) (by
          rw [el]
          omega) q3 c9
        refine ⟨M4, g1.trans i1, yfM_tr f3 i2 (Nat.le_refl _), ?_⟩
        rcases i3 with ⟨k, p, k0, e1, e2, e3⟩ | ⟨z4, b4, out4, u4, w4, mn4, ns4, cm4, d1, d2, d3, d4, d5, d6, d7, d8, d9, d10⟩
        · exact Or.inl ⟨k, p, k0, e1, e2, fun Q hQ => goj Q (c10 Q (e3 Q hQ))⟩
        · exact Or.inr ⟨z4, b4, out4, u4, w4, mn4, ns4, cm4, by omega, d2, d3, d4, d5, d6, d7, fun i hi => (d8 i hi).trans ((c8 i hi).trans (yjc_ne (by omega))), d9, fun Q hQ => goj Q (c10 Q (d10 Q hQ))⟩
    · exact ⟨M, hend M b hbn hM h0 ht, yfM_rfl, Or.inr ⟨h0, b, out, u1, w1, mn1, ns1, cm1, Nat.le_refl _, hbn, hM, hMK, hz, hK, hq, fun _ _ => rfl, ⟨hp, ht⟩, fun _ hQ => hQ⟩⟩
/-- the first part of a level, then its loop -/
theorem lv_level (xs : Nat → Int32) (L Dc d0 : Nat) (Jc Jm : Nat → Nat → Int64) (Xc Xm : XH) {V : Nat → Nat → Int32} {T : Nat → Int32} {n c : Nat} {hd lt nr : Int32} {x ar : Nat} (m sub : Nat) (r ρs : Int32) (lim : Nat) (post : Int32 → (Nat → Bool) → Prop) (G : (Nat → Nat → Int32) → Option (Ret × AH)) (K u w : List Int32) (hn : n ≤ 400) (hV : V 36 = T) (hb : ∀ i, i < n → 0 ≤ (T i).toInt ∧ (T i).toInt ≤ 255) (hx : x < 37) (har : ar ≤ 6) (hDc : 7 ≤ Dc) (r0 : ¬ r = 0) (r3 : ¬ r = 3) (r4 : ¬ r = 4) (hρ : r.toInt ≤ ρs.toInt) (hw : ytop r w) (hno : ∀ M : Nat → Nat → Int32, ¬ M 61 65 = 0 → G M = some (.inr none, zmk M Jm Xm)) (hend : ∀ (M : Nat → Nat → Int32) (b : Nat), b ≤ n → yMt M T n b → M 61 65 = 0 → ¬ zrank (ylx T n b).1 = r → G M = some (.inr none, zmk M Jm Xm)) (hop : ∀ (M : Nat → Nat → Int32) (b : Nat), b ≤ n → yMt M T n b → M 61 65 = 0 → zrank (ylx T n b).1 = r → ∀ M1 M2 M3 : Nat → Nat → Int32, zev xs L Dc 161 [.ref 61] (zmk M Jm Xm) = some (.inr none, zmk M1 Jm Xm) → zev xs L Dc sub [.ref 61, .int (Int32.ofNat x), .int (Int32.ofNat ar)] (zmk M1 Jm Xm) = some (.inr none, zmk M2 Jm Xm) → zev xs L Dc 176 [.ref 61, .int (Int32.ofNat x), .int (zmo (-(ylx T n b).1))] (zmk M2 Jm Xm) = some (.inr none, zmk M3 Jm Xm) → G M = G M3) (hS : ∀ (M1 : Nat → Nat → Int32) (b1 : Nat) (K1 u1 : List Int32) (t : Int32) (ns1 : Nat) (cm1 : Nat → Bool), zrank t = r → b1 ≤ n → yMt M1 T n b1 → M1 61 65 = 0 → yMK M1 x K1 → 2 * (K1.length + ypn (t :: w)) ≤ 3 * b1 → (∃ t' cm, post t' cm ∧ cm1 = yjc r ar cm) → (∃ ns, ns1 = yjn r ns) → yLv xs L Dc sub d0 Jc Jm Xc Xm V T n c hd lt nr x ar M1 b1 K1 u1 (t :: w) (yjm r) ns1 cm1 ρs lim post) {M : Nat → Nat → Int32} {b : Nat} {mn : Int32} {ns : Nat} {cm : Nat → Bool} (hm : ∀ M2 : Nat → Nat → Int32, zev xs L Dc sub [.ref 61, .int (Int32.ofNat x), .int (Int32.ofNat ar)] (zmk M Jm Xm) = some (.inr none, zmk M2 Jm Xm) → zev xs L (Dc + 1) m [.ref 61, .int (Int32.ofNat x), .int (Int32.ofNat ar)] (zmk M Jm Xm) = G M2) (h1 : yLv xs L Dc sub d0 Jc Jm Xc Xm V T n c hd lt nr x ar M b K u w mn ns cm ρs lim post) : yLv xs L (Dc + 1) m d0 Jc Jm Xc Xm V T n c hd lt nr x ar M b K u w mn ns cm r (lim + 1) (fun t cm' => post t cm' ∧ ¬ zrank t = r) := by
  obtain ⟨M2, a1, a2, a3⟩ := h1
  have g1 := hm M2 a1
  rcases a3 with ⟨k, p, k0, e1, e2, e3⟩ | ⟨z0, b2, out2, u2, w2, mn2, ns2, cm2, c1, c2, c3, c4, c5, c6, c7, c8, c9, c10⟩
  · have kn : ¬ M2 61 65 = 0 := by
      rw [e1]
      exact k0.1
    exact ⟨M2, g1.trans (hno M2 kn), a2, Or.inl ⟨k, p, k0, e1, e2, e3⟩⟩
  · obtain ⟨M4, i1, i2, i3⟩ := lv_loop xs L Dc d0 Jc Jm Xc Xm sub r ρs lim post G K u w hn hV hb hx har hDc r0 r3 r4 hρ hw hno hend hop hS (n - b2 + 1) M2 b2 out2 u2 w2 mn2 ns2 cm2 (by omega) c2 c3 z0 c4 (zrp_mono (by omega) c5) c6 (yEq_le c7 hρ) c9
    refine ⟨M4, g1.trans i1, yfM_tr a2 i2 (Nat.le_refl _), ?_⟩
    rcases i3 with ⟨k, p, k0, e1, e2, e3⟩ | ⟨z4, b4, out4, u4, w4, mn4, ns4, cm4, d1, d2, d3, d4, d5, d6, d7, d8, d9, d10⟩
    · exact Or.inl ⟨k, p, k0, e1, e2, fun Q hQ => c10 Q (e3 Q hQ)⟩
    · exact Or.inr ⟨z4, b4, out4, u4, w4, mn4, ns4, cm4, by omega, d2, d3, d4, d5, d6, d7, fun i hi => (d8 i hi).trans (c8 i hi), d9, fun Q hQ => c10 Q (d10 Q hQ)⟩
