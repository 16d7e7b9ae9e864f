/-! THE PURE PART: 'not' and comparisons, both sides. -/
theorem ytop_nots {r : Int32} (k : Nat) {w : List Int32} (h : ytop 3 w) (hr : 3 < r.toInt) : ytop r (List.replicate k 306 ++ w) := by
  cases k with
  | zero => exact ytop_mono h (by
      have : (3 : Int32).toInt = 3 := by decide
      omega)
  | succ k =>
    show zrank 306 < r
    exact i32_lt.mpr (by
      have : (zrank 306).toInt = 3 := by decide
      omega)
theorem ypn_nots : ∀ (k : Nat) (w : List Int32), ypn (List.replicate k 306 ++ w) = k + ypn w
  | 0, w => (Nat.zero_add _).symm
  | k + 1, w => by
    show (if (306 : Int32) = 40 then 0 else 1) + ypn (List.replicate k 306 ++ w) = _
    rw [ypn_nots k w, if_neg (by decide)]
    omega
theorem yEq_nots : ∀ (k : Nat) (w u : List Int32), yEq 3 (List.replicate k 306 ++ w) u w (u ++ List.replicate k (-306))
  | 0, w, u => by
    show yEq 3 w u w (u ++ [])
    rw [List.append_nil]
    exact yEq_rfl
  | k + 1, w, u => by
    have h := yEq_nots k w (u ++ [-306])
    have e : u ++ [(-306 : Int32)] ++ List.replicate k (-306) = u ++ List.replicate (k + 1) (-306) := by
      rw [List.append_assoc]
      rfl
    rw [e] at h
    exact yEq_tr (yEq_op (by decide)) h
theorem zmcs_nots : ∀ (k : Nat), zmcs (List.replicate k (-306)) = List.replicate k 9
  | 0 => rfl
  | k + 1 => by
    show zmc (-306) ++ zmcs (List.replicate k (-306)) = 9 :: List.replicate k 9
    rw [zmcs_nots k, show zmc (-306) = [9] by decide]
    rfl
theorem zrp_nots {lim : Nat} : ∀ (k : Nat) {l : List Int32}, zrp lim 0 l 1 → zrp lim 0 (l ++ List.replicate k (-306)) 1
  | 0, l, h => by
    show zrp lim 0 (l ++ []) 1
    rw [List.append_nil]
    exact h
  | k + 1, l, h => by
    have e : l ++ List.replicate (k + 1) (-306) = (l ++ [(-306 : Int32)]) ++ List.replicate k (-306) := by
      rw [List.append_assoc]
      rfl
    rw [e]
    exact zrp_nots k (zrp_not (by decide) h)
theorem nots_emit (xs : Nat → Int32) (L d : Nat) (J : Nat → Nat → Int64) (X : XH) {x k : Nat} (a : Int32) (hx : x < 37) (hk : k ≤ 6) : ∀ (q i : Nat) (M : Nat → Nat → Int32) (K : List Int32), i + q = k → M 61 65 = 0 → yMK M x K → K.length + q < 640 → ∃ M', zgo xs L (d + 1 + 5) 171 10 [(0, .ref 61), (1, .int (Int32.ofNat x)), (2, .int a), (3, .int (Int32.ofNat k)), (4, .int (Int32.ofNat i))] (zmk M J X) = some (.inr none, zmk M' J X) ∧ yMK M' x (K ++ List.replicate q 9) ∧ (∀ a, a ≠ 61 → a ≠ 101 → M' a = M a) ∧ (∀ k, k ≠ 68 → M' 61 k = M 61 k) ∧ ∀ j, j < 640 * x + K.length ∨ 640 * x + 640 ≤ j → M' 101 j = M 101 j
  | 0, i, M, K, hi, h0, hK, hl => by
    have hi : i = k := hi
    refine ⟨M, ?_, ?_, fun _ _ _ => rfl, fun _ _ => rfl, fun _ _ => rfl⟩
    · rw [zgo_q, S171_10 xs L (d + 1), hi, if_pos (decide_eq_true ((nat_le (by omega) (by omega)).mpr (Nat.le_refl _)))]
      rfl
    · show yMK M x (K ++ [])
      rw [List.append_nil]
      exact hK
  | q + 1, i, M, K, hi, h0, hK, hl => by
    obtain ⟨M2, e1, e2, e3, e4, e5⟩ := emit_m xs L (d + 1 + 5) (by omega) M J X x K 9 hx (by omega) h0 hK
    have hl2 : (K ++ [(9 : Int32)]).length = K.length + 1 := List.length_append
    obtain ⟨M3, g1, g2, g3, g4, g5⟩ := nots_emit xs L d J X a hx hk q (i + 1) M2 (K ++ [9]) (by omega) (by rw [e4 65 (by decide), h0]) e2 (by omega)
    refine ⟨M3, ?_, ?_, fun b b1 b2 => (g3 b b1 b2).trans (e3 b b1 b2), fun b hb => (g4 b hb).trans (e4 b hb), fun j hj => (g5 j (by omega)).trans (e5 j (by omega))⟩
    · rw [zgo_q, S171_10 xs L (d + 1), if_neg (fun z => by
        have := (nat_le (by omega) (by omega)).mp (of_decide_eq_true z)
        omega), e1, zcw_v, T171_10_7_693 xs L (d + 1), zth_go, nat_succ]
      exact g1
    · have e : K ++ List.replicate (q + 1) (9 : Int32) = (K ++ [9]) ++ List.replicate q 9 := by
        rw [List.append_assoc]
        rfl
      rw [e]
      exact g2
theorem not_tail (xs : Nat → Int32) (L d : Nat) (J : Nat → Nat → Int64) (X : XH) {T : Nat → Int32} {n x k : Nat} (a : Int32) {lim : Nat} {M : Nat → Nat → Int32} {b : Nat} {K out u w u1 w1 : List Int32} (hn : n ≤ 400) (hx : x < 37) (hk : k ≤ 6) (hbn : b ≤ n) (h : yMt M T n b) (h0 : M 61 65 = 0) (hMK : yMK M x (K ++ zmcs out)) (hz : zrp lim 0 out 1) (hK : 2 * ((K ++ zmcs out).length + (k + ypn w)) ≤ 3 * b + 1) (hq : yEq 3 w1 u1 (List.replicate k 306 ++ w) (u ++ out)) : ∃ M', zgo xs L (d + 1 + 5) 171 10 [(0, .ref 61), (1, .int (Int32.ofNat x)), (2, .int a), (3, .int (Int32.ofNat k)), (4, .int 0)] (zmk M J X) = some (.inr none, zmk M' J X) ∧ yfM x K.length M M' ∧ M' 61 65 = 0 ∧ yMt M' T n b ∧ yMK M' x (K ++ zmcs (out ++ List.replicate k (-306))) ∧ zrp lim 0 (out ++ List.replicate k (-306)) 1 ∧ 2 * ((K ++ zmcs (out ++ List.replicate k (-306))).length + ypn w) ≤ 3 * b + 1 ∧ yEq 3 w1 u1 w (u ++ (out ++ List.replicate k (-306))) := by
  obtain ⟨M', e1, e2, e3, e4, e5⟩ := nots_emit xs L d J X a hx hk k 0 M (K ++ zmcs out) (Nat.zero_add _) h0 hMK (by omega)
  have ez : K ++ zmcs (out ++ List.replicate k (-306)) = (K ++ zmcs out) ++ List.replicate k 9 := by
    rw [zmcs_app, zmcs_nots, List.append_assoc]
  have el : (K ++ zmcs (out ++ List.replicate k (-306))).length = (K ++ zmcs out).length + k := by
    rw [ez, List.length_append, List.length_replicate]
  have hle : K.length ≤ (K ++ zmcs out).length := by
    rw [List.length_append]
    omega
  refine ⟨M', e1, ⟨e3, fun j hj => e4 j (fun z => hj (by
    rw [z]
    decide)), fun j hj => e5 j (by omega)⟩, ?_, ?_, ?_, zrp_nots k hz, ?_, ?_⟩
  · rw [e4 65 (by decide), h0]
  · exact yMt_fr h (e3 104 (by decide) (by decide)) (fun j hj => by
      simp only [List.mem_cons, List.not_mem_nil, or_false] at hj
      exact e4 j (by omega))
  · rw [ez]
    exact e2
  · rw [el]
    omega
  · rw [← List.append_assoc]
    exact yEq_tr hq (yEq_nots k w (u ++ out))
theorem not_body (xs : Nat → Int32) (L d d0 : Nat) (Jc Jm : Nat → Nat → Int64) (Xc Xm : XH) {V : Nat → Nat → Int32} {T : Nat → Int32} {n c : Nat} {hd lt nr : Int32} {x ar : Nat} {lim k : Nat} (hn : n ≤ 400) (hV : V 36 = T) (hb : ∀ i, i < n → 0 ≤ (T i).toInt ∧ (T i).toInt ≤ 255) (hx : x < 37) (har : ar < 6) (hS : ySp xs L (d + 3 + 5) 172 d0 Jc Jm Xc Xm V T n c hd lt nr x ar 5 lim (yPreP 5) (fun cm t cm' => (cm' ar = cm ar ∧ ¬ zrank t = 6) ∧ ¬ zrank t = 5)) {M : Nat → Nat → Int32} {b : Nat} {K u w : List Int32} {cm : Nat → Bool} (hw : ytop 3 w) (hk : k ≤ 6) (hbn : b ≤ n) (h : yMt M T n b) (h0 : M 61 65 = 0) (hMK : yMK M x K) (hK : 2 * (K.length + (k + ypn w)) ≤ 3 * b) (hcm : cm ar = false) (ht : ¬ (ylx T n b).1 = 306) : ∃ M', zgo xs L (d + 3 + 5) 171 2 [(0, .ref 61), (1, .int (Int32.ofNat x)), (2, .int (Int32.ofNat ar)), (3, .int (Int32.ofNat k))] (zmk M Jm Xm) = some (.inr none, zmk M' Jm Xm) ∧ yfM x K.length M M' ∧ ((∃ k9 p, (¬ k9 = 0 ∧ ¬ k9 = 9) ∧ M' 61 65 = k9 ∧ M' 61 66 = Int32.ofNat p ∧ ∀ Q, yBad V k9 p Q → yRun xs L d0 Jc Xc V n b c hd lt nr 3 u (List.replicate k 306 ++ w) ar 1 k cm Q) ∨ (M' 61 65 = 0 ∧ ∃ b' out u' w' mn' ns' cm', b < b' ∧ b' ≤ n ∧ yMt M' T n b' ∧ yMK M' x (K ++ zmcs out) ∧ zrp (lim + 1) 0 out 1 ∧ 2 * ((K ++ zmcs out).length + ypn w) ≤ 3 * b' + 1 ∧ yEq 3 w' u' w (u ++ out) ∧ (∀ i, i < ar → cm' i = cm i) ∧ ((¬ zrank (ylx T n b').1 = 6 ∧ ¬ zrank (ylx T n b').1 = 5) ∧ (zrank (ylx T n b').1 = 4 → cm' ar = true)) ∧ ∀ Q, yRun xs L d0 Jc Xc V n b' c hd lt nr 4 u' w' ar mn' ns' cm' Q → yRun xs L d0 Jc Xc V n b c hd lt nr 3 u (List.replicate k 306 ++ w) ar 1 k cm Q)) := by
  subst hV
  have hy := ypn_nots k w
  obtain ⟨M2, a1, a2, a3⟩ := hS M b K u (List.replicate k 306 ++ w) 1 k cm hbn h h0 hMK (by rw [hy]; exact hK) ⟨ytop_nots k hw (by decide), fun z => ht z.1⟩
  have tk := is_tok xs L (d + 3 + 5) (by omega) Jm Xm 6 (by decide) hn hbn hb h h0
  rw [show ystr 6 = 13 from rfl, show (300 : Int32) + Int32.ofNat 6 = 306 by decide, if_neg ht] at tk
  have S := zgo_q xs L (d + 3 + 5) 171 2 [(0, .ref 61), (1, .int (Int32.ofNat x)), (2, .int (Int32.ofNat ar)), (3, .int (Int32.ofNat k))] (zmk M Jm Xm)
  rw [S171_2 xs L (d + 3), tk, zci_i, T171_2_3_697 xs L (d + 3), if_pos (show decide ((0 : Int32) = 0) = true by decide), a1, zcw_v, T171_3_4_692 xs L (d + 3)] at S
  rcases a3 with ⟨k9, p, k0, e1, e2, e3⟩ | ⟨z0, b2, out, u2, w2, mn2, ns2, cm2, c1, c2, c3, c4, c5, c6, c7, c8, c9, c10⟩
  · have kn : ¬ M2 61 65 = 0 := by
      rw [e1]
      exact k0.1
    rw [if_neg (fun z => (of_decide_eq_true z) (sgn_no kn)), if_pos (decide_eq_true (sgn_no kn)), zth_go] at S
    exact ⟨M2, S.trans (nots_no xs L (d + 2) M2 Jm Xm _ _ k hk kn k 0 (Nat.zero_add _)), a2, Or.inl ⟨k9, p, k0, e1, e2, e3⟩⟩
  · rw [hy] at c6
    have hcm2 : cm2 ar = false := c9.1.1.trans hcm
    by_cases h4 : zrank (ylx (V 36) n b2).1 = 4
    · obtain ⟨o1, o2, o3, o4⟩ := zrank_ops (t := (ylx (V 36) n b2).1) (by rw [h4]; decide) (by rw [h4]; decide)
      have hx6 : ¬ (ylx (V 36) n b2).1 = 256 := fun z => by
        rw [z] at h4
        exact absurd h4 (by decide)
      have rg := ylx_rg (V 36) n b2 c2
      have hlt := rg.2.2.2.2 hx6
      obtain ⟨M3, s1, s2, s3⟩ := step_m xs L (d + 3 + 5) (by omega) Jm Xm hn c2 hb c3
      have hu : yun (zrank (ylx (V 36) n b2).1) w2 u2 = (u ++ out, List.replicate k 306 ++ w) := yEq_top c7 (by rw [h4]; decide) (by rw [h4]; exact ytop_nots k hw (by decide))
      have ytl : ypn ((ylx (V 36) n b2).1 :: (List.replicate k 306 ++ w)) = 1 + (k + ypn w) := by
        show (if (ylx (V 36) n b2).1 = 40 then 0 else 1) + ypn (List.replicate k 306 ++ w) = _
        rw [if_neg o3, hy]
      obtain ⟨M4, b1', b2', b3'⟩ := hS M3 (ylx (V 36) n b2).2.2.2 (K ++ zmcs out) (u ++ out) ((ylx (V 36) n b2).1 :: (List.replicate k 306 ++ w)) (yjm 4) (yjn 4 ns2) (yjc 4 ar cm2) rg.2.1 s3 (by rw [s2.2 65 (by decide), z0]) (yMK_fr c4 (s2.2 68 (by decide)) (s2.1 101 (by decide))) (by
        rw [ytl]
        omega) ⟨(show zrank (ylx (V 36) n b2).1 < 5 by rw [h4]; decide), fun z => z.2 (by decide)⟩
      have goj : ∀ Q, yRun xs L d0 Jc Xc V n (ylx (V 36) n b2).2.2.2 c hd lt nr 3 (u ++ out) ((ylx (V 36) n b2).1 :: (List.replicate k 306 ++ w)) ar (yjm 4) (yjn 4 ns2) (yjc 4 ar cm2) Q → yRun xs L d0 Jc Xc V n b c hd lt nr 3 u (List.replicate k 306 ++ w) ar 1 k cm Q := fun Q hQ => c10 Q (j_op xs L d0 Jc Xc hn (by omega) (by rw [h4]; decide) o4 (fun _ => hcm2) (by
        rw [hu, h4]
        exact hQ))
      have hle : K.length ≤ (K ++ zmcs out).length := by
        rw [List.length_append]
        omega
      have f4 : yfM x K.length M M4 := yfM_tr (yfM_tr a2 (yfM_step (k := K.length) s2) (Nat.le_refl _)) b2' hle
      have fin : ∀ M5, zev xs L (d + 3 + 5) 176 [.ref 61, .int (Int32.ofNat x), .int (zmo (-(ylx (V 36) n b2).1))] (zmk M4 Jm Xm) = some (.inr none, zmk M5 Jm Xm) → zgo xs L (d + 3 + 5) 171 2 [(0, .ref 61), (1, .int (Int32.ofNat x)), (2, .int (Int32.ofNat ar)), (3, .int (Int32.ofNat k))] (zmk M Jm Xm) = zgo xs L (d + 3 + 5) 171 10 [(0, .ref 61), (1, .int (Int32.ofNat x)), (2, .int (Int32.ofNat ar)), (3, .int (Int32.ofNat k)), (4, .int 0)] (zmk M5 Jm Xm) := by
        intro M5 g
        rcases zrank_4 h4 with e | e
        · have z1 := sgn_t (by decide) c3 z0 e
          have ec : zmo (-(ylx (V 36) n b2).1) = 5 := by rw [e]; decide
          rw [ec] at g
          rw [if_pos (decide_eq_true z1), if_neg (fun z => z1 (of_decide_eq_true z)), s1, zcw_v, T171_8_3_679 xs L (d + 3), b1', zcw_v, T171_8_7_675 xs L (d + 3), g, zcw_v, T171_8_11_671 xs L (d + 3), zth_go] at S
          exact S
        · have z1 := sgn_t (by decide) c3 z0 e
          have z2 : zbi (M2 61 65 = 0 ∧ M2 61 60 = 3 ∧ M2 61 61 = 60) = 0 := sgn_f (by decide) c3 z0 (by rw [e]; decide)
          have ec : zmo (-(ylx (V 36) n b2).1) = 6 := by rw [e]; decide
          rw [ec] at g
          rw [if_neg (fun z => (of_decide_eq_true z) z2), if_neg (fun z => z1 (of_decide_eq_true z)), if_pos (decide_eq_true z2), s1, zcw_v, T171_8_3_674 xs L (d + 3), b1', zcw_v, T171_8_7_670 xs L (d + 3), g, zcw_v, T171_8_11_666 xs L (d + 3), zth_go] at S
          exact S
      rcases b3' with ⟨k9, p, k0, e1, e2, e3⟩ | ⟨y0, b5, out5, u5, w5, mn5, ns5, cm5, d1, d2, d3, d4, d5, d6, d7, d8, d9, d10⟩
      · have kn : ¬ M4 61 65 = 0 := by
          rw [e1]
          exact k0.1
        exact ⟨M4, (fin M4 (emit_no xs L (d + 3 + 5) (by omega) M4 Jm Xm _ _ kn)).trans (nots_no xs L (d + 2) M4 Jm Xm _ _ k hk kn k 0 (Nat.zero_add _)), f4, Or.inl ⟨k9, p, k0, e1, e2, fun Q hQ => goj Q (e3 Q hQ)⟩⟩
      · rw [ytl] at d6
        obtain ⟨M5, m1, m2, m3, m4, m5⟩ := emit_m xs L (d + 3 + 5) (by omega) M4 Jm Xm x ((K ++ zmcs out) ++ zmcs out5) (zmo (-(ylx (V 36) n b2).1)) hx (by omega) y0 d4
        have ez : (K ++ zmcs out) ++ zmcs out5 ++ [zmo (-(ylx (V 36) n b2).1)] = K ++ zmcs (out ++ out5 ++ [-(ylx (V 36) n b2).1]) := by
          rw [zmcs_app, zmcs_app, o2, List.append_assoc, List.append_assoc, List.append_assoc]
        have el : (K ++ zmcs (out ++ out5 ++ [-(ylx (V 36) n b2).1])).length = ((K ++ zmcs out) ++ zmcs out5).length + 1 := by
          rw [← ez, List.length_append]
          rfl
        have hle2 : K.length ≤ ((K ++ zmcs out) ++ zmcs out5).length := by
          rw [List.length_append]
          omega
        have h05 : M5 61 65 = 0 := by rw [m4 65 (by decide), y0]
        have hM5 : yMt M5 (V 36) n b5 := yMt_fr d3 (m3 104 (by decide) (by decide)) (fun k hk => by
          simp only [List.mem_cons, List.not_mem_nil, or_false] at hk
          exact m4 k (by omega))
        have f5 : yfM x K.length M M5 := yfM_tr f4 (k2 := ((K ++ zmcs out) ++ zmcs out5).length) ⟨m3, fun j hj => m4 j (fun z => hj (by
          rw [z]
          decide)), fun j hj => m5 j (by omega)⟩ hle2
        have q5 : yEq 3 w5 u5 (List.replicate k 306 ++ w) (u ++ (out ++ out5 ++ [-(ylx (V 36) n b2).1])) := by
          have e : u ++ (out ++ out5 ++ [-(ylx (V 36) n b2).1]) = (u ++ out) ++ out5 ++ [-(ylx (V 36) n b2).1] := by
            rw [List.append_assoc, List.append_assoc, List.append_assoc]
          rw [e]
          exact yEq_tr (yEq_le d7 (by decide)) (yEq_op (by rw [h4]; decide))
        obtain ⟨M6, i1, i2, i3, i4, i5, i6, i7, i8⟩ := not_tail xs L (d + 2) Jm Xm (Int32.ofNat ar) (lim := lim + 1) hn hx hk d2 hM5 h05 (by
          rw [← ez]
          exact m2) (zrp_two o1 c5 d5) (by
          rw [el]
          omega) q5
        exact ⟨M6, (fin M5 m1).trans i1, yfM_tr f5 i2 (Nat.le_refl _), Or.inr ⟨i3, b5, _, u5, w5, mn5, ns5, cm5, by omega, d2, i4, i5, i6, i7, i8, fun i hi => (d8 i hi).trans ((yjc_ne (by omega)).trans (c8 i hi)), ⟨⟨d9.1.2, d9.2⟩, fun _ => d9.1.1.trans (show (if ar = ar then true else cm2 ar) = true from if_pos rfl)⟩, fun Q hQ => goj Q (d10 Q hQ)⟩⟩
    · have n1 : ¬ (ylx (V 36) n b2).1 = 60 := fun z => h4 (by rw [z]; decide)
      have n2 : ¬ (ylx (V 36) n b2).1 = 61 := fun z => h4 (by rw [z]; decide)
      rw [if_neg (fun z => (of_decide_eq_true z) (sgn_f (by decide) c3 z0 n1)), if_pos (decide_eq_true (sgn_f (by decide) c3 z0 n2)), zth_go] at S
      obtain ⟨M6, i1, i2, i3, i4, i5, i6, i7, i8⟩ := not_tail xs L (d + 2) Jm Xm (Int32.ofNat ar) (lim := lim + 1) hn hx hk c2 c3 z0 c4 (zrp_mono (by omega) c5) c6 (yEq_le c7 (by decide))
      exact ⟨M6, S.trans i1, yfM_tr a2 i2 (Nat.le_refl _), Or.inr ⟨i3, b2, _, u2, w2, mn2, ns2, cm2, c1, c2, i4, i5, i6, i7, i8, c8, ⟨⟨c9.1.2, c9.2⟩, fun z => absurd z h4⟩, c10⟩⟩
theorem not_loop (xs : Nat → Int32) (L d d0 : Nat) (Jc Jm : Nat → Nat → Int64) (Xc Xm : XH) {V : Nat → Nat → Int32} {T : Nat → Int32} {n c : Nat} {hd lt nr : Int32} {x ar : Nat} {lim : Nat} (hn : n ≤ 400) (hV : V 36 = T) (hb : ∀ i, i < n → 0 ≤ (T i).toInt ∧ (T i).toInt ≤ 255) (hx : x < 37) (har : ar < 6) (hS : ySp xs L (d + 3 + 5) 172 d0 Jc Jm Xc Xm V T n c hd lt nr x ar 5 lim (yPreP 5) (fun cm t cm' => (cm' ar = cm ar ∧ ¬ zrank t = 6) ∧ ¬ zrank t = 5)) {K u w : List Int32} {cm : Nat → Bool} (hw : ytop 3 w) (hcm : cm ar = false) : ∀ (q k : Nat) (M : Nat → Nat → Int32) (b : Nat), k + q = 6 → b ≤ n → yMt M T n b → M 61 65 = 0 → yMK M x K → 2 * (K.length + (k + ypn w)) ≤ 3 * b → ∃ M', zgo xs L (d + 3 + 5) 171 2 [(0, .ref 61), (1, .int (Int32.ofNat x)), (2, .int (Int32.ofNat ar)), (3, .int (Int32.ofNat k))] (zmk M Jm Xm) = some (.inr none, zmk M' Jm Xm) ∧ yfM x K.length M M' ∧ ((∃ k9 p, (¬ k9 = 0 ∧ ¬ k9 = 9) ∧ M' 61 65 = k9 ∧ M' 61 66 = Int32.ofNat p ∧ ∀ Q, yBad V k9 p Q → yRun xs L d0 Jc Xc V n b c hd lt nr 3 u (List.replicate k 306 ++ w) ar 1 k cm Q) ∨ (M' 61 65 = 0 ∧ ∃ b' out u' w' mn' ns' cm', b < b' ∧ b' ≤ n ∧ yMt M' T n b' ∧ yMK M' x (K ++ zmcs out) ∧ zrp (lim + 1) 0 out 1 ∧ 2 * ((K ++ zmcs out).length + ypn w) ≤ 3 * b' + 1 ∧ yEq 3 w' u' w (u ++ out) ∧ (∀ i, i < ar → cm' i = cm i) ∧ ((¬ zrank (ylx T n b').1 = 6 ∧ ¬ zrank (ylx T n b').1 = 5) ∧ (zrank (ylx T n b').1 = 4 → cm' ar = true)) ∧ ∀ Q, yRun xs L d0 Jc Xc V n b' c hd lt nr 4 u' w' ar mn' ns' cm' Q → yRun xs L d0 Jc Xc V n b c hd lt nr 3 u (List.replicate k 306 ++ w) ar 1 k cm Q))
  | 0, k, M, b, hk, hbn, h, h0, hMK, hK => by
    by_cases ht : (ylx T n b).1 = 306
    · have tk := is_tok xs L (d + 3 + 5) (by omega) Jm Xm 6 (by decide) hn hbn hb h h0
      rw [show ystr 6 = 13 from rfl, show (300 : Int32) + Int32.ofNat 6 = 306 by decide, if_pos ht] at tk
      have hk : k = 6 := hk
      have S := zgo_q xs L (d + 3 + 5) 171 2 [(0, .ref 61), (1, .int (Int32.ofNat x)), (2, .int (Int32.ofNat ar)), (3, .int (Int32.ofNat k))] (zmk M Jm Xm)
      rw [S171_2 xs L (d + 3), tk, zci_i, T171_2_3_697 xs L (d + 3), if_neg (show ¬ decide ((1 : Int32) = 0) = true by decide), if_neg (show ¬ decide (¬ Int32.ofNat k = (6 : Int32)) = true from fun z => (of_decide_eq_true z) (by rw [hk]; rfl)), wrong_at xs L (d + 3 + 5) (by omega) M Jm Xm 2 h0, zcw_v, T171_2_10_690 xs L (d + 3)] at S
      obtain ⟨w1, w2, w3⟩ := ywr9_ok (x := x) (k9 := K.length) 2 h
      subst hV
      exact ⟨_, S, w1, Or.inl ⟨2, _, by decide, w2, w3, fun Q hQ => p_not xs L d0 Jc Xc hn har ht (by decide) (by omega) ⟨fun _ => hQ, fun z => absurd z (by omega)⟩⟩⟩
    · exact not_body xs L d d0 Jc Jm Xc Xm hn hV hb hx har hS hw (by omega) hbn h h0 hMK hK hcm ht
  | q + 1, k, M, b, hk, hbn, h, h0, hMK, hK => by
    by_cases ht : (ylx T n b).1 = 306
    · have tk := is_tok xs L (d + 3 + 5) (by omega) Jm Xm 6 (by decide) hn hbn hb h h0
      rw [show ystr 6 = 13 from rfl, show (300 : Int32) + Int32.ofNat 6 = 306 by decide, if_pos ht] at tk
      have rg := ylx_rg T n b hbn
      have hlt := rg.2.2.2.2 (by rw [ht]; decide)
      obtain ⟨M1, s1, s2, s3⟩ := step_m xs L (d + 3 + 5) (by omega) Jm Xm hn hbn hb h
      have S := zgo_q xs L (d + 3 + 5) 171 2 [(0, .ref 61), (1, .int (Int32.ofNat x)), (2, .int (Int32.ofNat ar)), (3, .int (Int32.ofNat k))] (zmk M Jm Xm)
      rw [S171_2 xs L (d + 3), tk, zci_i, T171_2_3_697 xs L (d + 3), if_neg (show ¬ decide ((1 : Int32) = 0) = true by decide), if_pos (show decide (¬ Int32.ofNat k = (6 : Int32)) = true from decide_eq_true (fun z => by
        have := i32_nat_inj (b := 6) (by omega) (by omega) z
        omega)), s1, zcw_v, T171_4_3_690 xs L (d + 3), zth_go, nat_succ] at S
      obtain ⟨M2, a1, a2, a3⟩ := not_loop xs L d d0 Jc Jm Xc Xm hn hV hb hx har hS (K := K) (u := u) hw hcm q (k + 1) M1 (ylx T n b).2.2.2 (by omega) rg.2.1 s3 (by rw [s2.2 65 (by decide), h0]) (yMK_fr hMK (s2.2 68 (by decide)) (s2.1 101 (by decide))) (by omega)
      subst hV
      refine ⟨M2, S.trans a1, yfM_tr (yfM_step s2) a2 (Nat.le_refl _), ?_⟩
      have gop : ∀ Q, yRun xs L d0 Jc Xc V n (ylx (V 36) n b).2.2.2 c hd lt nr 3 u (List.replicate (k + 1) 306 ++ w) ar 1 (k + 1) cm Q → yRun xs L d0 Jc Xc V n b c hd lt nr 3 u (List.replicate k 306 ++ w) ar 1 k cm Q := fun Q hQ => p_not xs L d0 Jc Xc hn har ht (by decide) (by omega) ⟨fun z => absurd z (by omega), fun _ => hQ⟩
      rcases a3 with ⟨k9, p, k0, e1, e2, e3⟩ | ⟨y0, b5, out5, u5, w5, mn5, ns5, cm5, d1, d2, d3, d4, d5, d6, d7, d8, d9, d10⟩
      · exact Or.inl ⟨k9, p, k0, e1, e2, fun Q hQ => gop Q (e3 Q hQ)⟩
      · exact Or.inr ⟨y0, b5, out5, u5, w5, mn5, ns5, cm5, by omega, d2, d3, d4, d5, d6, d7, d8, d9, fun Q hQ => gop Q (d10 Q hQ)⟩
    · exact not_body xs L d d0 Jc Jm Xc Xm hn hV hb hx har hS hw (by omega) hbn h h0 hMK hK hcm ht
theorem sp_not (xs : Nat → Int32) (L d d0 : Nat) (Jc Jm : Nat → Nat → Int64) (Xc Xm : XH) {V : Nat → Nat → Int32} {T : Nat → Int32} {n c : Nat} {hd lt nr : Int32} {x ar : Nat} {lim : Nat} (hn : n ≤ 400) (hV : V 36 = T) (hb : ∀ i, i < n → 0 ≤ (T i).toInt ∧ (T i).toInt ≤ 255) (hx : x < 37) (har : ar < 6) (hS : ySp xs L (d + 3 + 5) 172 d0 Jc Jm Xc Xm V T n c hd lt nr x ar 5 lim (yPreP 5) (fun cm t cm' => (cm' ar = cm ar ∧ ¬ zrank t = 6) ∧ ¬ zrank t = 5)) : ySp xs L (d + 3 + 6) 171 d0 Jc Jm Xc Xm V T n c hd lt nr x ar 3 (lim + 1) (yPreE 3 ar) (fun _ t cm' => (¬ zrank t = 6 ∧ ¬ zrank t = 5) ∧ (zrank t = 4 → cm' ar = true)) := by
  intro M b K u w mn ns cm hbn h h0 hMK hK hp
  obtain ⟨p1, p2, p3, p4⟩ := hp
  subst p2 p3
  obtain ⟨M', a1, a2, a3⟩ := not_loop xs L d d0 Jc Jm Xc Xm hn hV hb hx har hS (K := K) (u := u) p1 p4 6 0 M b rfl hbn h h0 hMK (by omega)
  refine ⟨M', ?_, a2, a3⟩
  refine (zcS (S171_0 xs L (d + 3) M Jm Xm _ _)).trans ?_
  rw [zth_go]
  exact a1
