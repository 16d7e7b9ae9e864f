/-! THE PURE PART: a clause with an expression, both sides. -/
def yCl (xs : Nat → Int32) (L D d0 : Nat) (Jc Jm : Nat → Nat → Int64) (Xc Xm : XH) (V : Nat → Nat → Int32) (T : Nat → Int32) (n x : Nat) (M : Nat → Nat → Int32) (b : Nat) (C : List (Bool × List Int32)) (c : Nat) (hd lt nr : Int32) (w : List Int32) (dd : Nat) (mn : Int32) (ns : Nat) (cm : Nat → Bool) : Prop := ∃ M', zev xs L D 165 [.ref 61, .int (Int32.ofNat x), .int (Int32.ofNat c)] (zmk M Jm Xm) = some (.inr none, zmk M' Jm Xm) ∧ yfX x M M' ∧ ((∃ k p, (¬ k = 0 ∧ ¬ k = 9) ∧ M' 61 65 = k ∧ M' 61 66 = Int32.ofNat p ∧ ∀ Q, yBad V k p Q → yRun0 xs L d0 Jc Xc V n b c hd lt nr 0 (yfl C) w dd mn ns cm Q) ∨ (∃ b' C' hd' lt' nr' w' dd' mn' ns' cm', b < b' ∧ b' ≤ n ∧ yRS M' T n b' x C' lt' nr' (c + 1) ∧ ∀ Q, yRun0 xs L d0 Jc Xc V n b' (c + 1) hd' lt' nr' 0 (yfl C') w' dd' mn' ns' cm' Q → yRun0 xs L d0 Jc Xc V n b c hd lt nr 0 (yfl C) w dd mn ns cm Q))
theorem clause_exp (xs : Nat → Int32) (L d d0 : Nat) (Jc Jm : Nat → Nat → Int64) (Xc Xm : XH) {V : Nat → Nat → Int32} {T : Nat → Int32} {n x : Nat} {M : Nat → Nat → Int32} {b : Nat} {C : List (Bool × List Int32)} {c : Nat} {lt nr : Int32} (hd : Int32) (w : List Int32) (dd : Nat) (mn : Int32) (ns : Nat) (cm : Nat → Bool) (hd5 : 5 ≤ d) (hn : n ≤ 400) (hV : V 36 = T) (hb : ∀ i, i < n → 0 ≤ (T i).toInt ∧ (T i).toInt ≤ 255) (hx : x < 37) (hbn : b ≤ n) (h : yRS M T n b x C lt nr c) (hc : c < 16) (hE : ∀ c hd lt nr, ySp xs L (d + 5) 168 d0 Jc Jm Xc Xm V T n c hd lt nr x 0 1 31 (yPreE 1 0) (fun _ => yEnd 0)) (j : Nat) (hj : j < 2) (et : (ylx T n b).1 = (300 : Int32) + Int32.ofNat j) : yCl xs L (d + 6) d0 Jc Jm Xc Xm V T n x M b C c hd lt nr w dd mn ns cm := by
  subst hV
  obtain ⟨hM, h0, hMK, h95, h96, h97, hz, hr, hCc, hc16, hK⟩ := h
  have ej : (j = 0 ∧ (ylx (V 36) n b).1 = 300) ∨ (j = 1 ∧ (ylx (V 36) n b).1 = 301) := by
    have : j = 0 ∨ j = 1 := by omega
    rcases this with e | e
    · exact Or.inl ⟨e, by rw [et, e]; decide⟩
    · exact Or.inr ⟨e, by rw [et, e]; decide⟩
  have e6 : ¬ (ylx (V 36) n b).1 = 256 := fun z => by
    rcases ej with ⟨_, e⟩ | ⟨_, e⟩ <;> rw [e] at z <;> exact absurd z (by decide)
  have rg := ylx_rg (V 36) n b hbn
  have hlt := rg.2.2.2.2 e6
  obtain ⟨M1, s1, s2, s3⟩ := step_m xs L (d + 5) (by omega) Jm Xm hn hbn hb hM
  obtain ⟨f, a5, a4, a3, S, hk⟩ := head_m xs L d (by omega) Jm Xm (Int32.ofNat x) c j (by omega) hn hbn hb hM h0 hc et s1
  obtain ⟨bb, hbb⟩ : ∃ bb : Bool, bb = decide (j = 0) := ⟨_, rfl⟩
  obtain ⟨v, hv⟩ : ∃ v : Int32, v = if bb = true then 0 else 1 := ⟨_, rfl⟩
  have hk' : (¬ a3 = 0 ∧ v = 0) ∨ (a3 = 0 ∧ ¬ a4 = 0 ∧ v = 1) := by
    rcases hk with ⟨k1, k2⟩ | ⟨k1, k2, k3⟩ | ⟨k1, _⟩ | ⟨k1, _⟩
    · exact Or.inl ⟨k2, by rw [hv, hbb, k1]; rfl⟩
    · exact Or.inr ⟨k2, k3, by rw [hv, hbb, k1]; rfl⟩
    · omega
    · omega
  have g95 : M1 95 x = Int32.ofNat C.length := by rw [s2.1 95 (by decide), h95]
  obtain ⟨g, hU⟩ := U3_exp xs L d f M1 Jm Xm a5 a4 a3 (Int32.ofNat c) v g95 (by omega) hx hk'
  rw [hU] at S
  obtain ⟨M2, hM2⟩ : ∃ M2, M2 = zup (zup (zup M1 95 x (Int32.ofNat (C.length + 1))) 98 (16 * x + C.length) v) 99 (16 * x + C.length) (M1 61 68) := ⟨_, rfl⟩
  rw [← hM2] at S
  have q61 : M2 61 = M1 61 := by rw [hM2]; rfl
  have q104 : M2 104 = M1 104 := by rw [hM2]; rfl
  have q101 : M2 101 = M1 101 := by rw [hM2]; rfl
  have q96 : M2 96 = M1 96 := by rw [hM2]; rfl
  have q97 : M2 97 = M1 97 := by rw [hM2]; rfl
  have q100 : M2 100 = M1 100 := by rw [hM2]; rfl
  have q95 : M2 95 x = Int32.ofNat (C.length + 1) := by rw [hM2]; exact (zup_at : zup M1 95 x (Int32.ofNat (C.length + 1)) 95 x = Int32.ofNat (C.length + 1))
  have q98 : M2 98 (16 * x + C.length) = v := by rw [hM2]; exact (zup_at : zup (zup M1 95 x (Int32.ofNat (C.length + 1))) 98 (16 * x + C.length) v 98 (16 * x + C.length) = v)
  have q99 : M2 99 (16 * x + C.length) = M1 61 68 := by rw [hM2]; exact zup_at
  have q98n : ∀ k, k < 16 * x + C.length → M2 98 k = M1 98 k := fun k hk => by rw [hM2]; exact (zup_k (by omega) : zup (zup M1 95 x (Int32.ofNat (C.length + 1))) 98 (16 * x + C.length) v 98 k = zup M1 95 x (Int32.ofNat (C.length + 1)) 98 k)
  have q99n : ∀ k, k < 16 * x + C.length → M2 99 k = M1 99 k := fun k hk => by rw [hM2]; exact zup_k (by omega)
  have fx2 : yfX x M M2 := by
    rw [hM2]
    exact yfX_up (yfX_up (yfX_up (yfX_M (yfM_step (k := 0) s2)) (Or.inl ⟨by decide, rfl⟩)) (Or.inr ⟨by decide, by omega, by omega⟩)) (Or.inr ⟨by decide, by omega, by omega⟩)
  have hM2t : yMt M2 (V 36) n (ylx (V 36) n b).2.2.2 := yMt_fr s3 q104 (fun k _ => by rw [q61])
  have h02 : M2 61 65 = 0 := by rw [q61, s2.2 65 (by decide), h0]
  have hMK2 : yMK M2 x (ycs C) := yMK_fr hMK (by rw [q61, s2.2 68 (by decide)]) (by rw [q101, s2.1 101 (by decide)])
  obtain ⟨M3, a1, a2, a3'⟩ := hE (c + 1) (ylx (V 36) n b).1 lt nr M2 (ylx (V 36) n b).2.2.2 (ycs C) (yfl C) [] 1 0 (fun i => if i = 0 then false else cm i) rg.2.1 hM2t h02 hMK2 (by
    show 2 * ((ycs C).length + 0) ≤ _
    omega) ⟨trivial, rfl, rfl, if_pos rfl⟩
  rw [show (Int32.ofNat 0 : Int32) = 0 from rfl] at a1
  rw [a1, zcw_v, U7_exp xs L d g M3 Jm Xm a5 a4 a3 (Int32.ofNat c) (by omega) hx] at S
  obtain ⟨M4, hM4⟩ : ∃ M4, M4 = zup M3 100 (16 * x + C.length) (M3 61 68) := ⟨_, rfl⟩
  rw [← hM4] at S
  have r61 : M4 61 = M3 61 := by rw [hM4]; rfl
  have r104 : M4 104 = M3 104 := by rw [hM4]; rfl
  have r101 : M4 101 = M3 101 := by rw [hM4]; rfl
  have r95 : M4 95 = M3 95 := by rw [hM4]; rfl
  have r96 : M4 96 = M3 96 := by rw [hM4]; rfl
  have r97 : M4 97 = M3 97 := by rw [hM4]; rfl
  have r98 : M4 98 = M3 98 := by rw [hM4]; rfl
  have r99 : M4 99 = M3 99 := by rw [hM4]; rfl
  have r100 : M4 100 (16 * x + C.length) = M3 61 68 := by rw [hM4]; exact zup_at
  have r100n : ∀ k, k < 16 * x + C.length → M4 100 k = M3 100 k := fun k hk => by rw [hM4]; exact zup_k (by omega)
  have fx4 : yfX x M M4 := by
    rw [hM4]
    exact yfX_up (yfX_tr fx2 (yfX_M a2)) (Or.inr ⟨by decide, by omega, by omega⟩)
  have goh : ∀ Q, yRun xs L d0 Jc Xc V n (ylx (V 36) n b).2.2.2 (c + 1) (ylx (V 36) n b).1 lt nr 3 (yfl C) [] 0 1 0 (fun i => if i = 0 then false else cm i) Q → yRun0 xs L d0 Jc Xc V n b c hd lt nr 0 (yfl C) w dd mn ns cm Q := fun Q hQ => h_exp xs L d0 Jc Xc hn hc (ylx (V 36) n b).1 rfl (by
    rcases ej with ⟨_, e⟩ | ⟨_, e⟩
    · exact Or.inl e
    · exact Or.inr e) hQ
  rcases a3' with ⟨k, p, k0, e1, e2, e3⟩ | ⟨z0, b2, out, u2, w2, mn2, ns2, cm2, c1, c2, c3, c4, c5, c6, c7, c8, c9, c10⟩
  · have kn : ¬ M4 61 65 = 0 := by
      rw [r61, e1]
      exact k0.1
    rw [need_no9 xs L (d + 5) (by omega) M4 Jm Xm 59 kn, zcw_v, U165_9 xs L d (g + 10)] at S
    exact ⟨M4, S, fx4, Or.inl ⟨k, p, k0, by rw [r61, e1], by rw [r61, e2], fun Q hQ => goh Q (e3 Q hQ)⟩⟩
  · have hM4t : yMt M4 (V 36) n b2 := yMt_fr c3 r104 (fun k _ => by rw [r61])
    have h04 : M4 61 65 = 0 := by rw [r61, z0]
    have c6' : 2 * ((ycs C ++ zmcs out).length + 0) ≤ 3 * b2 + 1 := c6
    have hll : (ycs C ++ zmcs out).length = (ycs C).length + (zmcs out).length := List.length_append
    obtain ⟨M5, g1, g2⟩ := need_m xs L (d + 5) (by omega) Jm Xm 59 (by decide) hn c2 hb hM4t h04
    rw [g1, zcw_v, U165_9 xs L d (g + 10)] at S
    rcases g2 with ⟨t1, t2, t3⟩ | ⟨t1, t2⟩
    · have rg2 := ylx_rg (V 36) n b2 c2
      have hlt2 := rg2.2.2.2.2 (by rw [t1]; decide)
      have hu : yun 1 w2 u2 = (yfl C ++ out, []) := yEq_top c7 (Int.le_refl _) trivial
      have o95 : M5 95 = M2 95 := by rw [t2.1 95 (by decide), r95, a2.1 95 (by decide) (by decide)]
      have o96 : M5 96 = M 96 := by rw [t2.1 96 (by decide), r96, a2.1 96 (by decide) (by decide), q96, s2.1 96 (by decide)]
      have o97 : M5 97 = M 97 := by rw [t2.1 97 (by decide), r97, a2.1 97 (by decide) (by decide), q97, s2.1 97 (by decide)]
      have o98 : M5 98 = M2 98 := by rw [t2.1 98 (by decide), r98, a2.1 98 (by decide) (by decide)]
      have o99 : M5 99 = M2 99 := by rw [t2.1 99 (by decide), r99, a2.1 99 (by decide) (by decide)]
      have o100 : M5 100 = M4 100 := t2.1 100 (by decide)
      have o101 : M5 101 = M3 101 := by rw [t2.1 101 (by decide), r101]
      have l68 : M1 61 68 = Int32.ofNat (ycs C).length := by rw [s2.2 68 (by decide)]; exact hMK.1
      have zc : zMc M5 x 0 0 (C ++ [(bb, out)]) := by
        refine zMc_app C 0 0 (zMc_fr C 0 0 hz (fun a k ha hk => ?_) (fun k hk => ?_)) ?_ ?_ ?_ ?_ (by omega)
        · rw [Nat.zero_add] at hk
          simp only [List.mem_cons, List.not_mem_nil, or_false] at ha
          rcases ha with e | e | e
          · rw [e, o98, q98n k hk, s2.1 98 (by decide)]
          · rw [e, o99, q99n k hk, s2.1 99 (by decide)]
          · rw [e, o100, r100n k hk, a2.1 100 (by decide) (by decide), q100, s2.1 100 (by decide)]
        · rw [o101, a2.2.2 k (by omega), q101, s2.1 101 (by decide)]
        · rw [Nat.zero_add, o98, q98, hv]
        · rw [Nat.zero_add, Nat.zero_add, o99, q99, l68]
        · rw [Nat.zero_add, Nat.zero_add, o100, r100, ← hll]
          exact c4.1
        · rw [Nat.zero_add, o101]
          exact (zrow_app.mp c4.2).2
      have ehd : -(ylx (V 36) n b).1 = if bb = true then -300 else -301 := by
        rcases ej with ⟨e, e9⟩ | ⟨e, e9⟩
        · rw [e9, hbb, e]
          rfl
        · rw [e9, hbb, e]
          rfl
      refine ⟨M5, S, yfX_tr fx4 (yfX_M (yfM_step (k := 0) t2)), Or.inr ⟨(ylx (V 36) n b2).2.2.2, C ++ [(bb, out)], (ylx (V 36) n b).1, lt, nr, [], 0, mn2, ns2, cm2, by omega, rg2.2.1, ⟨t3, by rw [t2.2 65 (by decide), h04], ?_, ?_, by rw [o96, h96], by rw [o97, h97], zc, fun q hq => ?_, ?_, by omega, ?_⟩, fun Q hQ => ?_⟩⟩
      · rw [ycs_app]
        exact yMK_fr c4 (by rw [t2.2 68 (by decide), r61]) o101
      · rw [o95, q95, List.length_append]
        rfl
      · rcases List.mem_append.mp hq with hq | hq
        · exact hr q hq
        · rw [List.mem_singleton.mp hq]
          exact zrp_mono (by decide) c5
      · rw [List.length_append]
        show C.length + 1 ≤ c + 1
        omega
      · rw [ycs_app]
        omega
      · refine goh Q (c10 Q (j_semi xs L d0 Jc Xc hn t1 ?_))
        rw [hu, ehd, ← yfl_app]
        exact yRun_0 hQ
    · obtain ⟨w1, w2', w3⟩ := ywr9_ok (x := x) (k9 := 0) 1 hM4t
      rw [← t2] at w1 w2' w3
      refine ⟨M5, S, yfX_tr fx4 (yfX_M w1), Or.inl ⟨1, _, by decide, w2', w3, fun Q hQ => goh Q (c10 Q ?_)⟩⟩
      by_cases e6 : (ylx (V 36) n b2).1 = 256
      · exact p_end xs L d0 Jc Xc hn (by decide) e6 hQ
      · exact j_bad xs L d0 Jc Xc hn (by omega) e6 (fun z => t1 z.1) (fun z => by omega) c9 hQ
/-- a clause with a number -/
theorem clause_num (xs : Nat → Int32) (L d d0 : Nat) (Jc Jm : Nat → Nat → Int64) (Xc Xm : XH) {V : Nat → Nat → Int32} {T : Nat → Int32} {n x : Nat} {M : Nat → Nat → Int32} {b : Nat} {C : List (Bool × List Int32)} {c : Nat} {lt nr : Int32} (hd : Int32) (w : List Int32) (dd : Nat) (mn : Int32) (ns : Nat) (cm : Nat → Bool) (hd5 : 5 ≤ d) (hn : n ≤ 400) (hV : V 36 = T) (hb : ∀ i, i < n → 0 ≤ (T i).toInt ∧ (T i).toInt ≤ 255) (hx : x < 37) (hbn : b ≤ n) (h : yRS M T n b x C lt nr c) (hc : c < 16) (j : Nat) (hj : 2 ≤ j) (hj4 : j < 4) (et : (ylx T n b).1 = (300 : Int32) + Int32.ofNat j) : yCl xs L (d + 6) d0 Jc Jm Xc Xm V T n x M b C c hd lt nr w dd mn ns cm := by
  subst hV
  obtain ⟨hM, h0, hMK, h95, h96, h97, hz, hr, hCc, hc16, hK⟩ := h
  have ej : (j = 2 ∧ (ylx (V 36) n b).1 = 302) ∨ (j = 3 ∧ (ylx (V 36) n b).1 = 303) := by
    have : j = 2 ∨ j = 3 := by omega
    rcases this with e | e
    · exact Or.inl ⟨e, by rw [et, e]; decide⟩
    · exact Or.inr ⟨e, by rw [et, e]; decide⟩
  have e6 : ¬ (ylx (V 36) n b).1 = 256 := fun z => by
    rcases ej with ⟨_, e⟩ | ⟨_, e⟩ <;> rw [e] at z <;> exact absurd z (by decide)
  have rg := ylx_rg (V 36) n b hbn
  have hlt := rg.2.2.2.2 e6
  obtain ⟨M1, s1, s2, s3⟩ := step_m xs L (d + 5) (by omega) Jm Xm hn hbn hb hM
  obtain ⟨f, a5, a4, a3, S, hk⟩ := head_m xs L d (by omega) Jm Xm (Int32.ofNat x) c j hj4 hn hbn hb hM h0 hc et s1
  have hk' : a3 = 0 ∧ a4 = 0 ∧ ((j = 2 ∧ ¬ a5 = 0) ∨ (j = 3 ∧ a5 = 0)) := by
    rcases hk with ⟨k1, _⟩ | ⟨k1, _⟩ | ⟨k1, k2, k3, k4⟩ | ⟨k1, k2, k3, k4⟩
    · omega
    · omega
    · exact ⟨k2, k3, Or.inl ⟨k1, k4⟩⟩
    · exact ⟨k2, k3, Or.inr ⟨k1, k4⟩⟩
  obtain ⟨k3, k4, k5⟩ := hk'
  subst k3 k4
  rw [U3_num xs L d f M1 Jm Xm a5 (Int32.ofNat x) (Int32.ofNat c)] at S
  have h01 : M1 61 65 = 0 := by rw [s2.2 65 (by decide), h0]
  have rg1 := ylx_rg (V 36) n (ylx (V 36) n b).2.2.2 rg.2.1
  have goh : ∀ Q, yRun0 xs L d0 Jc Xc V n (ylx (V 36) n b).2.2.2 (c + 1) (ylx (V 36) n b).1 lt nr 1 (yfl C) w dd mn ns cm Q → yRun0 xs L d0 Jc Xc V n b c hd lt nr 0 (yfl C) w dd mn ns cm Q := fun Q hQ => h_num xs L d0 Jc Xc hn hc (ylx (V 36) n b).1 rfl (by
    rcases ej with ⟨_, e⟩ | ⟨_, e⟩
    · exact Or.inl e
    · exact Or.inr e) hQ
  have ex : (Int32.ofNat x).toNatClampNeg = x := i32_clamp (by omega)
  have z1 : zix 0 37 0 (Int32.ofNat x) := zix_nat rfl (by omega) (by omega)
  obtain ⟨A, hA⟩ : ∃ A : Nat, A = if j = 3 then 97 else 96 := ⟨_, rfl⟩
  have U5 : ∀ (I : Nat → Nat → Int32) (v : Int32), zseg (zE xs L (d + 5) 165) (zC 165) (f + 54 + 60) (zB165_5.drop 2) [(5, .int a5), (4, .int 0), (3, .int 0), (0, .ref 61), (1, .int (Int32.ofNat x)), (2, .int (Int32.ofNat c))] [.int v] (zmk I Jm Xm) = zcw (zE xs L (d + 5) 165) (zev xs L (d + 5) 178 [.ref 61, .int 59] (zmk (zup I A x v) Jm Xm)) (fun h => zseg (zE xs L (d + 5) 165) (zC 165) (f + 42 + 60) (zB165_9.drop 3) [(6, .int v), (5, .int a5), (4, .int 0), (3, .int 0), (0, .ref 61), (1, .int (Int32.ofNat x)), (2, .int (Int32.ofNat c))] [] h) := fun I v => by
    have U := U165_5 xs L d (f + 54) I Jm Xm a5 0 0 (Int32.ofNat x) (Int32.ofNat c) v
    rcases k5 with ⟨e, e5⟩ | ⟨e, e5⟩
    · rw [if_neg (fun z => e5 (of_decide_eq_true z)), if_pos z1, ex] at U
      rw [hA, if_neg (by omega)]
      exact U
    · rw [if_pos (decide_eq_true e5), if_pos z1, ex] at U
      rw [hA, if_pos e]
      exact U
  have hA2 : A = 96 ∨ A = 97 := by
    rw [hA]
    split <;> omega
  have A61 : ∀ (I : Nat → Nat → Int32) (v : Int32) (a : Nat), a ≠ 96 → a ≠ 97 → zup I A x v a = I a := fun I v a g1 g2 => if_neg (by omega)
  have fx1 : yfX x M M1 := yfX_M (yfM_step (k := 0) s2)
  have upA : ∀ (I : Nat → Nat → Int32) (v : Int32), yfX x M I → yfX x M (zup I A x v) := fun I v g => yfX_up g (Or.inl ⟨by
    rcases hA2 with e | e <;> rw [e] <;> decide, rfl⟩)
  by_cases h8 : (ylx (V 36) n (ylx (V 36) n b).2.2.2).1 = 258
  · have h5 := (ylx_num (V 36) n _ hb h8).1
    obtain ⟨M2, n1, n2, n3⟩ := number_m xs L (d + 5) (by omega) Jm Xm hn rg.2.1 hb s3 h01 h8 h5
    obtain ⟨v, hv⟩ : ∃ v, v = (ylx (V 36) n (ylx (V 36) n b).2.2.2).2.1 := ⟨_, rfl⟩
    rw [← hv] at n1
    rw [n1, zci_i, U5] at S
    have hlt1 := rg1.2.2.2.2 (by rw [h8]; decide)
    obtain ⟨M3, hM3⟩ : ∃ M3, M3 = zup M2 A x v := ⟨_, rfl⟩
    rw [← hM3] at S
    have r : ∀ a, a ≠ 96 → a ≠ 97 → M3 a = M2 a := fun a g1 g2 => by rw [hM3]; exact A61 M2 v a g1 g2
    have hM3t : yMt M3 (V 36) n (ylx (V 36) n (ylx (V 36) n b).2.2.2).2.2.2 := yMt_fr n3 (r 104 (by decide) (by decide)) (fun k _ => by rw [r 61 (by decide) (by decide)])
    have h03 : M3 61 65 = 0 := by rw [r 61 (by decide) (by decide), n2.2 65 (by decide), h01]
    have fx3 : yfX x M M3 := by
      rw [hM3]
      exact upA M2 v (yfX_tr fx1 (yfX_M (yfM_step (k := 0) n2)))
    have got : ∀ Q, yRun0 xs L d0 Jc Xc V n (ylx (V 36) n (ylx (V 36) n b).2.2.2).2.2.2 (c + 1) (ylx (V 36) n b).1 (if (ylx (V 36) n b).1 = 302 then v else lt) (if (ylx (V 36) n b).1 = 302 then nr else v) 2 (yfl C) w dd mn ns cm Q → yRun0 xs L d0 Jc Xc V n b c hd lt nr 0 (yfl C) w dd mn ns cm Q := fun Q hQ => goh Q (t_num xs L d0 Jc Xc hn h8 (by
      rw [← hv]
      exact hQ))
    obtain ⟨M5, g1, g2⟩ := need_m xs L (d + 5) (by omega) Jm Xm 59 (by decide) hn rg1.2.1 hb hM3t h03
    rw [g1, zcw_v, U165_9 xs L d (f + 42)] at S
    have rg2 := ylx_rg (V 36) n (ylx (V 36) n (ylx (V 36) n b).2.2.2).2.2.2 rg1.2.1
    rcases g2 with ⟨t1, t2, t3⟩ | ⟨t1, t2⟩
    · have hlt2 := rg2.2.2.2.2 (by rw [t1]; decide)
      have o : ∀ a, a ≠ 61 → a ≠ 96 → a ≠ 97 → M5 a = M a := fun a g1 g2 g3 => by rw [t2.1 a g1, r a g2 g3, n2.1 a g1, s2.1 a g1]
      have o68 : M5 61 68 = M 61 68 := by rw [t2.2 68 (by decide), r 61 (by decide) (by decide), n2.2 68 (by decide), s2.2 68 (by decide)]
      have o9 : ∀ a, a = 96 ∨ a = 97 → M5 a x = if a = A then v else M a x := fun a ha => by
        have e : M5 a = M3 a := t2.1 a (by omega)
        rw [e, hM3]
        by_cases q : a = A
        · rw [if_pos q, q]
          exact zup_at
        · rw [if_neg q]
          have e2 : zup M2 A x v a = M2 a := if_neg q
          rw [e2, n2.1 a (by omega), s2.1 a (by omega)]
      refine ⟨M5, S, yfX_tr fx3 (yfX_M (yfM_step (k := 0) t2)), Or.inr ⟨_, C, (ylx (V 36) n b).1, (if (ylx (V 36) n b).1 = 302 then v else lt), (if (ylx (V 36) n b).1 = 302 then nr else v), w, dd, mn, ns, cm, ?_, rg2.2.1, ⟨t3, by rw [t2.2 65 (by decide), h03], ?_, ?_, ?_, ?_, ?_, hr, by omega, by omega, by omega⟩, fun Q hQ => got Q (s_semi xs L d0 Jc Xc hn t1 hQ)⟩⟩
      · omega
      · exact yMK_fr hMK o68 (o 101 (by decide) (by decide) (by decide))
      · rw [o 95 (by decide) (by decide) (by decide), h95]
      · rw [o9 96 (Or.inl rfl), h96, hA]
        rcases ej with ⟨e, e9⟩ | ⟨e, e9⟩
        · rw [e9, e]
          rfl
        · rw [e9, e]
          rfl
      · rw [o9 97 (Or.inr rfl), h97, hA]
        rcases ej with ⟨e, e9⟩ | ⟨e, e9⟩
        · rw [e9, e]
          rfl
        · rw [e9, e]
          rfl
      · exact zMc_fr C 0 0 hz (fun a k ha _ => by
          simp only [List.mem_cons, List.not_mem_nil, or_false] at ha
          rw [o a (by omega) (by omega) (by omega)]) (fun k _ => by rw [o 101 (by decide) (by decide) (by decide)])
    · obtain ⟨w1, w2', w3⟩ := ywr9_ok (x := x) (k9 := 0) 1 hM3t
      rw [← t2] at w1 w2' w3
      refine ⟨M5, S, yfX_tr fx3 (yfX_M w1), Or.inl ⟨1, _, by decide, w2', w3, fun Q hQ => got Q ?_⟩⟩
      by_cases e6 : (ylx (V 36) n (ylx (V 36) n (ylx (V 36) n b).2.2.2).2.2.2).1 = 256
      · exact p_end0 xs L d0 Jc Xc hn (by decide) e6 hQ
      · exact s_bad xs L d0 Jc Xc hn e6 t1 hQ
  · obtain ⟨v, n1⟩ := num_bad xs L (d + 5) (by omega) Jm Xm hn rg.2.1 hb s3 h01 h8
    obtain ⟨k, hk9⟩ : ∃ k : Int32, k = if (ylx (V 36) n (ylx (V 36) n b).2.2.2).1 = 259 then 2 else 1 := ⟨_, rfl⟩
    rw [← hk9] at n1
    have k0 : ¬ k = 0 ∧ ¬ k = 9 := by
      rw [hk9]
      split <;> decide
    obtain ⟨w1, w2', w3⟩ := ywr9_ok (x := x) (k9 := 0) k s3
    rw [n1, zci_i, U5] at S
    have e61 := A61 (ywr9 M1 k) v 61 (by decide) (by decide)
    rw [need_no9 xs L (d + 5) (by omega) (zup (ywr9 M1 k) A x v) Jm Xm 59 (by rw [e61, w2']; exact k0.1), zcw_v, U165_9 xs L d (f + 42)] at S
    refine ⟨_, S, upA _ v (yfX_tr fx1 (yfX_M w1)), Or.inl ⟨k, _, k0, by rw [e61, w2'], by rw [e61, w3], fun Q hQ => goh Q ?_⟩⟩
    by_cases e6 : (ylx (V 36) n (ylx (V 36) n b).2.2.2).1 = 256
    · have : k = 1 := by
        rw [hk9, e6]
        rfl
      rw [this] at hQ
      exact p_end0 xs L d0 Jc Xc hn (by decide) e6 hQ
    · exact t_bad xs L d0 Jc Xc hn e6 h8 (by
        rw [← hk9]
        exact hQ)
/-- a clause, whatever it is -/
theorem clause_all (xs : Nat → Int32) (L d d0 : Nat) (Jc Jm : Nat → Nat → Int64) (Xc Xm : XH) {V : Nat → Nat → Int32} {T : Nat → Int32} {n x : Nat} {M : Nat → Nat → Int32} {b : Nat} {C : List (Bool × List Int32)} {c : Nat} {lt nr : Int32} (hd : Int32) (w : List Int32) (dd : Nat) (mn : Int32) (ns : Nat) (cm : Nat → Bool) (hd5 : 5 ≤ d) (hn : n ≤ 400) (hV : V 36 = T) (hb : ∀ i, i < n → 0 ≤ (T i).toInt ∧ (T i).toInt ≤ 255) (hx : x < 37) (hbn : b ≤ n) (h : yRS M T n b x C lt nr c) (hE : ∀ c hd lt nr, ySp xs L (d + 5) 168 d0 Jc Jm Xc Xm V T n c hd lt nr x 0 1 31 (yPreE 1 0) (fun _ => yEnd 0)) (e6 : ¬ (ylx T n b).1 = 256) : yCl xs L (d + 6) d0 Jc Jm Xc Xm V T n x M b C c hd lt nr w dd mn ns cm := by
  have hc16 := h.2.2.2.2.2.2.2.2.2.1
  by_cases hh : 300 ≤ (ylx T n b).1.toInt ∧ (ylx T n b).1.toInt ≤ 303
  · have ex : ∃ j, j < 4 ∧ (ylx T n b).1 = (300 : Int32) + Int32.ofNat j := by
      have : (ylx T n b).1.toInt = 300 ∨ (ylx T n b).1.toInt = 301 ∨ (ylx T n b).1.toInt = 302 ∨ (ylx T n b).1.toInt = 303 := by omega
      rcases this with e | e | e | e
      · exact ⟨0, by decide, i32_eq.mpr (by rw [e]; decide)⟩
      · exact ⟨1, by decide, i32_eq.mpr (by rw [e]; decide)⟩
      · exact ⟨2, by decide, i32_eq.mpr (by rw [e]; decide)⟩
      · exact ⟨3, by decide, i32_eq.mpr (by rw [e]; decide)⟩
    obtain ⟨j, hj, et⟩ := ex
    by_cases c16 : c = 16
    · have S := head_16 xs L d (by omega) Jm Xm (Int32.ofNat x) c j hj hn hbn hb h.1 h.2.1 c16 et
      obtain ⟨w1, w2', w3⟩ := ywr9_ok (x := x) (k9 := 0) 2 h.1
      subst hV
      exact ⟨_, S, yfX_M w1, Or.inl ⟨2, _, by decide, w2', w3, fun Q hQ => h_bad xs L d0 Jc Xc hn hc16 2 e6 (Or.inr ⟨rfl, hh, c16⟩) hQ⟩⟩
    · by_cases j2 : j < 2
      · exact clause_exp xs L d d0 Jc Jm Xc Xm hd w dd mn ns cm hd5 hn hV hb hx hbn h (by omega) hE j j2 et
      · exact clause_num xs L d d0 Jc Jm Xc Xm hd w dd mn ns cm hd5 hn hV hb hx hbn h (by omega) j (by omega) hj et
  · have S := head_no xs L d (by omega) Jm Xm (Int32.ofNat x) (Int32.ofNat c) hn hbn hb h.1 h.2.1 hh
    obtain ⟨w1, w2', w3⟩ := ywr9_ok (x := x) (k9 := 0) 1 h.1
    subst hV
    exact ⟨_, S, yfX_M w1, Or.inl ⟨1, _, by decide, w2', w3, fun Q hQ => h_bad xs L d0 Jc Xc hn hc16 1 e6 (Or.inl ⟨rfl, hh⟩) hQ⟩⟩
