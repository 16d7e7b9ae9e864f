/-! THE PURE PART: a whole text, both sides. -/
theorem i32_of (v : Int32) : ∃ d : Nat, v = Int32.ofNat d := ⟨v.toBitVec.toNat, by
  apply Int32.toBitVec_inj.1
  show v.toBitVec = BitVec.ofNat 32 v.toBitVec.toNat
  rw [BitVec.ofNat_toNat, BitVec.setWidth_eq]⟩
theorem ykn_0 {t : Int32} : ykn t = 0 ↔ t = 256 := by
  refine ⟨fun z => ?_, fun z => by rw [z]; decide⟩
  unfold ykn at z
  by_cases c1 : t = 256
  · exact c1
  rw [if_neg c1] at z
  by_cases c2 : t = 257
  · rw [if_pos c2] at z
    exact absurd z (by decide)
  rw [if_neg c2] at z
  by_cases c3 : t = 258 ∨ t = 259
  · rw [if_pos c3] at z
    exact absurd z (by decide)
  rw [if_neg c3] at z
  by_cases c4 : (299 : Int32) ≤ t
  · rw [if_pos c4] at z
    exact absurd z (by decide)
  · rw [if_neg c4] at z
    exact absurd z (by decide)
/-- what is known of text x once it is read without a fault -/
def yRd (M : Nat → Nat → Int32) (x : Nat) (C : List (Bool × List Int32)) (lt nr : Int32) : Prop := M 95 x = Int32.ofNat C.length ∧ C.length ≤ 16 ∧ zMc M x 0 0 C ∧ (∀ q, q ∈ C → zrp 40 0 q.2 1) ∧ M 96 x = lt ∧ M 97 x = nr
theorem read_loop (xs : Nat → Int32) (L d d0 : Nat) (Jc Jm : Nat → Nat → Int64) (Xc Xm : XH) {V : Nat → Nat → Int32} {T : Nat → Int32} {n x : Nat} (hd5 : 5 ≤ d) (hn : n ≤ 400) (hV : V 36 = T) (hb : ∀ i, i < n → 0 ≤ (T i).toInt ∧ (T i).toInt ≤ 255) (hx : x < 37) (hE : ∀ c hd lt nr, ySp xs L (d + 5) 168 d0 Jc Jm Xc Xm V T n c hd lt nr x 0 1 31 (yPreE 1 0) (fun _ => yEnd 0)) (a2 : Int32) : ∀ (f : Nat) (M : Nat → Nat → Int32) (b : Nat) (C : List (Bool × List Int32)) (c : Nat) (hd lt nr : Int32) (w : List Int32) (dd : Nat) (mn : Int32) (ns : Nat) (cm : Nat → Bool), n - b < f → b ≤ n → yRS M T n b x C lt nr c → ∃ M' r, zgo xs L (d + 1 + 5) 160 2 [(0, .ref 61), (1, .int (Int32.ofNat x)), (2, .int a2), (3, .int (Int32.ofNat c))] (zmk M Jm Xm) = some (.inr (some (.int r)), zmk M' Jm Xm) ∧ yfX x M M' ∧ (((¬ r = 0 ∧ ¬ r = 9) ∧ ∃ p, (M' 61 67 = Int32.ofNat p ∧ M' 61 65 = r) ∧ ∀ Q, yBad V r p Q → yRun0 xs L d0 Jc Xc V n b c hd lt nr 0 (yfl C) w dd mn ns cm Q) ∨ (r = 0 ∧ M' 61 67 = -1 ∧ ∃ b' C' c' hd' lt' nr' w' dd' mn' ns' cm', yRd M' x C' lt' nr' ∧ ∀ Q : Int32 → (Nat → Nat → Int32) → Prop, (∀ H1, (yfl C').length < 400 → yCT0 V H1 n (ylx (V 36) n b') c' hd' lt' nr' 0 (yfl C') w' dd' mn' ns' cm' → Q 0 H1) → yRun0 xs L d0 Jc Xc V n b c hd lt nr 0 (yfl C) w dd mn ns cm Q))
  | 0, _, _, _, _, _, _, _, _, _, _, _, _, hf, _, _ => absurd hf (Nat.not_lt_zero _)
  | f + 1, M, b, C, c, hd, lt, nr, w, dd, mn, ns, cm, hf, hbn, h => by
    have h0 := h.2.1
    have n0 : ¬ decide (¬ M 61 65 = 0) = true := fun z => (of_decide_eq_true z) h0
    have S := zgo_q xs L (d + 1 + 5) 160 2 [(0, .ref 61), (1, .int (Int32.ofNat x)), (2, .int a2), (3, .int (Int32.ofNat c))] (zmk M Jm Xm)
    rw [S160_2 xs L (d + 1), if_neg n0] at S
    by_cases e6 : (ylx T n b).1 = 256
    · have k0 : M 61 60 = 0 := h.1.2.2.2.2.2.1.trans (ykn_0.mpr e6)
      rw [if_pos (decide_eq_true k0), if_neg n0] at S
      obtain ⟨hM, _, hMK, h95, h96, h97, hz, hr, hCc, hc16, hK⟩ := h
      have q : ∀ a, a ≠ 61 → zup M 61 67 (-1) a = M a := fun a ha => if_neg ha
      subst hV
      refine ⟨_, _, S, ⟨fun a ha => q a (fun z => ha (by rw [z]; decide)), fun j hj => zup_k (fun z => hj (by rw [z]; decide)), fun a j ha _ => ?_, fun a j ha _ => ?_, fun j _ => rfl⟩, Or.inr ⟨h0, zup_at, b, C, c, hd, lt, nr, w, dd, mn, ns, cm, ⟨h95, by omega, zMc_fr C 0 0 hz (fun a k ha _ => ?_) (fun k _ => rfl), hr, h96, h97⟩, fun Q hQ H i hC hi => run_end0 xs L d0 Jc Xc hn e6 (fun H1 hT => hQ H1 (by
        have := hC.2.2.2.1
        cases C with
        | nil => exact (show 0 < 400 by decide)
        | cons q r =>
          have := List.length_cons (a := q) (as := r)
          omega) hT) H i hC hi⟩⟩
      · simp only [List.mem_cons, List.not_mem_nil, or_false] at ha
        rw [q a (by omega)]
      · simp only [List.mem_cons, List.not_mem_nil, or_false] at ha
        rw [q a (by omega)]
      · simp only [List.mem_cons, List.not_mem_nil, or_false] at ha
        rw [q a (by omega)]
    · have k0 : ¬ M 61 60 = 0 := fun z => e6 (ykn_0.mp (h.1.2.2.2.2.2.1.symm.trans z))
      obtain ⟨M1, s1, s2, s3⟩ := clause_all xs L d d0 Jc Jm Xc Xm hd w dd mn ns cm hd5 hn hV hb hx hbn h hE e6
      rw [if_neg (fun z => k0 (of_decide_eq_true z)), show d + 1 + 5 = d + 6 by omega, s1, zcw_v, show d + 6 = d + 1 + 5 by omega, T160_2_10_690 xs L (d + 1), zth_go, nat_succ] at S
      rcases s3 with ⟨k, p, kn, e1, e2, e3⟩ | ⟨b', C', hd', lt', nr', w', dd', mn', ns', cm', c1, c2, c3, c4⟩
      · have n1 : decide (¬ M1 61 65 = 0) = true := decide_eq_true (by rw [e1]; exact kn.1)
        have S2 := zgo_q xs L (d + 1 + 5) 160 2 [(0, .ref 61), (1, .int (Int32.ofNat x)), (2, .int a2), (3, .int (Int32.ofNat (c + 1)))] (zmk M1 Jm Xm)
        rw [S160_2 xs L (d + 1), if_pos n1, if_pos n1, e1] at S2
        have q : ∀ a, a ≠ 61 → zup M1 61 67 (M1 61 66) a = M1 a := fun a ha => if_neg ha
        refine ⟨_, _, S.trans S2, yfX_tr s2 ⟨fun a ha => q a (fun z => ha (by rw [z]; decide)), fun j hj => zup_k (fun z => hj (by rw [z]; decide)), fun a j ha _ => ?_, fun a j ha _ => ?_, fun j _ => rfl⟩, Or.inl ⟨kn, p, ⟨zup_at.trans e2, (zup_k (by decide)).trans e1⟩, e3⟩⟩
        · simp only [List.mem_cons, List.not_mem_nil, or_false] at ha
          rw [q a (by omega)]
        · simp only [List.mem_cons, List.not_mem_nil, or_false] at ha
          rw [q a (by omega)]
      · obtain ⟨M2, r, i1, i2, i3⟩ := read_loop xs L d d0 Jc Jm Xc Xm hd5 hn hV hb hx hE a2 f M1 b' C' (c + 1) hd' lt' nr' w' dd' mn' ns' cm' (by omega) c2 c3
        refine ⟨M2, r, S.trans i1, yfX_tr s2 i2, ?_⟩
        rcases i3 with ⟨r0, p, e1, e2⟩ | ⟨r0, e1, b9, C9, c9, hd9, lt9, nr9, w9, dd9, mn9, ns9, cm9, g1, g2⟩
        · exact Or.inl ⟨r0, p, e1, fun Q hQ => c4 Q (e2 Q hQ)⟩
        · exact Or.inr ⟨r0, e1, b9, C9, c9, hd9, lt9, nr9, w9, dd9, mn9, ns9, cm9, g1, fun Q hQ => c4 Q (g2 Q hQ)⟩
/-- the class reads a text as the model does -/
theorem read_eq (xs : Nat → Int32) (L d0 d1 : Nat) (hd1 : 49 ≤ d1) (Jc Jm : Nat → Nat → Int64) (Xc Xm : XH) {H M : Nat → Nat → Int32} {T : Nat → Int32} {n x : Nat} (hn : n ≤ 400) (hH : H 36 = T) (hM : M 104 = T) (hb : ∀ i, i < n → 0 ≤ (T i).toInt ∧ (T i).toInt ≤ 255) (hx : x < 37) : ∃ r H' M', zev xs L (d0 + 3 + 6) 44 [.ref 35, .int (Int32.ofNat n)] (zmk H Jc Xc) = some (.inr (some (.int r)), zmk H' Jc Xc) ∧ zev xs L (d1 + 1) 160 [.ref 61, .int (Int32.ofNat x), .int (Int32.ofNat n)] (zmk M Jm Xm) = some (.inr (some (.int r)), zmk M' Jm Xm) ∧ (∀ a, a ≠ 35 → a ≠ 37 → a ≠ 38 → H' a = H a) ∧ H' 35 1 = H 35 1 ∧ yfX x M M' ∧ (((¬ r = 0 ∧ ¬ r = 9) ∧ ∃ p, (M' 61 67 = Int32.ofNat p ∧ M' 61 65 = r) ∧ H' 35 3 = Int32.ofNat p) ∨ (r = 0 ∧ M' 61 67 = -1 ∧ ∃ C lt nr, yRd M' x C lt nr ∧ (yfl C).length < 400 ∧ H' 35 13 = Int32.ofNat (yfl C).length ∧ zrow (H' 37) 0 (yfl C) ∧ H' 35 10 = lt ∧ H' 35 11 = nr)) := by
  obtain ⟨e, rfl⟩ := Nat.exists_eq_add_of_le hd1
  have ed : 49 + e + 1 = e + 43 + 1 + 6 := by omega
  have ex : (Int32.ofNat x).toNatClampNeg = x := i32_clamp (by omega)
  have z1 : zix 0 37 0 (Int32.ofNat x) := zix_nat rfl (by omega) (by omega)
  have S := zcS (as := [.ref 61, .int (Int32.ofNat x), .int (Int32.ofNat n)]) (S160_0 xs L (e + 43 + 1) M Jm Xm (Int32.ofNat x) (Int32.ofNat n))
  rw [if_pos z1, if_pos z1, if_pos z1, ex] at S
  obtain ⟨M0, hM0⟩ : ∃ M0, M0 = zup (zup (zup (zup (zup (zup (zup M 61 59 (Int32.ofNat n)) 61 58 0) 61 65 0) 61 68 0) 95 x 0) 96 x 10080) 97 x 30 := ⟨_, rfl⟩
  rw [← hM0] at S
  have q61 : ∀ k, k ≠ 59 → k ≠ 58 → k ≠ 65 → k ≠ 68 → M0 61 k = M 61 k := fun k k1 k2 k3 k4 => by
    rw [hM0]
    exact (zup_k (I := zup (zup (zup M 61 59 (Int32.ofNat n)) 61 58 0) 61 65 0) (a := 61) (v := 0) k4).trans ((zup_k k3).trans ((zup_k k2).trans (zup_k k1)))
  have q104 : M0 104 = T := by rw [hM0]; exact hM
  have q59 : M0 61 59 = Int32.ofNat n := by rw [hM0]; rfl
  have q58 : M0 61 58 = Int32.ofNat 0 := by rw [hM0]; rfl
  have q65 : M0 61 65 = 0 := by rw [hM0]; rfl
  have q68 : M0 61 68 = 0 := by rw [hM0]; rfl
  have q95 : M0 95 x = 0 := by rw [hM0]; exact (zup_at : zup (zup (zup (zup (zup M 61 59 (Int32.ofNat n)) 61 58 0) 61 65 0) 61 68 0) 95 x 0 95 x = 0)
  have q96 : M0 96 x = 10080 := by rw [hM0]; exact (zup_at : zup (zup (zup (zup (zup (zup M 61 59 (Int32.ofNat n)) 61 58 0) 61 65 0) 61 68 0) 95 x 0) 96 x 10080 96 x = 10080)
  have q97 : M0 97 x = 30 := by rw [hM0]; exact zup_at
  have f0 : yfX x M M0 := by
    have g : yfX x M (zup (zup (zup (zup M 61 59 (Int32.ofNat n)) 61 58 0) 61 65 0) 61 68 0) := by
      refine ⟨fun a ha => ?_, fun j hj => ?_, fun a j ha _ => ?_, fun a j ha _ => ?_, fun j _ => rfl⟩
      · have : a ≠ 61 := fun z => ha (by rw [z]; decide)
        exact (if_neg this).trans ((if_neg this).trans ((if_neg this).trans (if_neg this)))
      · simp only [List.mem_cons, List.not_mem_nil, or_false] at hj
        exact (zup_k (by omega)).trans ((zup_k (by omega)).trans ((zup_k (by omega)).trans (zup_k (by omega))))
      · simp only [List.mem_cons, List.not_mem_nil, or_false] at ha
        have : a ≠ 61 := by omega
        rw [show zup (zup (zup (zup M 61 59 (Int32.ofNat n)) 61 58 0) 61 65 0) 61 68 0 a = M a from (if_neg this).trans ((if_neg this).trans ((if_neg this).trans (if_neg this)))]
      · simp only [List.mem_cons, List.not_mem_nil, or_false] at ha
        have : a ≠ 61 := by omega
        rw [show zup (zup (zup (zup M 61 59 (Int32.ofNat n)) 61 58 0) 61 65 0) 61 68 0 a = M a from (if_neg this).trans ((if_neg this).trans ((if_neg this).trans (if_neg this)))]
    rw [hM0]
    exact yfX_up (yfX_up (yfX_up g (Or.inl ⟨by decide, rfl⟩)) (Or.inl ⟨by decide, rfl⟩)) (Or.inl ⟨by decide, rfl⟩)
  obtain ⟨M1, s1, s2, s3⟩ := step_at xs L (e + 43 + 1 + 5) (by omega) Jm Xm hn (Nat.zero_le n) hb q104 q59 q58
  rw [s1, zcw_v, T160_0_29_671 xs L (e + 43 + 1), zth_go] at S
  have hE : ∀ c hd lt nr, ySp xs L (e + 43 + 5) 168 d0 Jc Jm Xc Xm H T n c hd lt nr x 0 1 31 (yPreE 1 0) (fun _ => yEnd 0) := fun c hd lt nr => by
    have q := sp_all xs L d0 Jc Jm Xc Xm (V := H) (T := T) (n := n) (c := c) (hd := hd) (lt := lt) (nr := nr) (x := x) hn hH hb hx 6 0 (e + 12) rfl (by omega)
    rw [show e + 12 + 6 * 6 = e + 43 + 5 by omega] at q
    exact q
  have hRS : yRS M1 T n 0 x [] 10080 30 0 := ⟨s3, by rw [s2.2 65 (by decide), q65], ⟨by rw [s2.2 68 (by decide), q68]; rfl, trivial⟩, by rw [s2.1 95 (by decide), q95]; rfl, by rw [s2.1 96 (by decide), q96], by rw [s2.1 97 (by decide), q97], (show (0 : Nat) ≤ 640 by decide), fun q hq => absurd hq List.not_mem_nil, Nat.le_refl _, by decide, by decide⟩
  obtain ⟨dd, hdd⟩ := i32_of (H 35 16)
  obtain ⟨ns, hns⟩ := i32_of (H 35 18)
  obtain ⟨M2, r, i1, i2, i3⟩ := read_loop xs L (e + 43) d0 Jc Jm Xc Xm (by omega) hn hH hb hx hE (Int32.ofNat n) (n + 1) M1 0 [] 0 (H 35 9) 10080 30 [] dd (H 35 17) ns (fun i => ybt (H 35 19) i) (by omega) (Nat.zero_le n) hRS
  have S' := S.trans i1
  rw [← ed] at S'
  have fx : yfX x M M2 := yfX_tr (yfX_tr f0 (yfX_M (yfM_step (k := 0) s2))) i2
  have C := zcS (as := [.ref 35, .int (Int32.ofNat n)]) (S44_0 xs L (d0 + 3) H Jc Xc (Int32.ofNat n))
  rw [zth_go] at C
  have k : ∀ j, j ∉ [2, 4, 8, 13, 10, 11, 7] → zup (zup (zup (zup (zup (zup (zup H 35 2 (Int32.ofNat n)) 35 4 0) 35 8 0) 35 13 0) 35 10 10080) 35 11 30) 35 7 0 35 j = H 35 j := fun j hj => by
    simp only [List.mem_cons, List.not_mem_nil, or_false] at hj
    exact (zup_k (by omega)).trans ((zup_k (by omega)).trans ((zup_k (by omega)).trans ((zup_k (by omega)).trans ((zup_k (by omega)).trans ((zup_k (by omega)).trans (zup_k (by omega)))))))
  have hCS : yCS0 H (zup (zup (zup (zup (zup (zup (zup H 35 2 (Int32.ofNat n)) 35 4 0) 35 8 0) 35 13 0) 35 10 10080) 35 11 30) 35 7 0) n 0 0 (H 35 9) 10080 30 0 [] [] dd (H 35 17) ns (fun i => ybt (H 35 19) i) := ⟨⟨yFr_up (yFr_up (yFr_up (yFr_up (yFr_up (yFr_up (yFr_up (fun _ _ _ _ => rfl) (by omega)) (by omega)) (by omega)) (by omega)) (by omega)) (by omega)) (by omega), k 1 (by decide), rfl, rfl, k 9 (by decide), rfl, rfl, ⟨rfl, trivial⟩, (k 16 (by decide)).trans hdd, k 17 (by decide), (k 18 (by decide)).trans hns, fun i _ => by rw [k 19 (by decide)]⟩, rfl, rfl, Nat.le_refl _, Nat.zero_le n⟩
  rcases i3 with ⟨r0, p, e1, e2⟩ | ⟨r0, e1, b9, C9, c9, hd9, lt9, nr9, w9, dd9, mn9, ns9, cm9, g1, g2⟩
  · obtain ⟨v, H', q1, q2, q3, q4, q5⟩ := e2 (fun v H' => v = r ∧ (∀ a, a ≠ 35 → a ≠ 37 → a ≠ 38 → H' a = H a) ∧ H' 35 1 = H 35 1 ∧ H' 35 3 = Int32.ofNat p) (fun H' g1 g2 g3 => ⟨rfl, g1, g2, g3⟩) _ 0 hCS (Nat.le_refl _)
    subst q2
    exact ⟨v, H', M2, C.trans q1, S', q3, q4, fx, Or.inl ⟨r0, p, e1, q5⟩⟩
  · obtain ⟨v, H', q1, q2, q3, q4, q5, q6, q7, q8⟩ := g2 (fun v H' => v = 0 ∧ (∀ a, a ≠ 35 → a ≠ 37 → a ≠ 38 → H' a = H a) ∧ H' 35 1 = H 35 1 ∧ (yfl C9).length < 400 ∧ (H' 35 13 = Int32.ofNat (yfl C9).length ∧ zrow (H' 37) 0 (yfl C9)) ∧ H' 35 10 = lt9 ∧ H' 35 11 = nr9) (fun H1 hl hT => ⟨rfl, hT.1.1, hT.1.2.1, hl, hT.1.2.2.2.2.2.2.2.1, hT.1.2.2.2.2.2.1, hT.1.2.2.2.2.2.2.1⟩) _ 0 hCS (Nat.le_refl _)
    subst q2
    rw [r0] at S'
    exact ⟨0, H', M2, C.trans q1, S', q3, q4, fx, Or.inr ⟨rfl, e1, C9, lt9, nr9, g1, q5, q6.1, q6.2, q7, q8⟩⟩
