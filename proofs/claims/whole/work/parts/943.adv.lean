/-! THE PURE PART: the class's next token. -/
theorem word_c (xs : Nat → Int32) (L d : Nat) (J : Nat → Nat → Int64) (X : XH) (T : Nat → Int32) (n p : Nat) (hn : n ≤ 400) : ∀ (f b : Nat) (H : Nat → Nat → Int32), b + f = n → p ≤ b → H 36 = T → H 35 2 = Int32.ofNat n → H 35 4 = Int32.ofNat b → H 35 3 = Int32.ofNat p → ∃ H', zgo xs L (d + 1 + 5) 48 1 [(0, .ref 35)] (zmk H J X) = some (.inr none, zmk H' J X) ∧ yf35 [4, 5] H H' ∧ H' 35 4 = Int32.ofNat (yspn yP2 T f b) ∧ H' 35 5 = ywc T p (yspn yP2 T f b - p)
  | 0, b, H, hb, hp, hT, h2, h4, h3 => by
    have e : yspn yP2 T 0 b = b := rfl
    obtain ⟨H', s1, s2, s3⟩ := word_loop xs L d J X T p b hp (by omega) yws 0 0 299 (zup H 35 5 299) yws_at (by decide) hT ((zup_k (by decide)).trans h3) ((zup_k (by decide)).trans h4) zup_at
    rw [e]
    refine ⟨H', ?_, yf35_tr (yf35_up yf35_rfl (by decide)) s2 (by decide), ?_, s3⟩
    · rw [zgo_q, S48_1 xs L (d + 1), h2, h4, if_pos (decide_eq_true ((nat_le (by omega) (by omega)).mpr (by omega))), zth_go]
      exact s1
    · rw [s2.2 4 (by decide)]
      exact (zup_k (by decide)).trans h4
  | f + 1, b, H, hb, hp, hT, h2, h4, h3 => by
    have ea : zat H 36 400 (Int32.ofNat b) = T b := by rw [zat_nat (by omega) (by omega), hT]
    have S := zgo_q xs L (d + 1 + 5) 48 1 [(0, .ref 35)] (zmk H J X)
    rw [S48_1 xs L (d + 1), h2, h4, if_neg (fun z => by
      have := (nat_le (by omega) (by omega)).mp (of_decide_eq_true z)
      omega), ea] at S
    by_cases c : ¬ T b < 97 ∧ ¬ 122 < T b
    · have e : yspn yP2 T (f + 1) b = yspn yP2 T f (b + 1) := if_pos (decide_eq_true c)
      rw [e]
      rw [if_neg (fun z => (zbi_eq0.mp (of_decide_eq_true z)) c), zth_go, nat_succ] at S
      obtain ⟨H', q1, q2, q3⟩ := word_c xs L d J X T n p hn f (b + 1) (zup H 35 4 (Int32.ofNat (b + 1))) (by omega) (by omega) hT ((zup_k (by decide)).trans h2) zup_at ((zup_k (by decide)).trans h3)
      exact ⟨H', S.trans q1, yf35_tr (yf35_up yf35_rfl (by decide)) q2 (fun _ h => h), q3⟩
    · have e : yspn yP2 T (f + 1) b = b := if_neg (fun z => c (of_decide_eq_true z))
      rw [e]
      rw [if_pos (decide_eq_true (zbi_eq0.mpr c)), zth_go] at S
      obtain ⟨H', s1, s2, s3⟩ := word_loop xs L d J X T p b hp (by omega) yws 0 0 299 (zup H 35 5 299) yws_at (by decide) hT ((zup_k (by decide)).trans h3) ((zup_k (by decide)).trans h4) zup_at
      refine ⟨H', S.trans s1, yf35_tr (yf35_up yf35_rfl (by decide)) s2 (by decide), ?_, s3⟩
      rw [s2.2 4 (by decide)]
      exact (zup_k (by decide)).trans h4
/-- what a token leaves in the reader -/
def ytk9 (H H' : Nat → Nat → Int32) (x : Int32 × Int32 × Nat × Nat) : Prop := yf35 [3, 4, 5, 6] H H' ∧ H' 35 3 = Int32.ofNat x.2.2.1 ∧ H' 35 4 = Int32.ofNat x.2.2.2 ∧ H' 35 5 = x.1 ∧ (x.1 = 258 → H' 35 6 = x.2.1)
theorem adv_tail (xs : Nat → Int32) (L d : Nat) (J : Nat → Nat → Int64) (X : XH) (T : Nat → Int32) (n p : Nat) (hn : n ≤ 400) (hp : p ≤ n) (H : Nat → Nat → Int32) (hT : H 36 = T) (h2 : H 35 2 = Int32.ofNat n) (h4 : H 35 4 = Int32.ofNat p) (k1 k2 : AH → Option Out) (e1 : ∀ N, k1 (zmk N J X) = some (.inr (.inr none, zmk N J X))) (e2 : ∀ N, k2 (zmk N J X) = some (.inr (.inr none, zmk N J X))) : ∃ H', zth xs L (d + 2 + 5) 45 (if decide (Int32.ofNat p < Int32.ofNat n) = true then
       if decide ((zbi (¬ T p < 97 ∧ ¬ 122 < T p)) = 0) = true then
         if decide ((zbi (¬ T p < 48 ∧ ¬ 57 < T p)) = 0) = true then
           if decide ((zbi (T p = 59 ∨ T p = 40 ∨ T p = 41 ∨ ¬ zrank (T p) ≤ 0)) = 0) = true then
             some (.inr (.inr none, zmk (zup (zup (zup H 35 3 (Int32.ofNat p)) 35 4 (Int32.ofNat p + 1)) 35 5 257) J X))
             else some (.inr (.inr none, zmk (zup (zup (zup H 35 3 (Int32.ofNat p)) 35 4 (Int32.ofNat p + 1)) 35 5 (T p)) J X))
           else zcw (zE xs L (d + 2 + 5) 45) (zev xs L (d + 2 + 5) 51 [.ref 35] (zmk (zup H 35 3 (Int32.ofNat p)) J X)) k1
         else zcw (zE xs L (d + 2 + 5) 45) (zev xs L (d + 2 + 5) 48 [.ref 35] (zmk (zup H 35 3 (Int32.ofNat p)) J X)) k2
       else some (.inr (.inr none, zmk (zup (zup H 35 3 (Int32.ofNat p)) 35 5 256) J X))) = some (.inr none, zmk H' J X) ∧ ytk9 H H' (ylxE T n p) := by
  unfold ytk9 ylxE
  by_cases c : n ≤ p
  · rw [if_neg (fun z => by
      have := (nat_lt (by omega) (by omega)).mp (of_decide_eq_true z)
      omega), if_pos c]
    refine ⟨_, rfl, yf35_up (yf35_up yf35_rfl (by decide)) (by decide), (zup_k (by decide)).trans zup_at, (zup_k (by decide)).trans ((zup_k (by decide)).trans h4), zup_at, fun z => absurd (show (256 : Int32) = 258 from z) (by decide)⟩
  rw [if_pos (decide_eq_true ((nat_lt (by omega) (by omega)).mpr (by omega))), if_neg c]
  by_cases q2 : ¬ T p < 97 ∧ ¬ 122 < T p
  · rw [if_neg (fun z => (zbi_eq0.mp (of_decide_eq_true z)) q2), if_pos (show yP2 (T p) = true from decide_eq_true q2)]
    obtain ⟨H', s1, s2, s3, s4⟩ := word_c xs L d J X T n p hn (n - p) p (zup H 35 3 (Int32.ofNat p)) (by omega) (Nat.le_refl _) hT ((zup_k (by decide)).trans h2) ((zup_k (by decide)).trans h4) zup_at
    have c48 : zev xs L (d + 2 + 5) 48 [.ref 35] (zmk (zup H 35 3 (Int32.ofNat p)) J X) = some (.inr none, zmk H' J X) := by
      refine (zcS (S48_0 xs L (d + 1) _ J X)).trans ?_
      rw [zth_go]
      exact s1
    rw [c48, zcw_v, e2]
    refine ⟨H', rfl, yf35_tr (yf35_up yf35_rfl (by decide)) s2 (by decide), ?_, s3, s4, fun z => ?_⟩
    · rw [s2.2 3 (by decide)]
      exact zup_at
    · exfalso
      have : ∀ (ws : List (List Int32)) (i l : Nat) (x : Int32), i + ws.length ≤ 100 → (299 ≤ x.toInt) → 299 ≤ (ywd T p l i ws x).toInt := by
        intro ws
        induction ws with
        | nil =>
          intro i l x _ hx
          exact hx
        | cons w ws ih =>
          intro i l x hi hx
          have hl : (w :: ws).length = ws.length + 1 := List.length_cons
          refine ih (i + 1) l _ (by omega) ?_
          split
          · have h3 : (300 : Int32).toInt = 300 := by decide
            have hi2 : (Int32.ofNat i).toInt = i := i32_toInt (by omega)
            rw [i32_add (by omega) (by omega)]
            omega
          · exact hx
      have q := this yws 0 (yspn yP2 T (n - p) p - p) 299 (by decide) (by decide)
      have z : ywc T p (yspn yP2 T (n - p) p - p) = 258 := z
      have q : 299 ≤ (ywc T p (yspn yP2 T (n - p) p - p)).toInt := q
      rw [z] at q
      exact absurd q (by decide)
  rw [if_pos (decide_eq_true (zbi_eq0.mpr q2)), if_neg (show ¬ yP2 (T p) = true from fun z => q2 (of_decide_eq_true z))]
  by_cases q3 : ¬ T p < 48 ∧ ¬ 57 < T p
  · rw [if_neg (fun z => (zbi_eq0.mp (of_decide_eq_true z)) q3), if_pos (show yP3 (T p) = true from decide_eq_true q3)]
    obtain ⟨H', s1, s2, s3, s4, s5⟩ := num_c xs L (d + 1) J X T n p hn (n - p) p (zup (zup H 35 3 (Int32.ofNat p)) 35 6 0) (by omega) (Nat.le_refl _) hT ((zup_k (by decide)).trans ((zup_k (by decide)).trans h2)) ((zup_k (by decide)).trans ((zup_k (by decide)).trans h4)) ((zup_k (by decide)).trans zup_at) (by
      rw [Nat.sub_self]
      exact zup_at)
    have c51 : zev xs L (d + 2 + 5) 51 [.ref 35] (zmk (zup H 35 3 (Int32.ofNat p)) J X) = some (.inr none, zmk H' J X) := by
      refine (zcS (S51_0 xs L (d + 1) _ J X)).trans ?_
      rw [zth_go]
      exact s1
    rw [c51, zcw_v, e1]
    refine ⟨H', rfl, yf35_tr (yf35_up (yf35_up yf35_rfl (by decide)) (by decide)) s2 (by decide), ?_, s3, s4, fun _ => s5⟩
    rw [s2.2 3 (by decide)]
    exact (zup_k (by decide)).trans zup_at
  rw [if_pos (decide_eq_true (zbi_eq0.mpr q3)), if_neg (show ¬ yP3 (T p) = true from fun z => q3 (of_decide_eq_true z)), nat_succ]
  by_cases q4 : T p = 59 ∨ T p = 40 ∨ T p = 41 ∨ ¬ zrank (T p) ≤ 0
  · rw [if_neg (fun z => (zbi_eq0.mp (of_decide_eq_true z)) q4), if_pos (show ysgn (T p) = true from decide_eq_true q4)]
    refine ⟨_, rfl, yf35_up (yf35_up (yf35_up yf35_rfl (by decide)) (by decide)) (by decide), (zup_k (by decide)).trans ((zup_k (by decide)).trans zup_at), (zup_k (by decide)).trans zup_at, zup_at, fun z => ?_⟩
    exfalso
    have z : T p = 258 := z
    rw [z] at q4
    exact absurd q4 (by decide)
  · rw [if_pos (decide_eq_true (zbi_eq0.mpr q4)), if_neg (show ¬ ysgn (T p) = true from fun z => q4 (of_decide_eq_true z))]
    exact ⟨_, rfl, yf35_up (yf35_up (yf35_up yf35_rfl (by decide)) (by decide)) (by decide), (zup_k (by decide)).trans ((zup_k (by decide)).trans zup_at), (zup_k (by decide)).trans zup_at, zup_at, fun z => absurd (show (257 : Int32) = 258 from z) (by decide)⟩
theorem adv_loop (xs : Nat → Int32) (L d : Nat) (J : Nat → Nat → Int64) (X : XH) (T : Nat → Int32) (n : Nat) (hn : n ≤ 400) : ∀ (f b : Nat) (H : Nat → Nat → Int32), b + f = n → H 36 = T → H 35 2 = Int32.ofNat n → H 35 4 = Int32.ofNat b → ∃ H', zgo xs L (d + 2 + 5) 45 1 [(0, .ref 35)] (zmk H J X) = some (.inr none, zmk H' J X) ∧ ytk9 H H' (ylxE T n (yspn yP1 T f b))
  | 0, b, H, hb, hT, h2, h4 => by
    have e : yspn yP1 T 0 b = b := rfl
    have hT2 : H 35 2 = Int32.ofNat n := h2
    have ta := adv_tail xs L d J X (H 36) n b hn (by omega) H rfl h2 h4 (fun h => some (.inr (.inr none, h))) (fun h => some (.inr (.inr none, h))) (fun _ => rfl) (fun _ => rfl)
    rw [hT] at ta
    obtain ⟨H', t1, t2⟩ := ta
    rw [e]
    refine ⟨H', ?_, t2⟩
    rw [zgo_q, S45_1 xs L (d + 2), h2, h4, if_pos (decide_eq_true ((nat_le (by omega) (by omega)).mpr (by omega)))]
    rw [if_neg (fun z => by
      have := (nat_lt (by omega) (by omega)).mp (of_decide_eq_true z)
      omega)] at t1 ⊢
    exact t1
  | f + 1, b, H, hb, hT, h2, h4 => by
    have ea : zat H 36 400 (Int32.ofNat b) = T b := by rw [zat_nat (by omega) (by omega), hT]
    have S := zgo_q xs L (d + 2 + 5) 45 1 [(0, .ref 35)] (zmk H J X)
    rw [S45_1 xs L (d + 2), h2, h4, if_neg (fun z => by
      have := (nat_le (by omega) (by omega)).mp (of_decide_eq_true z)
      omega), ea] at S
    by_cases c : T b = 32 ∨ T b = 10
    · have e : yspn yP1 T (f + 1) b = yspn yP1 T f (b + 1) := if_pos (decide_eq_true c)
      rw [if_neg (fun z => (zbi_eq0.mp (of_decide_eq_true z)) c), zth_go, nat_succ] at S
      obtain ⟨H', q1, q2, q3⟩ := adv_loop xs L d J X T n hn f (b + 1) (zup H 35 4 (Int32.ofNat (b + 1))) (by omega) hT ((zup_k (by decide)).trans h2) zup_at
      rw [e]
      exact ⟨H', S.trans q1, yf35_tr (yf35_up yf35_rfl (by decide)) q2 (fun _ h => h), q3⟩
    · have e : yspn yP1 T (f + 1) b = b := if_neg (fun z => c (of_decide_eq_true z))
      rw [if_pos (decide_eq_true (zbi_eq0.mpr c))] at S
      obtain ⟨H', t1, t2⟩ := adv_tail xs L d J X T n b hn (by omega) H hT h2 h4 (fun h => zseg (zE xs L (d + 2 + 5) 45) (zC 45) 665 (zB45_5.drop 5) [(1, .int (T b)), (0, .ref 35)] [] h) (fun h => zseg (zE xs L (d + 2 + 5) 45) (zC 45) 668 (zB45_3.drop 5) [(1, .int (T b)), (0, .ref 35)] [] h) (fun N => T45_5_5_665 xs L (d + 2) N J X _) (fun N => T45_3_5_668 xs L (d + 2) N J X _)
      rw [e]
      exact ⟨H', S.trans t1, t2⟩
