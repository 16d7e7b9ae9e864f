/-! THE PURE PART: the model's next token, whole. -/
theorem yspn_all (P : Int32 → Bool) (T : Nat → Int32) : ∀ f b i, b ≤ i → i < yspn P T f b → P (T i) = true
  | 0, b, i, h1, h2 => by
    have : i < b := h2
    omega
  | f + 1, b, i, h1, h2 => by
    have h2 : i < (if P (T b) = true then yspn P T f (b + 1) else b) := h2
    by_cases c : P (T b) = true
    · rw [if_pos c] at h2
      by_cases e : i = b
      · rw [e]
        exact c
      · exact yspn_all P T f (b + 1) i (by omega) h2
    · rw [if_neg c] at h2
      omega
theorem ywd_ge {T : Nat → Int32} {p l : Nat} : ∀ (ws : List (List Int32)) (i : Nat) (x : Int32), i + ws.length ≤ 100 → 299 ≤ x.toInt → 299 ≤ (ywd T p l i ws x).toInt
  | [], _, _, _, hx => hx
  | w :: ws, i, x, hi, hx => by
    have hl : (w :: ws).length = ws.length + 1 := List.length_cons
    refine ywd_ge ws (i + 1) _ (by omega) ?_
    split
    · have h3 : (300 : Int32).toInt = 300 := by decide
      have hi2 : (Int32.ofNat i).toInt = i := i32_toInt (by omega)
      rw [i32_add (by omega) (by omega)]
      omega
    · exact hx
theorem ywc_ge (T : Nat → Int32) (p l : Nat) : 299 ≤ (ywc T p l).toInt := ywd_ge yws 0 299 (by decide) (by decide)
theorem ykn_1 {t : Int32} (h : 299 ≤ t.toInt) : ykn t = 1 := by
  have e : ∀ k : Int32, k.toInt < 299 → ¬ t = k := fun k hk z => by
    rw [z] at h
    omega
  unfold ykn
  rw [if_neg (e 256 (by decide)), if_neg (e 257 (by decide)), if_neg (fun z => by
    rcases z with z | z
    · exact e 258 (by decide) z
    · exact e 259 (by decide) z), if_pos (show (299 : Int32) ≤ t from i32_le.mpr h)]
theorem ysgn_iff {c : Int32} (h : 0 ≤ c.toInt ∧ c.toInt ≤ 255) : ysgn c = true ↔ (c = 59 ∨ c = 40 ∨ c = 41 ∨ c = 43 ∨ c = 45 ∨ c = 42 ∨ c = 47 ∨ c = 60 ∨ c = 61) := by
  have e : ∀ k : Int32, 255 < k.toInt → ¬ c = k := fun k hk z => by
    rw [z] at h
    omega
  unfold ysgn
  rw [decide_eq_true_eq]
  refine ⟨fun z => ?_, fun z => ?_⟩
  · rcases z with z | z | z | z
    · exact Or.inl z
    · exact Or.inr (Or.inl z)
    · exact Or.inr (Or.inr (Or.inl z))
    · unfold zrank at z
      by_cases c1 : c = 42
      · simp [c1]
      by_cases c2 : c = 43
      · simp [c2]
      by_cases c3 : c = 45
      · simp [c3]
      by_cases c4 : c = 47
      · simp [c4]
      by_cases c5 : c = 60
      · simp [c5]
      by_cases c6 : c = 61
      · simp [c6]
      rw [if_neg c1, if_neg c2, if_neg c3, if_neg c4, if_neg c5, if_neg c6, if_neg (e 304 (by decide)), if_neg (e 305 (by decide)), if_neg (e 306 (by decide))] at z
      exact absurd (show (0 : Int32) ≤ 0 by decide) z
  · rcases z with z | z | z | z | z | z | z | z | z <;> subst z <;> decide
theorem step_tail9 (xs : Nat → Int32) (L d : Nat) (J : Nat → Nat → Int64) (X : XH) (T : Nat → Int32) (n p : Nat) (hn : n ≤ 400) (hp : p ≤ n) (hb : ∀ i, i < n → 0 ≤ (T i).toInt ∧ (T i).toInt ≤ 255) (M0 M : Nat → Nat → Int32) (hM : yf61 [58, 60, 61, 62, 63, 64] M0 M) (hT : M 104 = T) (h59 : M 61 59 = Int32.ofNat n) (h58 : M 61 58 = Int32.ofNat p) (h63 : M 61 63 = Int32.ofNat p) : ∃ M', zth xs L (d + 1 + 5) 161 (zseg (zE xs L (d + 1 + 5) 161) (zC 161) 677 (zB161_3.drop 11) [(0, .ref 61)] [.int (yby T n p)] (zmk M J X)) = some (.inr none, zmk M' J X) ∧ ysm9 M0 M' (ylxE T n p) := by
  rw [T161_3_11_677 xs L (d + 1)]
  unfold ysm9 ylxE
  by_cases c : n ≤ p
  · have e : yby T n p = -1 := if_pos c
    rw [e, if_neg (show ¬ decide (¬ (-1 : Int32) = -1) = true by decide), if_pos c]
    refine ⟨_, rfl, yf61_up (yf61_up hM (by decide)) (by decide), (zup_k (by decide)).trans ((zup_k (by decide)).trans h63), (zup_k (by decide)).trans ((zup_k (by decide)).trans h58), zup_at.trans h58, (zup_k (by decide)).trans zup_at, fun z => absurd (show ykn 256 = 3 from z) (by decide), fun z => absurd (show (256 : Int32) = 258 from z) (by decide)⟩
  have e : yby T n p = T p := if_neg c
  have hr := hb p (by omega)
  rw [e, if_neg c, if_pos (decide_eq_true (show ¬ T p = -1 from fun z => by
    rw [z] at hr
    exact absurd hr.1 (by decide)))]
  by_cases q2 : ¬ T p < 97 ∧ ¬ 122 < T p
  · rw [if_neg (fun z => (zbi_eq0.mp (of_decide_eq_true z)) q2), if_pos (show yP2 (T p) = true from decide_eq_true q2), zth_go]
    obtain ⟨M', s1, s2, s3, s4, s5⟩ := word_m xs L d J X T n hn (T p) (n - p) p M (by omega) hT h59 h58
    have hg := ywc_ge T p (yspn yP2 T (n - p) p - p)
    have hk := ykn_1 hg
    refine ⟨M', s1, yf61_tr hM s2 (by decide), ?_, s3, s4, ?_, fun z => ?_, fun z => ?_⟩
    · rw [s2.2 63 (by decide)]
      exact h63
    · show _ = ykn (ywc T p _)
      rw [s5, hk]
    · have z : ykn (ywc T p (yspn yP2 T (n - p) p - p)) = 3 := z
      rw [hk] at z
      exact absurd z (by decide)
    · have z : ywc T p (yspn yP2 T (n - p) p - p) = 258 := z
      rw [z] at hg
      exact absurd hg (by decide)
  rw [if_pos (decide_eq_true (zbi_eq0.mpr q2)), if_neg (show ¬ yP2 (T p) = true from fun z => q2 (of_decide_eq_true z))]
  by_cases q3 : ¬ T p < 48 ∧ ¬ 57 < T p
  · rw [if_neg (fun z => (zbi_eq0.mp (of_decide_eq_true z)) q3), if_pos (show yP3 (T p) = true from decide_eq_true q3), zth_go]
    obtain ⟨M', s1, s2, s3, s4, s5, s6⟩ := num_m xs L d J X T n p hn (T p) (n - p) p (zup M 61 62 0) (by omega) (Nat.le_refl _) hT ((zup_k (by decide)).trans h59) ((zup_k (by decide)).trans h58) (by
      rw [Nat.sub_self]
      exact zup_at)
    have rg := yspn_rg yP3 T (n - p) p
    refine ⟨M', s1, yf61_tr (yf61_up hM (by decide)) s2 (by decide), ?_, s3, s4, ?_, fun z => ?_, fun z => ?_⟩
    · rw [s2.2 63 (by decide)]
      exact (zup_k (by decide)).trans h63
    · show _ = ykn (if yspn yP3 T (n - p) p - p ≤ 5 then 258 else 259)
      rw [s5]
      split <;> rfl
    · have z : ykn (if yspn yP3 T (n - p) p - p ≤ 5 then 258 else 259) = 3 := z
      split at z <;> exact absurd z (by decide)
    · have z : (if yspn yP3 T (n - p) p - p ≤ 5 then (258 : Int32) else 259) = 258 := z
      by_cases c5 : yspn yP3 T (n - p) p - p ≤ 5
      · show _ = ynv T p (yspn yP3 T (n - p) p - p)
        rw [s6]
        exact (ynm_nv _ c5 (fun i hi => yspn_all yP3 T (n - p) p (p + i) (by omega) (by omega))).1
      · rw [if_neg c5] at z
        exact absurd z (by decide)
  rw [if_pos (decide_eq_true (zbi_eq0.mpr q3)), if_neg (show ¬ yP3 (T p) = true from fun z => q3 (of_decide_eq_true z))]
  have hi := ysgn_iff hr
  have fin : ∀ k : Int32, ∀ t : Int32, ykn t = k → (k = 3 → t = T p) → ¬ t = 258 → yf61 [58, 60, 61, 62, 63, 64] M0 (zup (zup (zup (zup M 61 58 (Int32.ofNat p + 1)) 61 60 k) 61 61 (T p)) 61 64 (Int32.ofNat p + 1)) ∧ zup (zup (zup (zup M 61 58 (Int32.ofNat p + 1)) 61 60 k) 61 61 (T p)) 61 64 (Int32.ofNat p + 1) 61 63 = Int32.ofNat p ∧ zup (zup (zup (zup M 61 58 (Int32.ofNat p + 1)) 61 60 k) 61 61 (T p)) 61 64 (Int32.ofNat p + 1) 61 58 = Int32.ofNat (p + 1) ∧ zup (zup (zup (zup M 61 58 (Int32.ofNat p + 1)) 61 60 k) 61 61 (T p)) 61 64 (Int32.ofNat p + 1) 61 64 = Int32.ofNat (p + 1) ∧ zup (zup (zup (zup M 61 58 (Int32.ofNat p + 1)) 61 60 k) 61 61 (T p)) 61 64 (Int32.ofNat p + 1) 61 60 = ykn t ∧ (ykn t = 3 → zup (zup (zup (zup M 61 58 (Int32.ofNat p + 1)) 61 60 k) 61 61 (T p)) 61 64 (Int32.ofNat p + 1) 61 61 = t) ∧ (t = 258 → zup (zup (zup (zup M 61 58 (Int32.ofNat p + 1)) 61 60 k) 61 61 (T p)) 61 64 (Int32.ofNat p + 1) 61 62 = 0) := fun k t h1 h2 h3 => by
    rw [nat_succ]
    refine ⟨yf61_up (yf61_up (yf61_up (yf61_up hM (by decide)) (by decide)) (by decide)) (by decide), (zup_k (by decide)).trans ((zup_k (by decide)).trans ((zup_k (by decide)).trans ((zup_k (by decide)).trans h63))), (zup_k (by decide)).trans ((zup_k (by decide)).trans ((zup_k (by decide)).trans zup_at)), zup_at, ((zup_k (by decide)).trans ((zup_k (by decide)).trans zup_at)).trans h1.symm, fun z => ?_, fun z => absurd z h3⟩
    exact ((zup_k (by decide)).trans zup_at).trans (h2 (h1.symm.trans z)).symm
  rw [h58]
  by_cases q4 : ysgn (T p) = true
  · rw [if_pos q4]
    have q5 := hi.mp q4
    have k3 : ykn (T p) = 3 := by
      rcases q5 with z | z | z | z | z | z | z | z | z <;> rw [z] <;> decide
    have k258 : ¬ T p = 258 := fun z => by
      rw [z] at hr
      exact absurd hr.2 (by decide)
    have F := fin 3 (T p) k3 (fun _ => rfl) k258
    by_cases z1 : T p = 59
    · rw [if_pos (decide_eq_true z1)]
      exact ⟨_, rfl, F⟩
    rw [if_neg (fun z => z1 (of_decide_eq_true z))]
    by_cases z2 : T p = 40
    · rw [if_pos (decide_eq_true z2)]
      exact ⟨_, rfl, F⟩
    rw [if_neg (fun z => z2 (of_decide_eq_true z))]
    by_cases z3 : T p = 41
    · rw [if_pos (decide_eq_true z3)]
      exact ⟨_, rfl, F⟩
    rw [if_neg (fun z => z3 (of_decide_eq_true z))]
    by_cases z4 : T p = 43
    · rw [if_pos (decide_eq_true z4)]
      exact ⟨_, rfl, F⟩
    rw [if_neg (fun z => z4 (of_decide_eq_true z))]
    by_cases z5 : T p = 45
    · rw [if_pos (decide_eq_true z5)]
      exact ⟨_, rfl, F⟩
    rw [if_neg (fun z => z5 (of_decide_eq_true z))]
    by_cases z6 : T p = 42
    · rw [if_pos (decide_eq_true z6)]
      exact ⟨_, rfl, F⟩
    rw [if_neg (fun z => z6 (of_decide_eq_true z))]
    by_cases z7 : T p = 47
    · rw [if_pos (decide_eq_true z7)]
      exact ⟨_, rfl, F⟩
    rw [if_neg (fun z => z7 (of_decide_eq_true z))]
    by_cases z8 : T p = 60
    · rw [if_pos (decide_eq_true z8)]
      exact ⟨_, rfl, F⟩
    rw [if_neg (fun z => z8 (of_decide_eq_true z)), if_neg (fun z => (of_decide_eq_true z) (by
      rcases q5 with y | y | y | y | y | y | y | y | y
      · exact absurd y z1
      · exact absurd y z2
      · exact absurd y z3
      · exact absurd y z4
      · exact absurd y z5
      · exact absurd y z6
      · exact absurd y z7
      · exact absurd y z8
      · exact y))]
    exact ⟨_, rfl, F⟩
  · rw [if_neg q4]
    have no : ∀ k, (k = 59 ∨ k = 40 ∨ k = 41 ∨ k = 43 ∨ k = 45 ∨ k = 42 ∨ k = 47 ∨ k = 60 ∨ k = 61) → ¬ T p = k := fun k hk z => q4 (hi.mpr (by
      rw [z]
      exact hk))
    have F := fin 4 257 (by decide) (fun z => absurd z (by decide)) (by decide)
    rw [if_neg (fun z => no 59 (by decide) (of_decide_eq_true z)), if_neg (fun z => no 40 (by decide) (of_decide_eq_true z)), if_neg (fun z => no 41 (by decide) (of_decide_eq_true z)), if_neg (fun z => no 43 (by decide) (of_decide_eq_true z)), if_neg (fun z => no 45 (by decide) (of_decide_eq_true z)), if_neg (fun z => no 42 (by decide) (of_decide_eq_true z)), if_neg (fun z => no 47 (by decide) (of_decide_eq_true z)), if_neg (fun z => no 60 (by decide) (of_decide_eq_true z)), if_pos (decide_eq_true (no 61 (by decide)))]
    exact ⟨_, rfl, F⟩
theorem step_loop (xs : Nat → Int32) (L d : Nat) (J : Nat → Nat → Int64) (X : XH) (T : Nat → Int32) (n : Nat) (hn : n ≤ 400) (hb : ∀ i, i < n → 0 ≤ (T i).toInt ∧ (T i).toInt ≤ 255) : ∀ (f b : Nat) (M : Nat → Nat → Int32), b + f = n → M 104 = T → M 61 59 = Int32.ofNat n → M 61 58 = Int32.ofNat b → ∃ M', zgo xs L (d + 1 + 5) 161 1 [(0, .ref 61)] (zmk M J X) = some (.inr none, zmk M' J X) ∧ ysm9 M M' (ylxE T n (yspn yP1 T f b)) := by
  have go : ∀ (b : Nat) (M : Nat → Nat → Int32), b ≤ n → M 104 = T → M 61 59 = Int32.ofNat n → M 61 58 = Int32.ofNat b → ¬ yby T n b = 32 → ¬ yby T n b = 10 → ∃ M', zgo xs L (d + 1 + 5) 161 1 [(0, .ref 61)] (zmk M J X) = some (.inr none, zmk M' J X) ∧ ysm9 M M' (ylxE T n b) := fun b M hbn hT h59 h58 n1 n2 => by
    obtain ⟨M', t1, t2⟩ := step_tail9 xs L d J X T n b hn hbn hb M (zup (zup M 61 63 (Int32.ofNat b)) 61 61 0) (yf61_up (yf61_up yf61_rfl (by decide)) (by decide)) hT ((zup_k (by decide)).trans ((zup_k (by decide)).trans h59)) ((zup_k (by decide)).trans ((zup_k (by decide)).trans h58)) ((zup_k (by decide)).trans zup_at)
    have b3 := byte_m xs L (d + 1 + 5) (by omega) (zup (zup M 61 63 (Int32.ofNat b)) 61 61 0) J X T n b hT ((zup_k (by decide)).trans ((zup_k (by decide)).trans h59)) hn hbn
    refine ⟨M', ?_, t2⟩
    rw [zgo_q, S161_1 xs L (d + 1), h58, byte_m xs L (d + 1 + 5) (by omega) M J X T n b hT h59 hn hbn, zci_i, T161_1_4_696 xs L (d + 1), if_neg (fun z => n1 (of_decide_eq_true z)), h58, byte_m xs L (d + 1 + 5) (by omega) M J X T n b hT h59 hn hbn, zci_i, T161_1_10_690 xs L (d + 1), if_pos (decide_eq_true n2), h58, b3, zci_i]
    exact t1
  intro f
  induction f with
  | zero =>
    intro b M hbf hT h59 h58
    have e : yby T n b = -1 := if_pos (by omega)
    exact go b M (by omega) hT h59 h58 (by rw [e]; decide) (by rw [e]; decide)
  | succ f ih =>
    intro b M hbf hT h59 h58
    have e : yby T n b = T b := if_neg (by omega)
    by_cases c : T b = 32 ∨ T b = 10
    · have ey : yspn yP1 T (f + 1) b = yspn yP1 T f (b + 1) := if_pos (decide_eq_true c)
      obtain ⟨M', q1, q2⟩ := ih (b + 1) (zup M 61 58 (Int32.ofNat (b + 1))) (by omega) hT ((zup_k (by decide)).trans h59) zup_at
      rw [ey]
      refine ⟨M', Eq.trans ?_ q1, yf61_tr (yf61_up yf61_rfl (by decide)) q2.1 (fun _ h => h), q2.2⟩
      rw [zgo_q, S161_1 xs L (d + 1), h58, byte_m xs L (d + 1 + 5) (by omega) M J X T n b hT h59 hn (by omega), zci_i, T161_1_4_696 xs L (d + 1), e]
      by_cases c1 : T b = 32
      · rw [if_pos (decide_eq_true c1), h58, zth_go, nat_succ]
      · rw [if_neg (fun z => c1 (of_decide_eq_true z)), h58, byte_m xs L (d + 1 + 5) (by omega) M J X T n b hT h59 hn (by omega), zci_i, T161_1_10_690 xs L (d + 1), e, if_neg (fun z => (of_decide_eq_true z) (c.resolve_left c1)), h58, zth_go, nat_succ]
    · have ey : yspn yP1 T (f + 1) b = b := if_neg (fun z => c (of_decide_eq_true z))
      rw [ey]
      exact go b M (by omega) hT h59 h58 (by rw [e]; exact fun z => c (Or.inl z)) (by rw [e]; exact fun z => c (Or.inr z))
