/-! THE PURE PART: all that the model knows; that each signal counts alike on both sides. -/
theorem zlst_cg {I H : Nat → Nat → Int32} (h79 : H 79 = I 79) (h80 : H 80 = I 80) (h81 : H 81 = I 81) (h82 : H 82 = I 82) (k : Int32) (s : Nat) : ∀ m, zlst H k s m = zlst I k s m
  | 0 => rfl
  | m + 1 => by
    have ih := zlst_cg h79 h80 h81 h82 k s m
    have hQ : zQd H k s m ↔ zQd I k s m := by
      unfold zQd
      rw [h79, h80, h82]
    show (if zQd H k s m then (match zlst H k s m with
      | none => some m
      | some c => if (H 81 m).toInt ≤ (H 81 c).toInt then some c else some m) else zlst H k s m) = (if zQd I k s m then (match zlst I k s m with
      | none => some m
      | some c => if (I 81 m).toInt ≤ (I 81 c).toInt then some c else some m) else zlst I k s m)
    rw [ih, h81]
    by_cases c : zQd I k s m
    · rw [if_pos c, if_pos (hQ.mpr c)]
    · rw [if_neg c, if_neg (fun z => c (hQ.mp z))]
/-- where the model lets a signal stand as known at k; whether it counts there -/
def zrnS (I : Nat → Nat → Int32) (k : Int32) (s : Nat) : Int32 := zrn I s (zlst I k s (nv (I 61 20)))
noncomputable def zcfS (I : Nat → Nat → Int32) (k : Int32) (s : Nat) : Int32 := zcf I k s (zlst I k s (nv (I 61 20))) (zlateM I (zrnS I k s) (I 76 s) k)
/-- the roads of the lands, and the numbers of terms, within their bounds -/
def PTx (I : Nat → Nat → Int32) : Prop := ∀ l, l < 9 → 0 ≤ (I 92 l).toInt ∧ (I 92 l).toInt ≤ 4
theorem rn_rg {I : Nat → Nat → Int32} (hS : PSig I) (hD : PDis I) (hR : PRoad I) (hL : PLand I) (k : Int32) (s : Nat) (hs : s < nv (I 61 19)) : (0 ≤ (zrnS I k s).toInt ∧ (zrnS I k s).toInt < (I 61 4).toInt) ∧ 0 ≤ (I 65 (nv (zrnS I k s))).toInt ∧ (I 65 (nv (zrnS I k s))).toInt < 9 := by
  have h1 : 0 ≤ (zrnS I k s).toInt ∧ (zrnS I k s).toInt < (I 61 4).toInt := by
    have h75 := (hS.2.2.1 s hs).2.1
    unfold zrnS
    cases e : zlst I k s (nv (I 61 20)) with
    | none => exact h75
    | some d =>
      have hq := zlst_lt e
      show 0 ≤ (if I 82 d = 2 then I 83 d else I 75 s).toInt ∧ (if I 82 d = 2 then I 83 d else I 75 s).toInt < _
      by_cases c : I 82 d = 2
      · rw [if_pos c]
        rcases (hD.2.2.2.1 d hq.1).2 with w | ⟨_, _, w, _⟩
        · exact absurd w hq.2.2.1
        · exact w c
      · rw [if_neg c]
        exact h75
  refine ⟨h1, ?_⟩
  have n1 := nv_int h1.1
  have n4 := nv_int hR.1.2.1
  have h2 := (hR.2.2.1 (nv (zrnS I k s)) (by omega)).2.2.1
  have := hL.2.2
  exact ⟨h2.1, by omega⟩
/-- the class's place of a signal is the model's -/
theorem count_same {I : Nat → Nat → Int32} (hS : PSig I) (hD : PDis I) (hR : PRoad I) (hL : PLand I) (k : Int32) (s : Nat) (hs : s < nv (I 61 19)) : zwf I I k (zW1 I k (nv (I 61 21))) s = if zcfS I k s = 1 then zrnS I k s else -1 := by
  obtain ⟨_, h2⟩ := rn_rg hS hD hR hL k s hs
  have h1 := (rn_rg hS hD hR hL k s hs).1
  have hS0 := hS
  obtain ⟨_, ⟨_, _, e29, e30, e31⟩, _⟩ := hS
  have e4 : I 4 = I 65 := hR.2.1.2.2.1
  have hcf : zcfS I k s = 1 ↔ zknM I k s ∧ zndel I (zlst I k s (nv (I 61 20))) ∧ (I 77 s - I 76 s).toInt ≤ (zlateM I (zrnS I k s) (I 76 s) k).toInt := by
    unfold zcfS zcf
    exact @zbi_eq1 _ (Classical.propDecidable _)
  have hS' := hs
  have hw := W1_same hS0 hD k s hs
  unfold zwf
  have ekn : zkn I k s ↔ zknM I k s := by
    unfold zkn zknM
    rw [e30, e31]
  rcases hw with ⟨w1, w2⟩ | ⟨w1, w2⟩
  · have w2 : zW1 I k (nv (I 61 21)) s = zrnS I k s := w2
    rw [w2]
    have hne : ¬ zrnS I k s = -1 := fun z => by
      rw [z, i32_m1] at h1
      omega
    have el : zlateR I I (zrnS I k s) (I 29 s) k = zlateM I (zrnS I k s) (I 76 s) k := by
      unfold zlateR zlateM zland zlandM
      rw [e4, e29]
    rw [el]
    by_cases c : zcfS I k s = 1
    · have c2 := hcf.mp c
      rw [if_pos c, if_pos ⟨ekn.mpr c2.1, Or.inr (by rw [e30, e29]; exact c2.2.2)⟩]
    · rw [if_neg c, if_neg (fun z => c (hcf.mpr ⟨ekn.mp z.1, w1, by
        have := z.2.resolve_left hne
        rw [e30, e29] at this
        exact this⟩))]
  · rw [w2, if_neg (fun z => w1 (hcf.mp z).2.1)]
    split <;> rfl
theorem zup_two {I : Nat → Nat → Int32} {a b : Nat → Int32} {i : Nat} {v w : Int32} : zup (zup (zov (zov I 108 a) 109 b) 108 i v) 109 i w = zov (zov I 108 (zset a i v)) 109 (zset b i w) := by
  funext x y
  unfold zup zov zset
  by_cases c : x = 109
  · subst c
    simp
  · by_cases c2 : x = 108
    · subst c2
      simp
    · simp [c, c2]
noncomputable def zJd (I : Nat → Nat → Int32) (k : Int32) (i : Nat) : Nat → Nat → Int32 := zov (zov I 108 (zpre (zrnS I k) (I 108) i)) 109 (zpre (zcfS I k) (I 109) i)
theorem judgeAll_loop (xs : Nat → Int32) (L d : Nat) (I : Nat → Nat → Int32) (J : Nat → Nat → Int64) (X : XH) (k : Int32) (hS : PSig I) (hD : PDis I) (hR : PRoad I) (hL : PLand I) (hX : PTx I) : ∀ (j i : Nat), i + j = nv (I 61 19) → zgo xs L (d + 7) 185 2 [(0, .ref 61), (1, .int k), (2, .int (Int32.ofNat i))] (zmk (zJd I k i) J X) = some (.inr none, zmk (zJd I k (nv (I 61 19))) J X)
  | 0, i, hi => by
    have hi : i = nv (I 61 19) := by omega
    subst hi
    have n19 := nv_int hS.1.2.1
    have h3 := hS.1.2.2
    have e1 : zJd I k (nv (I 61 19)) 61 19 = Int32.ofNat (nv (I 61 19)) := (nv_of hS.1.2.1).symm
    rw [zgo_q, S185_2 xs L (d + 2), e1, if_pos (decide_eq_true ((nat_le (by omega) (by omega)).mpr (Nat.le_refl _)))]
    rfl
  | j + 1, i, hi => by
    have ih := judgeAll_loop xs L d I J X k hS hD hR hL hX j (i + 1) (by omega)
    have n19 := nv_int hS.1.2.1
    have h3 := hS.1.2.2
    have n20 := nv_int hD.1.2.1
    have h20 := hD.1.2.2
    have e1 : zJd I k i 61 19 = Int32.ofNat (nv (I 61 19)) := (nv_of hS.1.2.1).symm
    obtain ⟨r1, r2⟩ := rn_rg hS hD hR hL k i (by omega)
    have h4 := hR.1.2.2
    have el : zlst (zJd I k i) k i (nv (I 61 20)) = zlst I k i (nv (I 61 20)) := zlst_cg (I := I) (H := zJd I k i) rfl rfl rfl rfl k i _
    have er : zrn (zJd I k i) i (zlst (zJd I k i) k i (nv (I 61 20))) = zrnS I k i := by
      rw [el]
      unfold zrnS
      cases zlst I k i (nv (I 61 20)) with
      | none => rfl
      | some c => rfl
    have hlM : zlandM I (zrnS I k i) < 9 := by
      have := nv_int r2.1
      unfold zlandM
      omega
    have q := judge_eq xs L (d + 2 + 5) (by omega) (zJd I k i) J X k i (nv (I 61 20)) (by omega) (nv_of hD.1.2.1).symm (by omega) (by rw [er]; omega) (by rw [er]; exact r2) (by rw [er]; exact hX _ hlM)
    rw [er] at q
    have ec : zcf (zJd I k i) k i (zlst (zJd I k i) k i (nv (I 61 20))) (zlateM (zJd I k i) (zrnS I k i) (zJd I k i 76 i) k) = zcfS I k i := by
      rw [el]
      unfold zcfS
      cases zlst I k i (nv (I 61 20)) with
      | none => rfl
      | some c => rfl
    rw [ec] at q
    have e2 : zup (zup (zJd I k i) 108 i (zrnS I k i)) 109 i (zcfS I k i) = zJd I k (i + 1) := by
      unfold zJd
      rw [zup_two, zpre_succ, zpre_succ]
    rw [e2] at q
    rw [zgo_q, S185_2 xs L (d + 2), e1, if_neg (fun z => by
      have := (nat_le (by omega) (by omega)).mp (of_decide_eq_true z)
      omega), q, zcw_v, T185_2_8_692 xs L (d + 2), zth_go, nat_succ]
    exact ih
/-- all that the model knows -/
noncomputable def zKm (I : Nat → Nat → Int32) (k : Int32) : Nat → Nat → Int32 := zov (zJd I k (nv (I 61 19))) 110 (zfar (zJd I k (nv (I 61 19))) (nv (I 61 4)))
theorem knowM_eq (xs : Nat → Int32) (L D : Nat) (hD : 10 ≤ D) (I : Nat → Nat → Int32) (J : Nat → Nat → Int64) (X : XH) (k : Int32) (hS : PSig I) (hDi : PDis I) (hR : PRoad I) (hL : PLand I) (hX : PTx I) : zev xs L D 184 [.ref 61, .int k] (zmk I J X) = some (.inr none, zmk (zKm I k) J X) := by
  obtain ⟨d, rfl⟩ := Nat.exists_eq_add_of_le hD
  rw [show 10 + d = d + 4 + 6 by omega]
  refine (zcS (S184_0 xs L (d + 4) I J X _)).trans ?_
  have q : zev xs L (d + 4 + 5) 185 [.ref 61, .int k] (zmk I J X) = some (.inr none, zmk (zJd I k (nv (I 61 19))) J X) := by
    refine (zcS (S185_0 xs L (d + 3) I J X _)).trans ?_
    rw [zth_go]
    have h := judgeAll_loop xs L (d + 1) I J X k hS hDi hR hL hX (nv (I 61 19)) 0 (by omega)
    have e : zJd I k 0 = I := by
      unfold zJd
      rw [zpre_0, zpre_0, zov_self, zov_self]
    rw [e] at h
    exact h
  have hr := PRoad_rds hR
  have q2 := zfar_eq xs L (d + 3) (zJd I k (nv (I 61 19))) J X (nv (I 61 4)) (nv_of hR.1.2.1).symm hr.1 hr.2
  rw [q, zcw_v, T184_0_3_697 xs L (d + 4), q2, zcw_v, T184_0_5_695 xs L (d + 4)]
  rfl
theorem zKm_far {I : Nat → Nat → Int32} {k : Int32} (hR : PRoad I) : zOKT (zed I (nv (I 61 4))) 268435456 (tb (zKm I k 110)) := by
  have hr := PRoad_rds hR
  exact zfar_OK (I := zJd I k (nv (I 61 19))) hr.1 hr.2
