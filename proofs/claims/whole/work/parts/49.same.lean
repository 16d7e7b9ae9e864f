/-! THE PURE PART: both sides let each signal count alike. -/
/-- the decision of place t is about s, known at k, not refused -/
abbrev zPt (I : Nat → Nat → Int32) (k : Int32) (s t : Nat) : Prop := (I 22 (nv (I 25 t))).toInt ≤ k.toInt ∧ ¬ I 23 (nv (I 25 t)) = 0 ∧ nv (I 21 (nv (I 25 t))) = s
def zgt (I : Nat → Nat → Int32) (k : Int32) (s : Nat) : Nat → Option Nat
  | 0 => none
  | i + 1 => if zPt I k s i then some i else zgt I k s i
theorem zgt_some {I : Nat → Nat → Int32} {k : Int32} {s : Nat} : ∀ {e t : Nat}, zgt I k s e = some t → t < e ∧ zPt I k s t ∧ ∀ u, u < e → zPt I k s u → u ≤ t
  | 0, t, h => by cases h
  | e + 1, t, h => by
    unfold zgt at h
    by_cases q : zPt I k s e
    · rw [if_pos q] at h
      cases h
      exact ⟨by omega, q, fun u hu _ => by omega⟩
    · rw [if_neg q] at h
      obtain ⟨h1, h2, h3⟩ := zgt_some h
      refine ⟨by omega, h2, fun u hu hP => ?_⟩
      by_cases c : u = e
      · exact absurd (c ▸ hP) q
      · exact h3 u (by omega) hP
theorem zgt_none {I : Nat → Nat → Int32} {k : Int32} {s : Nat} : ∀ {e : Nat}, zgt I k s e = none → ∀ u, u < e → ¬ zPt I k s u
  | 0, _, u, hu => absurd hu (Nat.not_lt_zero u)
  | e + 1, h, u, hu => by
    unfold zgt at h
    by_cases q : zPt I k s e
    · rw [if_pos q] at h
      cases h
    · rw [if_neg q] at h
      by_cases c : u = e
      · rw [c]
        exact q
      · exact zgt_none h u (by omega)
theorem zdw_gt {I : Nat → Nat → Int32} {k : Int32} {f : Nat → Int32} {s : Nat} : ∀ e, zdw I k f e s = match zgt I k s e with
    | none => f s
    | some t => if I 23 (nv (I 25 t)) = 2 then I 24 (nv (I 25 t)) else -1
  | 0 => rfl
  | e + 1 => by
    have ih := zdw_gt (I := I) (k := k) (f := f) (s := s) e
    by_cases c1 : (I 22 (nv (I 25 e))).toInt ≤ k.toInt ∧ ¬ I 23 (nv (I 25 e)) = 0
    · have w : zdw I k f (e + 1) = zset (zdw I k f e) (nv (I 21 (nv (I 25 e)))) (if I 23 (nv (I 25 e)) = 2 then I 24 (nv (I 25 e)) else -1) := if_pos c1
      rw [w]
      by_cases c2 : nv (I 21 (nv (I 25 e))) = s
      · have g : zgt I k s (e + 1) = some e := if_pos ⟨c1.1, c1.2, c2⟩
        rw [g, c2, zset_at]
      · have g : zgt I k s (e + 1) = zgt I k s e := if_neg (fun z => c2 z.2.2)
        rw [g, zset_ne (Ne.symm c2)]
        exact ih
    · have w : zdw I k f (e + 1) = zdw I k f e := if_neg c1
      have g : zgt I k s (e + 1) = zgt I k s e := if_neg (fun z => c1 ⟨z.1, z.2.1⟩)
      rw [w, g]
      exact ih
theorem zlst_none {I : Nat → Nat → Int32} {k : Int32} {s : Nat} : ∀ {m : Nat}, zlst I k s m = none → ∀ c, c < m → ¬ zQd I k s c
| 0, _, c, hc => absurd hc (Nat.not_lt_zero c)
| m + 1, h, c, hc => by
  unfold zlst at h
  by_cases q : zQd I k s m
  · rw [if_pos q] at h
    cases e : zlst I k s m with
    | none =>
      rw [e] at h
      cases h
    | some b =>
      rw [e] at h
      have h : (if (I 81 m).toInt ≤ (I 81 b).toInt then some b else some m) = none := h
      split at h <;> cases h
  · rw [if_neg q] at h
    by_cases cm : c = m
    · rw [cm]
      exact q
    · exact zlst_none h c (by omega)
theorem zlst_some {I : Nat → Nat → Int32} {k : Int32} {s : Nat} : ∀ {m d : Nat}, zlst I k s m = some d → ∀ c, c < m → zQd I k s c → (I 81 c).toInt ≤ (I 81 d).toInt
  | 0, d, h, c, hc => absurd hc (Nat.not_lt_zero c)
  | m + 1, d, h, c, hc => by
    unfold zlst at h
    intro hQ
    by_cases q : zQd I k s m
    · rw [if_pos q] at h
      cases e : zlst I k s m with
      | none =>
        rw [e] at h
        cases h
        by_cases cm : c = m
        · rw [cm]
          exact Int.le_refl _
        · exact absurd hQ (zlst_none e c (by omega))
      | some b =>
        rw [e] at h
        have h : (if (I 81 m).toInt ≤ (I 81 b).toInt then some b else some m) = some d := h
        by_cases c5 : (I 81 m).toInt ≤ (I 81 b).toInt
        · rw [if_pos c5] at h
          cases h
          by_cases cm : c = m
          · rw [cm]
            exact c5
          · exact zlst_some e c (by omega) hQ
        · rw [if_neg c5] at h
          cases h
          by_cases cm : c = m
          · rw [cm]
            exact Int.le_refl _
          · have := zlst_some e c (by omega) hQ
            omega
    · rw [if_neg q] at h
      by_cases cm : c = m
      · exact absurd (cm ▸ hQ) q
      · exact zlst_some h c (by omega) hQ
/-- the class's last decision about a signal is the model's -/
theorem last_same {I : Nat → Nat → Int32} (hD : PDis I) (k : Int32) (s : Nat) (hs : s < 300) : (zgt I k s (nv (I 61 21)) = none ∧ zlst I k s (nv (I 61 20)) = none) ∨ ∃ t d, zgt I k s (nv (I 61 21)) = some t ∧ zlst I k s (nv (I 61 20)) = some d ∧ nv (I 25 t) = d ∧ d < nv (I 61 20) := by
  obtain ⟨⟨h1, h2, h3⟩, ⟨k1, k2, k3⟩, ⟨h4, h5, h6, h7⟩, h8, h9⟩ := hD
  have n20 := nv_int h2
  have n21 := nv_int k2
  have PQ : ∀ t, t < nv (I 61 21) → zPt I k s t → ∃ d, d < nv (I 61 20) ∧ nv (I 25 t) = d ∧ zQd I k s d ∧ I 81 d = Int32.ofNat (t + 1) := by
    intro t ht hP
    obtain ⟨d, q1, q2, q3, q4⟩ := h9 t ht
    have e : nv (I 25 t) = d := by rw [q2, nv_nat (by omega)]
    unfold zPt at hP
    rw [e, h4, h5, h6] at hP
    refine ⟨d, q1, e, ⟨?_, q3, hP.1, hP.2.1⟩, q4⟩
    rw [← hP.2.2, nv_of (h8 d q1).1.1]
  have QP : ∀ d, d < nv (I 61 20) → zQd I k s d → ∃ t, t < nv (I 61 21) ∧ nv (I 25 t) = d ∧ zPt I k s t ∧ I 81 d = Int32.ofNat (t + 1) := by
    intro d hd hQ
    rcases (h8 d hd).2 with z | ⟨_, _, _, t, t1, t2, t3⟩
    · exact absurd z hQ.2.1
    · have e : nv (I 25 t) = d := by rw [t3, nv_nat (by omega)]
      refine ⟨t, t1, e, ?_, t2⟩
      unfold zPt
      rw [e, h4, h5, h6]
      refine ⟨hQ.2.2.1, hQ.2.2.2, ?_⟩
      rw [hQ.1, nv_nat (by omega)]
  cases eg : zgt I k s (nv (I 61 21)) with
  | none =>
    cases el : zlst I k s (nv (I 61 20)) with
    | none => exact Or.inl ⟨rfl, rfl⟩
    | some d =>
      obtain ⟨t, t1, _, t3, _⟩ := QP d (zlst_lt el).1 (zlst_lt el).2
      exact absurd t3 (zgt_none eg t t1)
  | some t =>
    obtain ⟨g1, g2, g3⟩ := zgt_some eg
    obtain ⟨d', d1, d2, d3, d4⟩ := PQ t g1 g2
    cases el : zlst I k s (nv (I 61 20)) with
    | none => exact absurd d3 (zlst_none el d' d1)
    | some d =>
      right
      obtain ⟨u, u1, u2, u3, u4⟩ := QP d (zlst_lt el).1 (zlst_lt el).2
      have := g3 u u1 u3
      have hle := zlst_some el d' d1 d3
      rw [d4, u4, i32_toInt (by omega), i32_toInt (by omega)] at hle
      have : u = t := by omega
      subst this
      exact ⟨u, d, rfl, rfl, u2, (zlst_lt el).1⟩
/-- so the class's road of a signal is the model's, or none where it was struck out -/
theorem W1_same {I : Nat → Nat → Int32} (hS : PSig I) (hD : PDis I) (k : Int32) (s : Nat) (hs : s < nv (I 61 19)) : (zndel I (zlst I k s (nv (I 61 20))) ∧ zW1 I k (nv (I 61 21)) s = zrn I s (zlst I k s (nv (I 61 20)))) ∨ (¬ zndel I (zlst I k s (nv (I 61 20))) ∧ zW1 I k (nv (I 61 21)) s = -1) := by
  have n19 := nv_int hS.1.2.1
  have h300 : s < 300 := by
    have := hS.1.2.2
    omega
  unfold zW1
  rw [zdw_gt]
  rcases last_same hD k s h300 with ⟨e1, e2⟩ | ⟨t, d, e1, e2, e3, e4⟩
  · rw [e1, e2]
    refine Or.inl ⟨trivial, ?_⟩
    show (if s < 300 then I 28 s else I 33 s) = I 75 s
    rw [if_pos h300, hS.2.1.2.1]
  · have hq := (zlst_lt e2).2
    obtain ⟨_, _, ⟨_, _, h6, h7⟩, h8, _⟩ := hD
    rw [e1, e2]
    show _ ∧ (if I 23 (nv (I 25 t)) = 2 then I 24 (nv (I 25 t)) else -1) = zrn I s (some d) ∨ _ ∧ (if I 23 (nv (I 25 t)) = 2 then I 24 (nv (I 25 t)) else -1) = -1
    rw [e3, h6, h7]
    by_cases c : I 82 d = 2
    · refine Or.inl ⟨?_, ?_⟩
      · show ¬ I 82 d = 1
        rw [c]
        decide
      · rw [if_pos c]
        exact (if_pos c).symm
    · refine Or.inr ⟨fun z => ?_, if_neg c⟩
      have z : ¬ I 82 d = 1 := z
      rcases (h8 d e4).2 with w | ⟨_, w, _⟩
      · exact hq.2.1 w
      · have c0 : ¬ (I 82 d).toInt = 0 := fun y => hq.2.2.2 (i32_eq.mpr y)
        have c1 : ¬ (I 82 d).toInt = 1 := fun y => z (i32_eq.mpr y)
        have c2 : ¬ (I 82 d).toInt = 2 := fun y => c (i32_eq.mpr y)
        omega
