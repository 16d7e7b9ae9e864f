/-! THE PURE PART: the same signals are double on both sides. -/
theorem zhtw_iff {H : Nat → Nat → Int32} {s n : Nat} {near : Int32} (hM : ∀ q, q < n → 0 ≤ (H 29 q).toInt ∧ (H 29 q).toInt ≤ 129599) (hs : s < n) (ho : ∀ p, p < n → nv (H 32 p) < n) (hsort : ∀ a b, a < b → b < n → (H 29 (nv (H 32 a))).toInt ≤ (H 29 (nv (H 32 b))).toInt) : ∀ i, i ≤ n → (zhtw H s near i = true ↔ ∃ j, j < i ∧ ¬ near < H 29 s - H 29 (nv (H 32 j)) ∧ ztwin H (nv (H 32 j)) s)
  | 0, _ => ⟨fun h => (by cases h), fun ⟨j, h, _⟩ => by omega⟩
  | i + 1, hi => by
    have ih := zhtw_iff (near := near) hM hs ho hsort i (by omega)
    have hsub : ∀ q, q < n → (H 29 s - H 29 q).toInt = (H 29 s).toInt - (H 29 q).toInt := fun q hq => by
      have a := hM s hs
      have b := hM q hq
      exact i32_sub (by omega) (by omega)
    show (if near < H 29 s - H 29 (nv (H 32 i)) then false else (decide (ztwin H (nv (H 32 i)) s) || zhtw H s near i)) = true ↔ _
    by_cases c : near < H 29 s - H 29 (nv (H 32 i))
    · rw [if_pos c]
      refine ⟨fun h => (by cases h), fun ⟨j, h1, h2, h3⟩ => ?_⟩
      exfalso
      have c := i32_lt.mp c
      have h2 : ¬ near.toInt < (H 29 s - H 29 (nv (H 32 j))).toInt := fun z => h2 (i32_lt.mpr z)
      rw [hsub _ (ho i (by omega))] at c
      rw [hsub _ (ho j (by omega))] at h2
      by_cases e : j = i
      · subst e
        omega
      · have := hsort j i (by omega) (by omega)
        omega
    · rw [if_neg c, Bool.or_eq_true, ih, decide_eq_true_eq]
      constructor
      · rintro (h | ⟨j, h1, h2, h3⟩)
        · exact ⟨i, by omega, c, h⟩
        · exact ⟨j, by omega, h2, h3⟩
      · rintro ⟨j, h1, h2, h3⟩
        by_cases e : j = i
        · exact Or.inl (e ▸ h3)
        · exact Or.inr ⟨j, by omega, h2, h3⟩
theorem zdb_at {V H : Nat → Nat → Int32} {k : Int32} {g : Nat → Int32} {n : Nat} (hinj : ∀ a b, a < b → b < n → nv (H 32 a) ≠ nv (H 32 b)) : ∀ m, m ≤ n → ∀ p, p < m → zdb V H k g m (nv (H 32 p)) = if ¬ H 33 (nv (H 32 p)) = -1 ∧ zhtw H (nv (H 32 p)) (znearR V H (H 33 (nv (H 32 p))) (H 29 (nv (H 32 p))) k) p = true then 1 else 0
  | 0, _, p, hp => absurd hp (Nat.not_lt_zero p)
  | m + 1, hm, p, hp => by
    unfold zdb
    by_cases c : p = m
    · rw [c, zset_at]
    · rw [zset_ne (hinj p m (by omega) (by omega))]
      exact zdb_at hinj m (by omega) p (by omega)
/-- of a signal that counts: the class calls it double where the model does -/
theorem double_same {I : Nat → Nat → Int32} (hN : PNow I) (hS : PSig I) (hD : PDis I) (hR : PRoad I) (hL : PLand I) (hF : PFleet I) (k : Int32) (s : Nat) (hs : s < nv (I 61 19)) (hc : zcfS I k s = 1) (g : Nat → Int32) (M : Nat → Nat → Int32) (h108 : ∀ q, q < nv (I 61 19) → M 108 q = zrnS I k q) (h109 : ∀ q, q < nv (I 61 19) → M 109 q = zcfS I k q) (h74 : M 74 = I 74) (h76 : M 76 = I 76) (h71 : M 71 = I 71) (hnear : znearM M (zrnS I k s) (I 76 s) k = znearM I (zrnS I k s) (I 76 s) k) : (zdb I (zov I 33 (zW2 I I k (nv (I 61 21)) (nv (I 61 19)))) k g (nv (I 61 19)) s = if zany (fun o => decide (zdp M s (znearM M (M 108 s) (M 76 s) k) o)) (nv (I 61 19)) 0 = true then 1 else 0) := by
  have hS0 := hS
  obtain ⟨⟨a1, a2, a3⟩, ⟨e27, _, e29, _, _⟩, h9, h10, h11, h12⟩ := hS
  have n19 := nv_int a2
  obtain ⟨p, hp, hps⟩ := h12 s hs
  have es : nv (I 32 p) = s := by rw [hps, nv_nat (by omega)]
  have e4 : I 4 = I 65 := hR.2.1.2.2.1
  have e13 : I 13 = I 71 := hF.2.2.2.2.2.2.1
  have hord : ∀ q, q < nv (I 61 19) → nv (I 32 q) < nv (I 61 19) ∧ (nv (I 32 q) : Int) = (I 32 q).toInt := fun q hq => by
    have := h10 q hq
    have := nv_int this.1
    omega
  have hinj : ∀ a b, a < b → b < nv (I 61 19) → nv (I 32 a) ≠ nv (I 32 b) := by
    intro a b hab hb z
    have q1 := hord a (by omega)
    have q2 := hord b hb
    have := h11 a b hab hb
    rw [z] at this
    omega
  have hW : ∀ q, q < nv (I 61 19) → zov I 33 (zW2 I I k (nv (I 61 21)) (nv (I 61 19))) 33 q = if zcfS I k q = 1 then zrnS I k q else -1 := by
    intro q hq
    rw [zov_at]
    exact (zpre_lt hq).trans (count_same hS0 hD hR hL k q hq)
  have hWs : zov I 33 (zW2 I I k (nv (I 61 21)) (nv (I 61 19))) 33 s = zrnS I k s := by
    rw [hW s hs, if_pos hc]
  obtain ⟨r1, r2⟩ := rn_rg hS0 hD hR hL k s hs
  have hne : ¬ zrnS I k s = -1 := fun z => by
    rw [z, i32_m1] at r1
    omega
  have h1 := zdb_at (V := I) (H := zov I 33 (zW2 I I k (nv (I 61 21)) (nv (I 61 19)))) (k := k) (g := g) (n := nv (I 61 19)) hinj (nv (I 61 19)) (Nat.le_refl _) p hp
  have h1 : zdb I (zov I 33 (zW2 I I k (nv (I 61 21)) (nv (I 61 19)))) k g (nv (I 61 19)) (nv (I 32 p)) = if ¬ zov I 33 (zW2 I I k (nv (I 61 21)) (nv (I 61 19))) 33 (nv (I 32 p)) = -1 ∧ zhtw (zov I 33 (zW2 I I k (nv (I 61 21)) (nv (I 61 19)))) (nv (I 32 p)) (znearR I (zov I 33 (zW2 I I k (nv (I 61 21)) (nv (I 61 19)))) (zov I 33 (zW2 I I k (nv (I 61 21)) (nv (I 61 19))) 33 (nv (I 32 p))) (I 29 (nv (I 32 p))) k) p = true then 1 else 0 := h1
  rw [es, hWs] at h1
  have hnr : znearR I (zov I 33 (zW2 I I k (nv (I 61 21)) (nv (I 61 19)))) (zrnS I k s) (I 29 s) k = znearM M (M 108 s) (M 76 s) k := by
    rw [h108 s hs, h76, hnear]
    show znear I (nv (I 4 (nv (zrnS I k s)))) (nv (I 92 (nv (I 4 (nv (zrnS I k s)))))) (I 29 s) k = znear I (nv (I 65 (nv (zrnS I k s)))) (nv (I 92 (nv (I 65 (nv (zrnS I k s)))))) (I 76 s) k
    rw [e4, e29]
  rw [hnr] at h1
  rw [h1]
  have hg3 := hN.2.2
  have hM : ∀ q, q < nv (I 61 19) → 0 ≤ (I 76 q).toInt ∧ (I 76 q).toInt ≤ 129599 := fun q hq => by
    have := (h9 q hq).2.2.1
    omega
  have hz := zhtw_iff (H := zov I 33 (zW2 I I k (nv (I 61 21)) (nv (I 61 19)))) (s := s) (n := nv (I 61 19)) (near := znearM M (M 108 s) (M 76 s) k) (by
    show ∀ q, q < nv (I 61 19) → 0 ≤ (I 29 q).toInt ∧ (I 29 q).toInt ≤ 129599
    rw [e29]
    exact hM) hs (fun q hq => (hord q hq).1) (by
    show ∀ a b, a < b → b < nv (I 61 19) → (I 29 (nv (I 32 a))).toInt ≤ (I 29 (nv (I 32 b))).toInt
    rw [e29]
    intro a b hab hb
    have := h11 a b hab hb
    omega) p (by omega)
  have hiff : zhtw (zov I 33 (zW2 I I k (nv (I 61 21)) (nv (I 61 19)))) s (znearM M (M 108 s) (M 76 s) k) p = true ↔ zany (fun o => decide (zdp M s (znearM M (M 108 s) (M 76 s) k) o)) (nv (I 61 19)) 0 = true := by
    rw [hz, zany_iff]
    generalize znearM M (M 108 s) (M 76 s) k = near
    have hsub : ∀ q, q < nv (I 61 19) → (I 76 s - I 76 q).toInt = (I 76 s).toInt - (I 76 q).toInt := fun q hq => by
      have a := hM s hs
      have b := hM q hq
      exact i32_sub (by omega) (by omega)
    have htw : ∀ o, o < nv (I 61 19) → (ztwin (zov I 33 (zW2 I I k (nv (I 61 21)) (nv (I 61 19)))) o s ↔ ¬ M 109 o = 0 ∧ ¬ M 74 o = M 74 s ∧ M 71 (nv (M 74 o)) = M 71 (nv (M 74 s)) ∧ M 108 o = M 108 s) := by
      intro o ho
      show (zov I 33 (zW2 I I k (nv (I 61 21)) (nv (I 61 19))) 33 o = zov I 33 (zW2 I I k (nv (I 61 21)) (nv (I 61 19))) 33 s ∧ ¬ I 27 o = I 27 s ∧ I 13 (nv (I 27 o)) = I 13 (nv (I 27 s))) ↔ _
      rw [hW o ho, hWs, e27, e13, h74, h71, h108 o ho, h108 s hs, h109 o ho]
      have c01 : zcfS I k o = 1 ∨ zcfS I k o = 0 := by
        unfold zcfS zcf
        exact (@zbi_01 _ (Classical.propDecidable _)).symm
      rcases c01 with c | c
      · rw [if_pos c, c]
        exact ⟨fun z => ⟨by decide, z.2.1, z.2.2, z.1⟩, fun z => ⟨z.2.2.2, z.2.1, z.2.2.1⟩⟩
      · rw [c, if_neg (by decide)]
        exact ⟨fun z => absurd z.1.symm hne, fun z => absurd rfl z.1⟩
    constructor
    · rintro ⟨j, j1, j2, j3⟩
      have j2 : ¬ near < I 29 s - I 29 (nv (I 32 j)) := j2
      rw [e29] at j2
      have hj := hord j (by omega)
      have t := (htw _ hj.1).mp j3
      refine ⟨nv (I 32 j), by omega, by omega, decide_eq_true ⟨t.1, t.2.1, t.2.2.1, t.2.2.2, ?_, ?_⟩⟩
      · rw [h76]
        exact j2
      · rw [h76]
        have hl := h11 j p j1 hp
        rw [es, hps, i32_toInt (by omega)] at hl
        rcases hl with hl | ⟨hl1, hl2⟩
        · left
          rw [i32_lt, i32_0, hsub _ hj.1]
          omega
        · right
          refine ⟨?_, by omega⟩
          rw [i32_eq, i32_0, hsub _ hj.1]
          omega
    · rintro ⟨o, _, o2, o3⟩
      have o3 := of_decide_eq_true o3
      have on : o < nv (I 61 19) := by omega
      obtain ⟨j, j1, j2⟩ := h12 o on
      have ej : nv (I 32 j) = o := by rw [j2, nv_nat (by omega)]
      refine ⟨j, ?_, ?_, ?_⟩
      · have hx := o3.2.2.2.2.2
        rw [h76] at hx
        by_cases c : j < p
        · exact c
        exfalso
        have key : (I 76 o).toInt < (I 76 s).toInt ∨ ((I 76 o).toInt = (I 76 s).toInt ∧ o < s) := by
          rcases hx with hx | ⟨hx1, hx2⟩
          · have hx := i32_lt.mp hx
            rw [i32_0, hsub o on] at hx
            left
            omega
          · have hx1 := i32_eq.mp hx1
            rw [i32_0, hsub o on] at hx1
            right
            omega
        by_cases c2 : j = p
        · subst c2
          rw [ej] at es
          subst es
          omega
        · have hl := h11 p j (by omega) j1
          rw [es, ej, hps, j2, i32_toInt (by omega), i32_toInt (by omega)] at hl
          omega
      · show ¬ near < I 29 s - I 29 (nv (I 32 j))
        rw [e29, ej]
        have := o3.2.2.2.2.1
        rw [h76] at this
        exact this
      · have := (htw o on).mpr ⟨o3.1, o3.2.1, o3.2.2.1, o3.2.2.2.1⟩
        show ztwin _ (nv (I 32 j)) s
        rw [ej]
        exact this
  by_cases c : zany (fun o => decide (zdp M s (znearM M (M 108 s) (M 76 s) k) o)) (nv (I 61 19)) 0 = true
  · rw [if_pos c, if_pos ⟨hne, hiff.mpr c⟩]
  · rw [if_neg c, if_neg (fun z => c (hiff.mp z.2))]
