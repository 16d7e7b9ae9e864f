/-! THE PURE PART: the token read, as the model asks for it. -/
theorem ylx_word (T : Nat → Int32) (n b : Nat) (hb : ∀ i, i < n → 0 ≤ (T i).toInt ∧ (T i).toInt ≤ 255) (h : 299 ≤ (ylx T n b).1.toInt) : (ylx T n b).1 = ywc T (ylx T n b).2.2.1 ((ylx T n b).2.2.2 - (ylx T n b).2.2.1) := by
  unfold ylx at h ⊢
  obtain ⟨p, hp⟩ : ∃ p, p = yspn yP1 T (n - b) b := ⟨_, rfl⟩
  rw [← hp] at h ⊢
  unfold ylxE at h ⊢
  by_cases c : n ≤ p
  · rw [if_pos c] at h
    exact absurd (show 299 ≤ (256 : Int32).toInt from h) (by decide)
  rw [if_neg c] at h ⊢
  by_cases c2 : yP2 (T p) = true
  · rw [if_pos c2]
  rw [if_neg c2] at h
  by_cases c3 : yP3 (T p) = true
  · rw [if_pos c3] at h
    exfalso
    have h : 299 ≤ (if yspn yP3 T (n - p) p - p ≤ 5 then (258 : Int32) else 259).toInt := h
    split at h <;> exact absurd h (by decide)
  rw [if_neg c3] at h
  exfalso
  have h : 299 ≤ (if ysgn (T p) = true then T p else 257).toInt := h
  have hr := hb p (by omega)
  by_cases c4 : ysgn (T p) = true
  · rw [if_pos c4] at h
    omega
  · rw [if_neg c4] at h
    exact absurd h (by decide)
theorem ykn_w {t : Int32} (h : ykn t = 1) : 299 ≤ t.toInt := by
  unfold ykn at h
  by_cases c1 : t = 256
  · rw [if_pos c1] at h
    exact absurd h (by decide)
  rw [if_neg c1] at h
  by_cases c2 : t = 257
  · rw [if_pos c2] at h
    exact absurd h (by decide)
  rw [if_neg c2] at h
  by_cases c3 : t = 258 ∨ t = 259
  · rw [if_pos c3] at h
    exact absurd h (by decide)
  rw [if_neg c3] at h
  by_cases c4 : (299 : Int32) ≤ t
  · exact i32_le.mp c4
  · rw [if_neg c4] at h
    exact absurd h (by decide)
theorem is_tok (xs : Nat → Int32) (L D : Nat) (hD : 6 ≤ D) (J : Nat → Nat → Int64) (X : XH) {M : Nat → Nat → Int32} {T : Nat → Int32} {n b : Nat} (i : Nat) (hi : i < 15) (hn : n ≤ 400) (hbn : b ≤ n) (hb : ∀ i, i < n → 0 ≤ (T i).toInt ∧ (T i).toInt ≤ 255) (h : yMt M T n b) (h0 : M 61 65 = 0) : zev xs L D 166 [.ref 61, .float (UInt32.ofNat (ystr i))] (zmk M J X) = some (.inr (some (.int (if (ylx T n b).1 = (300 : Int32) + Int32.ofNat i then 1 else 0))), zmk M J X) := by
  have rg := ylx_rg T n b hbn
  obtain ⟨h1, h2, h3, h4, h5, h6, h7, h8⟩ := h
  have q := is_m xs L D hD M J X T (ylx T n b).2.2.1 (ylx T n b).2.2.2 i hi h1 h3 h5 rg.2.2.1 (by omega)
  have iff : (M 61 65 = 0 ∧ M 61 60 = 1 ∧ yrow9 T (ylx T n b).2.2.1 ((ylx T n b).2.2.2 - (ylx T n b).2.2.1) (ywi i) = true) ↔ (ylx T n b).1 = (300 : Int32) + Int32.ofNat i := by
    have hge : 299 ≤ ((300 : Int32) + Int32.ofNat i).toInt := by
      have : ∀ i, i < 15 → 299 ≤ ((300 : Int32) + Int32.ofNat i).toInt := by decide +kernel
      exact this i hi
    refine ⟨fun z => ?_, fun z => ?_⟩
    · have hw := ylx_word T n b hb (ykn_w (h6.symm.trans z.2.1))
      rw [hw]
      exact (ywc_iff hi).mp z.2.2
    · have hg : 299 ≤ (ylx T n b).1.toInt := by
        rw [z]
        exact hge
      have hw := ylx_word T n b hb hg
      refine ⟨h0, h6.trans (ykn_1 hg), (ywc_iff hi).mpr (hw.symm.trans z)⟩
  rw [q]
  by_cases c : (ylx T n b).1 = (300 : Int32) + Int32.ofNat i
  · rw [if_pos c, if_pos (iff.mpr c)]
  · rw [if_neg c, if_neg (fun z => c (iff.mp z))]
/-- the value a token names -/
def yvw (t : Int32) : Nat → Nat → Int32
  | 0, _ => -1
  | q + 1, k => if t = (300 : Int32) + Int32.ofNat (7 + k) then Int32.ofNat k else yvw t q (k + 1)
theorem value_loop (xs : Nat → Int32) (L d : Nat) (J : Nat → Nat → Int64) (X : XH) {M : Nat → Nat → Int32} {T : Nat → Int32} {n b : Nat} (hn : n ≤ 400) (hbn : b ≤ n) (hb : ∀ i, i < n → 0 ≤ (T i).toInt ∧ (T i).toInt ≤ 255) (h : yMt M T n b) (h0 : M 61 65 = 0) : ∀ (q k : Nat), k + q = 8 → zgo xs L (d + 1 + 5) 177 2 [(0, .ref 61), (1, .int (Int32.ofNat k))] (zmk M J X) = some (.inr (some (.int (yvw (ylx T n b).1 q k))), zmk M J X)
  | 0, k, hk => by
    have hk : k = 8 := hk
    rw [zgo_q, hk, S177_8 xs L (d + 1)]
    rfl
  | q + 1, k, hk => by
    have ih := value_loop xs L d J X hn hbn hb h h0 q (k + 1) (by omega)
    have e : yvw (ylx T n b).1 (q + 1) k = if (ylx T n b).1 = (300 : Int32) + Int32.ofNat (7 + k) then Int32.ofNat k else yvw (ylx T n b).1 q (k + 1) := rfl
    rw [zgo_q, S177_k xs L (d + 1) M J X k (by omega), is_tok xs L (d + 1 + 5) (by omega) J X (7 + k) (by omega) hn hbn hb h h0, zci_i, T177_k xs L (d + 1), e]
    by_cases c : (ylx T n b).1 = (300 : Int32) + Int32.ofNat (7 + k)
    · rw [if_pos c, if_pos c, if_neg (show ¬ decide ((1 : Int32) = 0) = true by decide)]
      rfl
    · rw [if_neg c, if_neg c, if_pos (show decide ((0 : Int32) = 0) = true by decide), zth_go, nat_succ]
      exact ih
theorem value_m (xs : Nat → Int32) (L D : Nat) (hD : 7 ≤ D) (J : Nat → Nat → Int64) (X : XH) {M : Nat → Nat → Int32} {T : Nat → Int32} {n b : Nat} (hn : n ≤ 400) (hbn : b ≤ n) (hb : ∀ i, i < n → 0 ≤ (T i).toInt ∧ (T i).toInt ≤ 255) (h : yMt M T n b) (h0 : M 61 65 = 0) : zev xs L D 177 [.ref 61] (zmk M J X) = some (.inr (some (.int (yvw (ylx T n b).1 8 0))), zmk M J X) := by
  obtain ⟨d, rfl⟩ := Nat.exists_eq_add_of_le hD
  rw [show 7 + d = d + 1 + 6 by omega]
  refine (zcS (S177_0 xs L (d + 1) M J X)).trans ?_
  rw [zth_go]
  exact value_loop xs L d J X hn hbn hb h h0 8 0 rfl
