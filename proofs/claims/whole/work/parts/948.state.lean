/-! THE PURE PART: the reader's state, and how its loop goes on. -/
def ybt (c : Int32) (i : Nat) : Bool := decide (¬ (c >>> (Int32.ofNat i &&& 31)) &&& 1 = 0)
theorem ybt_lsb (c : Int32) (k : Nat) (hk : k < 12) : ybt c k = c.toBitVec.getLsbD k := by
  have e1 : (c >>> (Int32.ofNat k &&& 31)).toBitVec = c.toBitVec.sshiftRight k := by
    show c.toBitVec.sshiftRight ((Int32.ofNat k &&& 31).toBitVec.smod 32).toNat = _
    rw [shr_k k (by omega)]
  have e3 : ((c >>> (Int32.ofNat k &&& 31)) &&& 1).toBitVec = BitVec.setWidth 32 (BitVec.ofBool (c.toBitVec.getLsbD k)) := by
    show (c >>> (Int32.ofNat k &&& 31)).toBitVec &&& 1#32 = _
    rw [e1, BitVec.and_one_eq_setWidth_ofBool_getLsbD, BitVec.getLsbD_sshiftRight]
    have h1 : decide (32 ≤ 0) = false := rfl
    rw [h1, if_pos (by omega)]
    rfl
  unfold ybt
  cases q : c.toBitVec.getLsbD k with
  | true =>
    rw [q] at e3
    exact decide_eq_true (fun z => by
      rw [z] at e3
      exact absurd e3 (by decide))
  | false =>
    rw [q] at e3
    exact decide_eq_false (fun z => z (Int32.toBitVec_inj.1 e3))
theorem two_lsb : ∀ j, j < 12 → ∀ i, i < 12 → (BitVec.ofNat 32 (2 ^ j)).getLsbD i = decide (i = j) := by decide +kernel
theorem one_lsb : ∀ i, i < 12 → ((-1 : Int32).toBitVec).getLsbD i = true := by decide +kernel
theorem ybt_clr (c : Int32) (j i : Nat) (hj : j < 12) (hi : i < 12) : ybt (c &&& (((1 : Int32) <<< (Int32.ofNat j &&& 31)) ^^^ (-1))) i = if i = j then false else ybt c i := by
  rw [ybt_lsb _ i hi, ybt_lsb c i hi, shl_k j hj]
  show (c.toBitVec &&& (BitVec.ofNat 32 (2 ^ j) ^^^ (-1 : Int32).toBitVec)).getLsbD i = _
  rw [BitVec.getLsbD_and, BitVec.getLsbD_xor, two_lsb j hj i hi, one_lsb i hi]
  by_cases e : i = j
  · rw [if_pos e, decide_eq_true e]
    exact Bool.and_false _
  · rw [if_neg e, decide_eq_false e]
    exact Bool.and_true _
theorem ybt_set (c : Int32) (j i : Nat) (hj : j < 12) (hi : i < 12) : ybt (c ||| ((1 : Int32) <<< (Int32.ofNat j &&& 31))) i = if i = j then true else ybt c i := by
  rw [ybt_lsb _ i hi, ybt_lsb c i hi, shl_k j hj]
  show (c.toBitVec ||| BitVec.ofNat 32 (2 ^ j)).getLsbD i = _
  rw [BitVec.getLsbD_or, two_lsb j hj i hi]
  by_cases e : i = j
  · rw [if_pos e, decide_eq_true e]
    exact Bool.or_true _
  · rw [if_neg e, decide_eq_false e]
    exact Bool.or_false _
/-- the reader between tokens: clauses, head, late, near, what is wanted, written, waiting (the last first), depth, may it be 'not', how many, the bits -/
def yCB (V H : Nat → Nat → Int32) (c : Nat) (hd lt nr wt : Int32) (u w : List Int32) (d : Nat) (mn : Int32) (ns : Nat) (cm : Nat → Bool) : Prop := (∀ a, a ≠ 35 → a ≠ 37 → a ≠ 38 → H a = V a) ∧ H 35 1 = V 35 1 ∧ H 35 7 = wt ∧ H 35 8 = Int32.ofNat c ∧ H 35 9 = hd ∧ H 35 10 = lt ∧ H 35 11 = nr ∧ (H 35 13 = Int32.ofNat u.length ∧ zrow (H 37) 0 u) ∧ (H 35 15 = Int32.ofNat w.length ∧ zrow (H 38) 0 w.reverse) ∧ H 35 16 = Int32.ofNat d ∧ H 35 17 = mn ∧ H 35 18 = Int32.ofNat ns ∧ ∀ i, i < 8 → ybt (H 35 19) i = cm i
def yCS (V H : Nat → Nat → Int32) (n b c : Nat) (hd lt nr wt : Int32) (u w : List Int32) (d : Nat) (mn : Int32) (ns : Nat) (cm : Nat → Bool) : Prop := yCB V H c hd lt nr wt u w d mn ns cm ∧ H 35 2 = Int32.ofNat n ∧ H 35 4 = Int32.ofNat b ∧ u.length + w.length + c ≤ b ∧ b ≤ n
theorem yCB_fr {V H H1 : Nat → Nat → Int32} {c : Nat} {hd lt nr wt : Int32} {u w : List Int32} {d : Nat} {mn : Int32} {ns : Nat} {cm : Nat → Bool} (h : yCB V H c hd lt nr wt u w d mn ns cm) (f : yf35 [3, 4, 5, 6] H H1) : yCB V H1 c hd lt nr wt u w d mn ns cm := by
  obtain ⟨h0, h1, h7, h8, h9, h10, h11, h13, h15, h16, h17, h18, h19⟩ := h
  unfold yCB
  rw [f.1 37 (by decide), f.1 38 (by decide), f.2 1 (by decide), f.2 7 (by decide), f.2 8 (by decide), f.2 9 (by decide), f.2 10 (by decide), f.2 11 (by decide), f.2 13 (by decide), f.2 15 (by decide), f.2 16 (by decide), f.2 17 (by decide), f.2 18 (by decide), f.2 19 (by decide)]
  exact ⟨fun a a1 a2 a3 => (f.1 a a1).trans (h0 a a1 a2 a3), h1, h7, h8, h9, h10, h11, h13, h15, h16, h17, h18, h19⟩
/-- the reader with a token read: it begins at p, the next at q -/
def yCT (V H : Nat → Nat → Int32) (n : Nat) (x : Int32 × Int32 × Nat × Nat) (c : Nat) (hd lt nr wt : Int32) (u w : List Int32) (d : Nat) (mn : Int32) (ns : Nat) (cm : Nat → Bool) : Prop := yCB V H c hd lt nr wt u w d mn ns cm ∧ H 35 2 = Int32.ofNat n ∧ H 35 4 = Int32.ofNat x.2.2.2 ∧ H 35 3 = Int32.ofNat x.2.2.1 ∧ H 35 5 = x.1 ∧ (x.1 = 258 → H 35 6 = x.2.1)
/-- whatever the loop of the reader, at place b in this state, ends with -/
def yRun (xs : Nat → Int32) (L d0 : Nat) (J : Nat → Nat → Int64) (X : XH) (V : Nat → Nat → Int32) (n b c : Nat) (hd lt nr wt : Int32) (u w : List Int32) (d : Nat) (mn : Int32) (ns : Nat) (cm : Nat → Bool) (Q : Int32 → (Nat → Nat → Int32) → Prop) : Prop := ∀ (H : Nat → Nat → Int32) (i : Nat), yCS V H n b c hd lt nr wt u w d mn ns cm → i ≤ b → ∃ v H', zgo xs L (d0 + 3 + 5) 44 2 [(0, .ref 35), (1, .int (Int32.ofNat n)), (2, .int 0), (3, .int (Int32.ofNat i))] (zmk H J X) = some (.inr (some (.int v)), zmk H' J X) ∧ Q v H'
def ymeth (wt : Int32) : Nat := if wt = 0 then 54 else if wt = 1 then 56 else if wt = 2 then 57 else if wt = 3 then 58 else 61
theorem ylx_rg (T : Nat → Int32) (n b : Nat) (hb : b ≤ n) : b ≤ (ylx T n b).2.2.1 ∧ (ylx T n b).2.2.2 ≤ n ∧ (ylx T n b).2.2.1 ≤ (ylx T n b).2.2.2 ∧ ((ylx T n b).1 = 256 → (ylx T n b).2.2.1 = n) ∧ (¬ (ylx T n b).1 = 256 → (ylx T n b).2.2.1 < (ylx T n b).2.2.2) := by
  have r1 := yspn_rg yP1 T (n - b) b
  unfold ylx
  obtain ⟨p, hp⟩ : ∃ p, p = yspn yP1 T (n - b) b := ⟨_, rfl⟩
  rw [← hp] at r1 ⊢
  have r2 := yspn_rg yP2 T (n - p) p
  have r3 := yspn_rg yP3 T (n - p) p
  unfold ylxE
  by_cases c : n ≤ p
  · rw [if_pos c]
    exact ⟨r1.1, (by omega : p ≤ n), Nat.le_refl _, fun _ => (by omega : p = n), fun z => absurd rfl z⟩
  rw [if_neg c]
  by_cases c2 : yP2 (T p) = true
  · rw [if_pos c2]
    have hlt : p < yspn yP2 T (n - p) p := by
      have e : n - p = n - p - 1 + 1 := by omega
      rw [e]
      have := yspn_rg yP2 T (n - p - 1) (p + 1)
      show p < (if yP2 (T p) = true then yspn yP2 T (n - p - 1) (p + 1) else p)
      rw [if_pos c2]
      omega
    refine ⟨r1.1, (by omega : yspn yP2 T (n - p) p ≤ n), (by omega : p ≤ yspn yP2 T (n - p) p), fun z => ?_, fun _ => hlt⟩
    have hg := ywc_ge T p (yspn yP2 T (n - p) p - p)
    have z : ywc T p (yspn yP2 T (n - p) p - p) = 256 := z
    rw [z] at hg
    exact absurd hg (by decide)
  rw [if_neg c2]
  by_cases c3 : yP3 (T p) = true
  · rw [if_pos c3]
    have hlt : p < yspn yP3 T (n - p) p := by
      have e : n - p = n - p - 1 + 1 := by omega
      rw [e]
      have := yspn_rg yP3 T (n - p - 1) (p + 1)
      show p < (if yP3 (T p) = true then yspn yP3 T (n - p - 1) (p + 1) else p)
      rw [if_pos c3]
      omega
    refine ⟨r1.1, (by omega : yspn yP3 T (n - p) p ≤ n), (by omega : p ≤ yspn yP3 T (n - p) p), fun z => ?_, fun _ => hlt⟩
    have z : (if yspn yP3 T (n - p) p - p ≤ 5 then (258 : Int32) else 259) = 256 := z
    split at z <;> exact absurd z (by decide)
  rw [if_neg c3]
  refine ⟨r1.1, (by omega : p + 1 ≤ n), (by omega : p ≤ p + 1), fun z => ?_, fun _ => (by omega : p < p + 1)⟩
  exfalso
  have z : (if ysgn (T p) = true then T p else 257) = 256 := z
  by_cases c4 : ysgn (T p) = true
  · rw [if_pos c4] at z
    rw [z] at c4
    exact absurd c4 (by decide)
  · rw [if_neg c4] at z
    exact absurd z (by decide)
theorem run_adv (xs : Nat → Int32) (L d0 : Nat) (J : Nat → Nat → Int64) (X : XH) {V H : Nat → Nat → Int32} {n b c : Nat} {hd lt nr wt : Int32} {u w : List Int32} {d : Nat} {mn : Int32} {ns : Nat} {cm : Nat → Bool} (hn : n ≤ 400) (h : yCS V H n b c hd lt nr wt u w d mn ns cm) : ∃ H1, zev xs L (d0 + 3 + 5) 45 [.ref 35] (zmk H J X) = some (.inr none, zmk H1 J X) ∧ yCT V H1 n (ylx (V 36) n b) c hd lt nr wt u w d mn ns cm := by
  obtain ⟨h1, h2, h4, h5, h6⟩ := h
  obtain ⟨H1, a1, a2, a3, a4, a5, a6⟩ := adv_loop xs L d0 J X (V 36) n hn (n - b) b H (by omega) (h1.1 36 (by decide) (by decide) (by decide)) h2 h4
  refine ⟨H1, ?_, yCB_fr h1 a2, ?_, a4, a3, a5, a6⟩
  · refine (zcS (S45_0 xs L (d0 + 2) H J X)).trans ?_
    rw [zth_go]
    exact a1
  · rw [a2.2 2 (by decide)]
    exact h2
