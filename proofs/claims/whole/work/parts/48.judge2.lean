/-! THE PURE PART: where the model lets each signal count. Written by program (wip/whole/mk48.py). -/
theorem zbi_iff {p q : Prop} [Decidable p] [Decidable q] (h : p ↔ q) : zbi p = zbi q := by
  by_cases c : p
  · rw [zbi_t c, zbi_t (h.mp c)]
  · rw [zbi_f c, zbi_f (fun z => c (h.mpr z))]
noncomputable def zcf (I : Nat → Nat → Int32) (k : Int32) (s : Nat) (o : Option Nat) (lt : Int32) : Int32 := @zbi (zknM I k s ∧ zndel I o ∧ (I 77 s - I 76 s).toInt ≤ lt.toInt) (Classical.propDecidable _)
def zlandM (I : Nat → Nat → Int32) (r : Int32) : Nat := nv (I 65 (nv r))
def zlateM (I : Nat → Nat → Int32) (r t k : Int32) : Int32 := zlate I (zlandM I r) (nv (I 92 (zlandM I r))) t k

theorem jl_661 (xs : Nat → Int32) (L d : Nat) (I : Nat → Nat → Int32) (J : Nat → Nat → Int64) (X : XH) (kn k rn : Int32) (s : Nat) (o : Option Nat) (hs : s < 300) (ho : ∀ c, o = some c → c < 40) (hk : (kn = 0 ∧ ¬ zknM I k s) ∨ (kn = 1 ∧ zknM I k s)) (hl : 0 ≤ (I 65 (nv rn)).toInt ∧ (I 65 (nv rn)).toInt < 9) (hm : 0 ≤ (I 92 (zlandM I rn)).toInt ∧ (I 92 (zlandM I rn)).toInt ≤ 4) : zth xs L (d + 6) 186 (zci (zE xs L (d + 1 + 5) 186) (zev xs L (d + 1 + 5) 187 [.ref 61, .int (I 65 (rn.toNatClampNeg)), .int (I 76 s), .int k] (zmk (zup I 108 s rn) J X)) (fun r h => zseg (zE xs L (d + 1 + 5) 186) (zC 186) 661 (zB186_11.drop 15) [(4, .int kn), (0, .ref 61), (1, .int (Int32.ofNat s)), (2, .int k), (3, .int (zlsto o))] [.int r] h)) = some (.inr none, zmk (zup (zup I 108 s rn) 109 s (zcf I k s o (zlateM I rn (I 76 s) k))) J X) := by
  have hl9 : zlandM I rn < 9 := by
    have := nv_int hl.1
    unfold zlandM
    omega
  have hm4 : nv (I 92 (zlandM I rn)) ≤ 4 := by
    have := nv_int hm.1
    omega
  have e65 : I 65 (rn.toNatClampNeg) = Int32.ofNat (zlandM I rn) := (nv_of hl.1).symm
  have q := terms_eq xs L (d + 1 + 5) (by omega) (zup I 108 s rn) J X (zlandM I rn) (nv (I 92 (zlandM I rn))) (I 76 s) k hl9 hm4 (nv_of hm.1).symm
  rw [e65, q, zci_i]
  have t := @jT_661 xs L (d + 1) (zup I 108 s rn) J X kn k _ (zlateM I rn (I 76 s) k) s o hs ho (hk.elim (fun z => Or.inl z.1) (fun z => Or.inr z.1)) (zxo_late (I := zup I 108 s rn) hl9 hm4 (I 76 s) k) (Classical.propDecidable _)
  rw [t]
  have e : @zbi (¬ kn = 0 ∧ zndel (zup I 108 s rn) o ∧ (zup I 108 s rn 77 s - zup I 108 s rn 76 s).toInt ≤ (zlateM I rn (I 76 s) k).toInt) (Classical.propDecidable _) = zcf I k s o (zlateM I rn (I 76 s) k) := by
    unfold zcf
    refine @zbi_iff _ _ (Classical.propDecidable _) (Classical.propDecidable _) ?_
    have hz : zndel (zup I 108 s rn) o ↔ zndel I o := by
      cases o with
      | none => exact Iff.rfl
      | some c => exact Iff.rfl
    constructor
    · intro z
      refine ⟨?_, hz.mp z.2.1, z.2.2⟩
      rcases hk with w | w
      · exact absurd w.1 z.1
      · exact w.2
    · intro z
      refine ⟨?_, hz.mpr z.2.1, z.2.2⟩
      rcases hk with w | w
      · exact absurd z.1 w.2
      · rw [w.1]
        decide
  rw [e]
  rfl
theorem jl_655 (xs : Nat → Int32) (L d : Nat) (I : Nat → Nat → Int32) (J : Nat → Nat → Int64) (X : XH) (kn k rn : Int32) (s : Nat) (o : Option Nat) (hs : s < 300) (ho : ∀ c, o = some c → c < 40) (hk : (kn = 0 ∧ ¬ zknM I k s) ∨ (kn = 1 ∧ zknM I k s)) (hl : 0 ≤ (I 65 (nv rn)).toInt ∧ (I 65 (nv rn)).toInt < 9) (hm : 0 ≤ (I 92 (zlandM I rn)).toInt ∧ (I 92 (zlandM I rn)).toInt ≤ 4) : zth xs L (d + 6) 186 (zci (zE xs L (d + 1 + 5) 186) (zev xs L (d + 1 + 5) 187 [.ref 61, .int (I 65 (rn.toNatClampNeg)), .int (I 76 s), .int k] (zmk (zup I 108 s rn) J X)) (fun r h => zseg (zE xs L (d + 1 + 5) 186) (zC 186) 655 (zB186_11.drop 15) [(4, .int kn), (0, .ref 61), (1, .int (Int32.ofNat s)), (2, .int k), (3, .int (zlsto o))] [.int r] h)) = some (.inr none, zmk (zup (zup I 108 s rn) 109 s (zcf I k s o (zlateM I rn (I 76 s) k))) J X) := by
  have hl9 : zlandM I rn < 9 := by
    have := nv_int hl.1
    unfold zlandM
    omega
  have hm4 : nv (I 92 (zlandM I rn)) ≤ 4 := by
    have := nv_int hm.1
    omega
  have e65 : I 65 (rn.toNatClampNeg) = Int32.ofNat (zlandM I rn) := (nv_of hl.1).symm
  have q := terms_eq xs L (d + 1 + 5) (by omega) (zup I 108 s rn) J X (zlandM I rn) (nv (I 92 (zlandM I rn))) (I 76 s) k hl9 hm4 (nv_of hm.1).symm
  rw [e65, q, zci_i]
  have t := @jT_655 xs L (d + 1) (zup I 108 s rn) J X kn k _ (zlateM I rn (I 76 s) k) s o hs ho (hk.elim (fun z => Or.inl z.1) (fun z => Or.inr z.1)) (zxo_late (I := zup I 108 s rn) hl9 hm4 (I 76 s) k) (Classical.propDecidable _)
  rw [t]
  have e : @zbi (¬ kn = 0 ∧ zndel (zup I 108 s rn) o ∧ (zup I 108 s rn 77 s - zup I 108 s rn 76 s).toInt ≤ (zlateM I rn (I 76 s) k).toInt) (Classical.propDecidable _) = zcf I k s o (zlateM I rn (I 76 s) k) := by
    unfold zcf
    refine @zbi_iff _ _ (Classical.propDecidable _) (Classical.propDecidable _) ?_
    have hz : zndel (zup I 108 s rn) o ↔ zndel I o := by
      cases o with
      | none => exact Iff.rfl
      | some c => exact Iff.rfl
    constructor
    · intro z
      refine ⟨?_, hz.mp z.2.1, z.2.2⟩
      rcases hk with w | w
      · exact absurd w.1 z.1
      · exact w.2
    · intro z
      refine ⟨?_, hz.mpr z.2.1, z.2.2⟩
      rcases hk with w | w
      · exact absurd z.1 w.2
      · rw [w.1]
        decide
  rw [e]
  rfl
theorem jl_649 (xs : Nat → Int32) (L d : Nat) (I : Nat → Nat → Int32) (J : Nat → Nat → Int64) (X : XH) (kn k rn : Int32) (s : Nat) (o : Option Nat) (hs : s < 300) (ho : ∀ c, o = some c → c < 40) (hk : (kn = 0 ∧ ¬ zknM I k s) ∨ (kn = 1 ∧ zknM I k s)) (hl : 0 ≤ (I 65 (nv rn)).toInt ∧ (I 65 (nv rn)).toInt < 9) (hm : 0 ≤ (I 92 (zlandM I rn)).toInt ∧ (I 92 (zlandM I rn)).toInt ≤ 4) : zth xs L (d + 6) 186 (zci (zE xs L (d + 1 + 5) 186) (zev xs L (d + 1 + 5) 187 [.ref 61, .int (I 65 (rn.toNatClampNeg)), .int (I 76 s), .int k] (zmk (zup I 108 s rn) J X)) (fun r h => zseg (zE xs L (d + 1 + 5) 186) (zC 186) 649 (zB186_11.drop 15) [(4, .int kn), (0, .ref 61), (1, .int (Int32.ofNat s)), (2, .int k), (3, .int (zlsto o))] [.int r] h)) = some (.inr none, zmk (zup (zup I 108 s rn) 109 s (zcf I k s o (zlateM I rn (I 76 s) k))) J X) := by
  have hl9 : zlandM I rn < 9 := by
    have := nv_int hl.1
    unfold zlandM
    omega
  have hm4 : nv (I 92 (zlandM I rn)) ≤ 4 := by
    have := nv_int hm.1
    omega
  have e65 : I 65 (rn.toNatClampNeg) = Int32.ofNat (zlandM I rn) := (nv_of hl.1).symm
  have q := terms_eq xs L (d + 1 + 5) (by omega) (zup I 108 s rn) J X (zlandM I rn) (nv (I 92 (zlandM I rn))) (I 76 s) k hl9 hm4 (nv_of hm.1).symm
  rw [e65, q, zci_i]
  have t := @jT_649 xs L (d + 1) (zup I 108 s rn) J X kn k _ (zlateM I rn (I 76 s) k) s o hs ho (hk.elim (fun z => Or.inl z.1) (fun z => Or.inr z.1)) (zxo_late (I := zup I 108 s rn) hl9 hm4 (I 76 s) k) (Classical.propDecidable _)
  rw [t]
  have e : @zbi (¬ kn = 0 ∧ zndel (zup I 108 s rn) o ∧ (zup I 108 s rn 77 s - zup I 108 s rn 76 s).toInt ≤ (zlateM I rn (I 76 s) k).toInt) (Classical.propDecidable _) = zcf I k s o (zlateM I rn (I 76 s) k) := by
    unfold zcf
    refine @zbi_iff _ _ (Classical.propDecidable _) (Classical.propDecidable _) ?_
    have hz : zndel (zup I 108 s rn) o ↔ zndel I o := by
      cases o with
      | none => exact Iff.rfl
      | some c => exact Iff.rfl
    constructor
    · intro z
      refine ⟨?_, hz.mp z.2.1, z.2.2⟩
      rcases hk with w | w
      · exact absurd w.1 z.1
      · exact w.2
    · intro z
      refine ⟨?_, hz.mpr z.2.1, z.2.2⟩
      rcases hk with w | w
      · exact absurd z.1 w.2
      · rw [w.1]
        decide
  rw [e]
  rfl
theorem jl_648 (xs : Nat → Int32) (L d : Nat) (I : Nat → Nat → Int32) (J : Nat → Nat → Int64) (X : XH) (kn k rn : Int32) (s : Nat) (o : Option Nat) (hs : s < 300) (ho : ∀ c, o = some c → c < 40) (hk : (kn = 0 ∧ ¬ zknM I k s) ∨ (kn = 1 ∧ zknM I k s)) (hl : 0 ≤ (I 65 (nv rn)).toInt ∧ (I 65 (nv rn)).toInt < 9) (hm : 0 ≤ (I 92 (zlandM I rn)).toInt ∧ (I 92 (zlandM I rn)).toInt ≤ 4) : zth xs L (d + 6) 186 (zci (zE xs L (d + 1 + 5) 186) (zev xs L (d + 1 + 5) 187 [.ref 61, .int (I 65 (rn.toNatClampNeg)), .int (I 76 s), .int k] (zmk (zup I 108 s rn) J X)) (fun r h => zseg (zE xs L (d + 1 + 5) 186) (zC 186) 648 (zB186_11.drop 15) [(4, .int kn), (0, .ref 61), (1, .int (Int32.ofNat s)), (2, .int k), (3, .int (zlsto o))] [.int r] h)) = some (.inr none, zmk (zup (zup I 108 s rn) 109 s (zcf I k s o (zlateM I rn (I 76 s) k))) J X) := by
  have hl9 : zlandM I rn < 9 := by
    have := nv_int hl.1
    unfold zlandM
    omega
  have hm4 : nv (I 92 (zlandM I rn)) ≤ 4 := by
    have := nv_int hm.1
    omega
  have e65 : I 65 (rn.toNatClampNeg) = Int32.ofNat (zlandM I rn) := (nv_of hl.1).symm
  have q := terms_eq xs L (d + 1 + 5) (by omega) (zup I 108 s rn) J X (zlandM I rn) (nv (I 92 (zlandM I rn))) (I 76 s) k hl9 hm4 (nv_of hm.1).symm
  rw [e65, q, zci_i]
  have t := @jT_648 xs L (d + 1) (zup I 108 s rn) J X kn k _ (zlateM I rn (I 76 s) k) s o hs ho (hk.elim (fun z => Or.inl z.1) (fun z => Or.inr z.1)) (zxo_late (I := zup I 108 s rn) hl9 hm4 (I 76 s) k) (Classical.propDecidable _)
  rw [t]
  have e : @zbi (¬ kn = 0 ∧ zndel (zup I 108 s rn) o ∧ (zup I 108 s rn 77 s - zup I 108 s rn 76 s).toInt ≤ (zlateM I rn (I 76 s) k).toInt) (Classical.propDecidable _) = zcf I k s o (zlateM I rn (I 76 s) k) := by
    unfold zcf
    refine @zbi_iff _ _ (Classical.propDecidable _) (Classical.propDecidable _) ?_
    have hz : zndel (zup I 108 s rn) o ↔ zndel I o := by
      cases o with
      | none => exact Iff.rfl
      | some c => exact Iff.rfl
    constructor
    · intro z
      refine ⟨?_, hz.mp z.2.1, z.2.2⟩
      rcases hk with w | w
      · exact absurd w.1 z.1
      · exact w.2
    · intro z
      refine ⟨?_, hz.mpr z.2.1, z.2.2⟩
      rcases hk with w | w
      · exact absurd z.1 w.2
      · rw [w.1]
        decide
  rw [e]
  rfl
theorem jl_643 (xs : Nat → Int32) (L d : Nat) (I : Nat → Nat → Int32) (J : Nat → Nat → Int64) (X : XH) (kn k rn : Int32) (s : Nat) (o : Option Nat) (hs : s < 300) (ho : ∀ c, o = some c → c < 40) (hk : (kn = 0 ∧ ¬ zknM I k s) ∨ (kn = 1 ∧ zknM I k s)) (hl : 0 ≤ (I 65 (nv rn)).toInt ∧ (I 65 (nv rn)).toInt < 9) (hm : 0 ≤ (I 92 (zlandM I rn)).toInt ∧ (I 92 (zlandM I rn)).toInt ≤ 4) : zth xs L (d + 6) 186 (zci (zE xs L (d + 1 + 5) 186) (zev xs L (d + 1 + 5) 187 [.ref 61, .int (I 65 (rn.toNatClampNeg)), .int (I 76 s), .int k] (zmk (zup I 108 s rn) J X)) (fun r h => zseg (zE xs L (d + 1 + 5) 186) (zC 186) 643 (zB186_11.drop 15) [(4, .int kn), (0, .ref 61), (1, .int (Int32.ofNat s)), (2, .int k), (3, .int (zlsto o))] [.int r] h)) = some (.inr none, zmk (zup (zup I 108 s rn) 109 s (zcf I k s o (zlateM I rn (I 76 s) k))) J X) := by
  have hl9 : zlandM I rn < 9 := by
    have := nv_int hl.1
    unfold zlandM
    omega
  have hm4 : nv (I 92 (zlandM I rn)) ≤ 4 := by
    have := nv_int hm.1
    omega
  have e65 : I 65 (rn.toNatClampNeg) = Int32.ofNat (zlandM I rn) := (nv_of hl.1).symm
  have q := terms_eq xs L (d + 1 + 5) (by omega) (zup I 108 s rn) J X (zlandM I rn) (nv (I 92 (zlandM I rn))) (I 76 s) k hl9 hm4 (nv_of hm.1).symm
  rw [e65, q, zci_i]
  have t := @jT_643 xs L (d + 1) (zup I 108 s rn) J X kn k _ (zlateM I rn (I 76 s) k) s o hs ho (hk.elim (fun z => Or.inl z.1) (fun z => Or.inr z.1)) (zxo_late (I := zup I 108 s rn) hl9 hm4 (I 76 s) k) (Classical.propDecidable _)
  rw [t]
  have e : @zbi (¬ kn = 0 ∧ zndel (zup I 108 s rn) o ∧ (zup I 108 s rn 77 s - zup I 108 s rn 76 s).toInt ≤ (zlateM I rn (I 76 s) k).toInt) (Classical.propDecidable _) = zcf I k s o (zlateM I rn (I 76 s) k) := by
    unfold zcf
    refine @zbi_iff _ _ (Classical.propDecidable _) (Classical.propDecidable _) ?_
    have hz : zndel (zup I 108 s rn) o ↔ zndel I o := by
      cases o with
      | none => exact Iff.rfl
      | some c => exact Iff.rfl
    constructor
    · intro z
      refine ⟨?_, hz.mp z.2.1, z.2.2⟩
      rcases hk with w | w
      · exact absurd w.1 z.1
      · exact w.2
    · intro z
      refine ⟨?_, hz.mpr z.2.1, z.2.2⟩
      rcases hk with w | w
      · exact absurd z.1 w.2
      · rw [w.1]
        decide
  rw [e]
  rfl
theorem jl_642 (xs : Nat → Int32) (L d : Nat) (I : Nat → Nat → Int32) (J : Nat → Nat → Int64) (X : XH) (kn k rn : Int32) (s : Nat) (o : Option Nat) (hs : s < 300) (ho : ∀ c, o = some c → c < 40) (hk : (kn = 0 ∧ ¬ zknM I k s) ∨ (kn = 1 ∧ zknM I k s)) (hl : 0 ≤ (I 65 (nv rn)).toInt ∧ (I 65 (nv rn)).toInt < 9) (hm : 0 ≤ (I 92 (zlandM I rn)).toInt ∧ (I 92 (zlandM I rn)).toInt ≤ 4) : zth xs L (d + 6) 186 (zci (zE xs L (d + 1 + 5) 186) (zev xs L (d + 1 + 5) 187 [.ref 61, .int (I 65 (rn.toNatClampNeg)), .int (I 76 s), .int k] (zmk (zup I 108 s rn) J X)) (fun r h => zseg (zE xs L (d + 1 + 5) 186) (zC 186) 642 (zB186_11.drop 15) [(4, .int kn), (0, .ref 61), (1, .int (Int32.ofNat s)), (2, .int k), (3, .int (zlsto o))] [.int r] h)) = some (.inr none, zmk (zup (zup I 108 s rn) 109 s (zcf I k s o (zlateM I rn (I 76 s) k))) J X) := by
  have hl9 : zlandM I rn < 9 := by
    have := nv_int hl.1
    unfold zlandM
    omega
  have hm4 : nv (I 92 (zlandM I rn)) ≤ 4 := by
    have := nv_int hm.1
    omega
  have e65 : I 65 (rn.toNatClampNeg) = Int32.ofNat (zlandM I rn) := (nv_of hl.1).symm
  have q := terms_eq xs L (d + 1 + 5) (by omega) (zup I 108 s rn) J X (zlandM I rn) (nv (I 92 (zlandM I rn))) (I 76 s) k hl9 hm4 (nv_of hm.1).symm
  rw [e65, q, zci_i]
  have t := @jT_642 xs L (d + 1) (zup I 108 s rn) J X kn k _ (zlateM I rn (I 76 s) k) s o hs ho (hk.elim (fun z => Or.inl z.1) (fun z => Or.inr z.1)) (zxo_late (I := zup I 108 s rn) hl9 hm4 (I 76 s) k) (Classical.propDecidable _)
  rw [t]
  have e : @zbi (¬ kn = 0 ∧ zndel (zup I 108 s rn) o ∧ (zup I 108 s rn 77 s - zup I 108 s rn 76 s).toInt ≤ (zlateM I rn (I 76 s) k).toInt) (Classical.propDecidable _) = zcf I k s o (zlateM I rn (I 76 s) k) := by
    unfold zcf
    refine @zbi_iff _ _ (Classical.propDecidable _) (Classical.propDecidable _) ?_
    have hz : zndel (zup I 108 s rn) o ↔ zndel I o := by
      cases o with
      | none => exact Iff.rfl
      | some c => exact Iff.rfl
    constructor
    · intro z
      refine ⟨?_, hz.mp z.2.1, z.2.2⟩
      rcases hk with w | w
      · exact absurd w.1 z.1
      · exact w.2
    · intro z
      refine ⟨?_, hz.mpr z.2.1, z.2.2⟩
      rcases hk with w | w
      · exact absurd z.1 w.2
      · rw [w.1]
        decide
  rw [e]
  rfl
theorem judge_fin (xs : Nat → Int32) (L d : Nat) (I : Nat → Nat → Int32) (J : Nat → Nat → Int64) (X : XH) (k : Int32) (s m : Nat) (o : Option Nat) (hm2 : m ≤ 40) (h20 : I 61 20 = Int32.ofNat m) (hs : s < 300) (ho : ∀ c, o = some c → c < 40) (hr : 0 ≤ (zrn I s o).toInt ∧ (zrn I s o).toInt < 40) (hl : 0 ≤ (I 65 (nv (zrn I s o))).toInt ∧ (I 65 (nv (zrn I s o))).toInt < 9) (hm : 0 ≤ (I 92 (zlandM I (zrn I s o))).toInt ∧ (I 92 (zlandM I (zrn I s o))).toInt ≤ 4) : zgo xs L (d + 6) 186 2 [(0, .ref 61), (1, .int (Int32.ofNat s)), (2, .int k), (3, .int (zlsto o)), (4, .int (Int32.ofNat m))] (zmk I J X) = some (.inr none, zmk (zup (zup I 108 s (zrn I s o)) 109 s (zcf I k s o (zlateM I (zrn I s o) (I 76 s) k))) J X) := by
  have z0 : zix 0 300 0 (Int32.ofNat s) := zix_nat rfl (by omega) (by omega)
  have cm : decide (Int32.ofNat m ≤ Int32.ofNat m) = true := decide_eq_true ((nat_le (by omega) (by omega)).mpr (Nat.le_refl _))
  rw [zgo_q, S186_2 xs L (d + 1), h20, if_pos cm]
  cases o with
  | none =>
    rw [if_pos (show decide (zlsto none = (-1 : Int32)) = true by decide)]
    have er : zrn I s none = I 75 s := rfl
    rw [er] at hr hl hm ⊢
    have zr : zix 0 40 0 (I 75 s) := zix_of rfl hr.1 hr.2
    repeat rw [if_pos z0]
    rw [i32_clamp (n := s) (by omega)]
    have zq : zix 0 40 0 ((zup I 108 s (I 75 s)) 108 s) := by
      rw [zup_at]
      exact zr
    repeat rw [if_pos zq]
    rw [zup_at]
    by_cases c1 : k < I 77 s
    · have c1t := i32_lt.mp c1
      rw [if_pos (decide_eq_true c1)]
      exact jl_661 xs L d I J X 0 k (I 75 s) s _ hs ho (Or.inl ⟨rfl, fun z => by have := z.1; omega⟩) hl hm
    have c1t : (I 77 s).toInt ≤ k.toInt := by
      have : ¬ k.toInt < (I 77 s).toInt := fun z => c1 (i32_lt.mpr z)
      omega
    rw [if_neg (fun z => c1 (of_decide_eq_true z))]
    by_cases c2 : I 78 s = -1
    · rw [if_pos (decide_eq_true c2)]
      exact jl_655 xs L d I J X 1 k (I 75 s) s _ hs ho (Or.inr ⟨rfl, c1t, Or.inl c2⟩) hl hm
    rw [if_neg (fun z => c2 (of_decide_eq_true z))]
    by_cases c3 : I 78 s ≤ k
    · have c3t := i32_le.mp c3
      rw [if_pos (decide_eq_true c3)]
      exact jl_649 xs L d I J X 0 k (I 75 s) s _ hs ho (Or.inl ⟨rfl, fun z => z.2.elim c2 (fun z => by omega)⟩) hl hm
    · have c3t : ¬ (I 78 s).toInt ≤ k.toInt := fun z => c3 (i32_le.mpr z)
      rw [if_neg (fun z => c3 (of_decide_eq_true z))]
      exact jl_648 xs L d I J X 1 k (I 75 s) s _ hs ho (Or.inr ⟨rfl, c1t, Or.inr (by omega)⟩) hl hm
  | some c =>
    have hc := ho c rfl
    have e1 : zlsto (some c) = Int32.ofNat c := rfl
    have zc : zix 0 40 0 (Int32.ofNat c) := zix_nat rfl hc (by omega)
    rw [if_neg (show ¬ decide (zlsto (some c) = (-1 : Int32)) = true from fun z => nat_m1 (by omega) (of_decide_eq_true z))]
    have ezc : zix 0 40 0 (zlsto (some c)) := zc
    repeat rw [if_pos ezc]
    have ecl : (zlsto (some c)).toNatClampNeg = c := i32_clamp (by omega)
    rw [ecl]
    by_cases h2 : I 82 c = 2
    · rw [if_neg (fun z => (of_decide_eq_true z) h2)]
      have er : zrn I s (some c) = I 83 c := if_pos h2
      rw [er] at hr hl hm ⊢
      have zr : zix 0 40 0 (I 83 c) := zix_of rfl hr.1 hr.2
      repeat rw [if_pos z0]
      rw [i32_clamp (n := s) (by omega)]
      have zq : zix 0 40 0 ((zup I 108 s (I 83 c)) 108 s) := by
        rw [zup_at]
        exact zr
      repeat rw [if_pos zq]
      rw [zup_at]
      by_cases c1 : k < I 77 s
      · have c1t := i32_lt.mp c1
        rw [if_pos (decide_eq_true c1)]
        exact jl_655 xs L d I J X 0 k (I 83 c) s _ hs ho (Or.inl ⟨rfl, fun z => by have := z.1; omega⟩) hl hm
      have c1t : (I 77 s).toInt ≤ k.toInt := by
        have : ¬ k.toInt < (I 77 s).toInt := fun z => c1 (i32_lt.mpr z)
        omega
      rw [if_neg (fun z => c1 (of_decide_eq_true z))]
      by_cases c2 : I 78 s = -1
      · rw [if_pos (decide_eq_true c2)]
        exact jl_649 xs L d I J X 1 k (I 83 c) s _ hs ho (Or.inr ⟨rfl, c1t, Or.inl c2⟩) hl hm
      rw [if_neg (fun z => c2 (of_decide_eq_true z))]
      by_cases c3 : I 78 s ≤ k
      · have c3t := i32_le.mp c3
        rw [if_pos (decide_eq_true c3)]
        exact jl_643 xs L d I J X 0 k (I 83 c) s _ hs ho (Or.inl ⟨rfl, fun z => z.2.elim c2 (fun z => by omega)⟩) hl hm
      · have c3t : ¬ (I 78 s).toInt ≤ k.toInt := fun z => c3 (i32_le.mpr z)
        rw [if_neg (fun z => c3 (of_decide_eq_true z))]
        exact jl_642 xs L d I J X 1 k (I 83 c) s _ hs ho (Or.inr ⟨rfl, c1t, Or.inr (by omega)⟩) hl hm
    · rw [if_pos (decide_eq_true (show ¬ I 82 c = 2 from h2))]
      have er : zrn I s (some c) = I 75 s := if_neg h2
      rw [er] at hr hl hm ⊢
      have zr : zix 0 40 0 (I 75 s) := zix_of rfl hr.1 hr.2
      repeat rw [if_pos z0]
      rw [i32_clamp (n := s) (by omega)]
      have zq : zix 0 40 0 ((zup I 108 s (I 75 s)) 108 s) := by
        rw [zup_at]
        exact zr
      repeat rw [if_pos zq]
      rw [zup_at]
      by_cases c1 : k < I 77 s
      · have c1t := i32_lt.mp c1
        rw [if_pos (decide_eq_true c1)]
        exact jl_655 xs L d I J X 0 k (I 75 s) s _ hs ho (Or.inl ⟨rfl, fun z => by have := z.1; omega⟩) hl hm
      have c1t : (I 77 s).toInt ≤ k.toInt := by
        have : ¬ k.toInt < (I 77 s).toInt := fun z => c1 (i32_lt.mpr z)
        omega
      rw [if_neg (fun z => c1 (of_decide_eq_true z))]
      by_cases c2 : I 78 s = -1
      · rw [if_pos (decide_eq_true c2)]
        exact jl_649 xs L d I J X 1 k (I 75 s) s _ hs ho (Or.inr ⟨rfl, c1t, Or.inl c2⟩) hl hm
      rw [if_neg (fun z => c2 (of_decide_eq_true z))]
      by_cases c3 : I 78 s ≤ k
      · have c3t := i32_le.mp c3
        rw [if_pos (decide_eq_true c3)]
        exact jl_643 xs L d I J X 0 k (I 75 s) s _ hs ho (Or.inl ⟨rfl, fun z => z.2.elim c2 (fun z => by omega)⟩) hl hm
      · have c3t : ¬ (I 78 s).toInt ≤ k.toInt := fun z => c3 (i32_le.mpr z)
        rw [if_neg (fun z => c3 (of_decide_eq_true z))]
        exact jl_642 xs L d I J X 1 k (I 75 s) s _ hs ho (Or.inr ⟨rfl, c1t, Or.inr (by omega)⟩) hl hm
theorem judge_loop (xs : Nat → Int32) (L d : Nat) (I : Nat → Nat → Int32) (J : Nat → Nat → Int64) (X : XH) (k : Int32) (s m : Nat) (hm2 : m ≤ 40) (h20 : I 61 20 = Int32.ofNat m) (hs : s < 300) : ∀ (j i : Nat), i + j = m → zgo xs L (d + 6) 186 2 [(0, .ref 61), (1, .int (Int32.ofNat s)), (2, .int k), (3, .int (zlsto (zlst I k s i))), (4, .int (Int32.ofNat i))] (zmk I J X) = zgo xs L (d + 6) 186 2 [(0, .ref 61), (1, .int (Int32.ofNat s)), (2, .int k), (3, .int (zlsto (zlst I k s m))), (4, .int (Int32.ofNat m))] (zmk I J X)
  | 0, i, hi => by
    have hi : i = m := by omega
    subst hi
    rfl
  | j + 1, i, hi => by
    have ih := judge_loop xs L d I J X k s m hm2 h20 hs j (i + 1) (by omega)
    have zi : zix 0 40 0 (Int32.ofNat i) := zix_nat rfl (by omega) (by omega)
    have cm : ¬ decide (Int32.ofNat m ≤ Int32.ofNat i) = true := fun z => by
      have := (nat_le (by omega) (by omega)).mp (of_decide_eq_true z)
      omega
    refine (zgo_q xs L (d + 6) 186 2 _ _).trans ?_
    rw [S186_2 xs L (d + 1), h20, if_neg cm]
    repeat rw [if_pos zi]
    rw [i32_clamp (n := i) (by omega), nat_succ]
    have eno : ¬ zQd I k s i → zlst I k s (i + 1) = zlst I k s i := fun z => if_neg z
    by_cases c1 : I 79 i = Int32.ofNat s
    · rw [if_neg (fun z => (of_decide_eq_true z) c1)]
      by_cases c2 : I 80 i = -1
      · rw [if_pos (decide_eq_true c2), zth_go]
        rw [eno (fun z => z.2.1 c2)] at ih
        exact ih
      rw [if_neg (fun z => c2 (of_decide_eq_true z))]
      by_cases c3 : k < I 80 i
      · have c3t := i32_lt.mp c3
        rw [if_pos (decide_eq_true c3), zth_go]
        rw [eno (fun z => by have := z.2.2.1; omega)] at ih
        exact ih
      have c3t : (I 80 i).toInt ≤ k.toInt := by
        have : ¬ k.toInt < (I 80 i).toInt := fun z => c3 (i32_lt.mpr z)
        omega
      rw [if_neg (fun z => c3 (of_decide_eq_true z))]
      by_cases c4 : I 82 i = 0
      · rw [if_neg (fun z => (of_decide_eq_true z) c4), zth_go]
        rw [eno (fun z => z.2.2.2 c4)] at ih
        exact ih
      rw [if_pos (decide_eq_true (show ¬ I 82 i = 0 from c4))]
      have hQ : zQd I k s i := ⟨c1, c2, c3t, c4⟩
      cases hb : zlst I k s i with
      | none =>
        have e : zlst I k s (i + 1) = some i := by
          unfold zlst
          rw [if_pos hQ, hb]
        rw [if_pos (show decide (zlsto none = (-1 : Int32)) = true by decide), zth_go]
        rw [e] at ih
        exact ih
      | some c =>
        have hc := zlst_lt hb
        have zc : zix 0 40 0 (zlsto (some c)) := zix_nat rfl (by omega) (by omega)
        have ecl : (zlsto (some c)).toNatClampNeg = c := i32_clamp (by omega)
        rw [if_neg (show ¬ decide (zlsto (some c) = (-1 : Int32)) = true from fun z => nat_m1 (by omega) (of_decide_eq_true z)), if_pos zc, ecl]
        by_cases c5 : I 81 i ≤ I 81 c
        · have e : zlst I k s (i + 1) = some c := by
            unfold zlst
            rw [if_pos hQ, hb]
            exact if_pos (i32_le.mp c5)
          rw [if_pos (decide_eq_true c5), zth_go]
          rw [e] at ih
          exact ih
        · have e : zlst I k s (i + 1) = some i := by
            unfold zlst
            rw [if_pos hQ, hb]
            exact if_neg (fun z => c5 (i32_le.mpr z))
          rw [if_neg (fun z => c5 (of_decide_eq_true z)), zth_go]
          rw [e] at ih
          exact ih
    · rw [if_pos (decide_eq_true (show ¬ I 79 i = Int32.ofNat s from c1)), zth_go]
      rw [eno (fun z => c1 z.1)] at ih
      exact ih
theorem judge_eq (xs : Nat → Int32) (L D : Nat) (hD : 7 ≤ D) (I : Nat → Nat → Int32) (J : Nat → Nat → Int64) (X : XH) (k : Int32) (s m : Nat) (hm2 : m ≤ 40) (h20 : I 61 20 = Int32.ofNat m) (hs : s < 300) (hr : 0 ≤ (zrn I s (zlst I k s m)).toInt ∧ (zrn I s (zlst I k s m)).toInt < 40) (hl : 0 ≤ (I 65 (nv (zrn I s (zlst I k s m)))).toInt ∧ (I 65 (nv (zrn I s (zlst I k s m)))).toInt < 9) (hm : 0 ≤ (I 92 (zlandM I (zrn I s (zlst I k s m)))).toInt ∧ (I 92 (zlandM I (zrn I s (zlst I k s m)))).toInt ≤ 4) : zev xs L D 186 [.ref 61, .int (Int32.ofNat s), .int k] (zmk I J X) = some (.inr none, zmk (zup (zup I 108 s (zrn I s (zlst I k s m))) 109 s (zcf I k s (zlst I k s m) (zlateM I (zrn I s (zlst I k s m)) (I 76 s) k))) J X) := by
  obtain ⟨d, rfl⟩ := Nat.exists_eq_add_of_le hD
  rw [show 7 + d = d + 1 + 6 by omega]
  refine (zcS (S186_0 xs L (d + 1) I J X _ _)).trans ?_
  rw [zth_go]
  refine (judge_loop xs L d I J X k s m hm2 h20 hs m 0 (by omega)).trans ?_
  exact judge_fin xs L d I J X k s m _ hm2 h20 hs (fun c hc => by have := zlst_lt hc; omega) hr hl hm
