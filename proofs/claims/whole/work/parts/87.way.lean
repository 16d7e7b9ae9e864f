/-! THE PURE PART: way on both sides. -/
theorem ymk_cg {f g : Nat → Int32} : ∀ n, (∀ i, i < n → f i = g i) → ymk f n = ymk g n
  | 0, _ => rfl
  | n + 1, h => by
    have ih := ymk_cg n (fun i hi => h i (by omega))
    show ymk f n ||| (if (12 : Int32) ≤ f n then 0 else (1 : Int32) <<< (f n &&& 31)) = _
    rw [ih, h n (by omega)]
    rfl
/-- a road of a row -/
def ywb (a : Int64) (i : Nat) : Int32 := ((a >>> (((6 : Int32) * Int32.ofNat i).toInt64 &&& 63)) &&& (Int64.ofNat 63)).toInt32
theorem w_sh : ∀ i, i < 6 → ((((6 : Int32) * Int32.ofNat i).toInt64 &&& 63).toBitVec.smod 64).toNat = 6 * i := by decide
theorem w_sh2 : ∀ i, i < 6 → (((((6 : Int32) * Int32.ofNat i).toInt64.toUInt64 &&& Int64.toUInt64 63).mod 64).toBitVec).toNat = 6 * i := by decide
theorem w_63 : ∀ t, t < 64 → (63#64).getLsbD t = decide (t < 6) := by decide
theorem ywb_eq (a : Int64) (i : Nat) (hi : i < 6) : ((((a.toUInt64 >>> (((6 : Int32) * Int32.ofNat i).toInt64.toUInt64 &&& Int64.toUInt64 63)).toInt64) &&& (Int64.ofNat 63)).toInt32) = ywb a i := by
  unfold ywb
  have e : ((a.toUInt64 >>> (((6 : Int32) * Int32.ofNat i).toInt64.toUInt64 &&& Int64.toUInt64 63)).toInt64 &&& Int64.ofNat 63) = ((a >>> (((6 : Int32) * Int32.ofNat i).toInt64 &&& 63)) &&& (Int64.ofNat 63)) := by
    apply Int64.toBitVec_inj.1
    show (a.toBitVec >>> ((((6 : Int32) * Int32.ofNat i).toInt64.toUInt64 &&& Int64.toUInt64 63).mod 64).toBitVec.toNat) &&& 63#64 = (a.toBitVec.sshiftRight ((((6 : Int32) * Int32.ofNat i).toInt64 &&& 63).toBitVec.smod 64).toNat) &&& 63#64
    rw [w_sh i hi, w_sh2 i hi]
    apply BitVec.eq_of_getLsbD_eq
    intro t ht
    rw [BitVec.getLsbD_and, BitVec.getLsbD_and, w_63 t ht, BitVec.getLsbD_ushiftRight, BitVec.getLsbD_sshiftRight, decide_eq_false (show ¬ 64 ≤ t by omega)]
    by_cases c : t < 6
    · rw [if_pos (by omega)]
      rfl
    · rw [decide_eq_false c, Bool.and_false, Bool.and_false]
  rw [e]
theorem w_32 : ∀ n, n < 64 → (Int64.ofNat n).toInt32 = Int32.ofNat n := by decide
theorem ywb_rg (a : Int64) (i : Nat) : 0 ≤ (ywb a i).toInt ∧ (ywb a i).toInt ≤ 63 := by
  unfold ywb
  obtain ⟨x, hx⟩ : ∃ x, x = a >>> (((6 : Int32) * Int32.ofNat i).toInt64 &&& 63) := ⟨_, rfl⟩
  rw [← hx]
  have h1 : (x &&& Int64.ofNat 63) = Int64.ofNat (x.toBitVec.toNat &&& 63) := by
    apply Int64.toBitVec_inj.1
    show x.toBitVec &&& 63#64 = BitVec.ofNat 64 (x.toBitVec.toNat &&& 63)
    rw [BitVec.ofNat_and, BitVec.ofNat_toNat, BitVec.setWidth_eq]
  have h2 : x.toBitVec.toNat &&& 63 ≤ 63 := Nat.and_le_right
  rw [h1, w_32 _ (by omega), i32_toInt (by omega)]
  omega
/-- the model's row after so many roads -/
def ywr (f : Nat → Int32) (o : Nat) (a : Int64) : Nat → Nat → Int32
  | 0 => f
  | i + 1 => zset (ywr f o a i) (o + i) (ywb a i)
theorem ywr_at (f : Nat → Int32) (o : Nat) (a : Int64) : ∀ n i, i < n → ywr f o a n (o + i) = ywb a i
  | 0, i, h => absurd h (Nat.not_lt_zero i)
  | n + 1, i, h => by
    by_cases c : i = n
    · subst c
      exact zset_at
    · exact (zset_ne (by omega)).trans (ywr_at f o a n i (by omega))
theorem ywr_ne (f : Nat → Int32) (o : Nat) (a : Int64) : ∀ n j, j < o → ywr f o a n j = f j
  | 0, _, _ => rfl
  | n + 1, j, h => (zset_ne (by omega)).trans (ywr_ne f o a n j h)
theorem takes_c (xs : Nat → Int32) (L D : Nat) (hD : 6 ≤ D) (I : Nat → Nat → Int32) (J : Nat → Nat → Int64) (X : XH) (a b : Int32) : zev xs L D 92 [.ref 57, .int a, .int b] (zmk I J X) = some (.inr (some (.int (if (I 57 0).toInt < 20 ∧ (1 ≤ a.toInt ∧ a.toInt ≤ 6) ∧ 1 ≤ b.toInt ∧ b.toInt ≤ 999 then 1 else 0))), zmk I J X) := by
  obtain ⟨d, rfl⟩ := Nat.exists_eq_add_of_le hD
  rw [Nat.add_comm 6 d]
  refine (zcS (S92_0 xs L d I J X a b)).trans ?_
  simp only [decide_eq_true_eq, zbi_eq0, i32_le, i32_lt, Int32.reduceToInt]
  by_cases c1 : 20 ≤ (I 57 0).toInt
  · rw [if_pos c1, if_neg (by omega)]
    rfl
  rw [if_neg c1]
  by_cases c2 : 1 ≤ a.toInt ∧ a.toInt ≤ 6
  · rw [if_neg (by omega)]
    by_cases c3 : 1 ≤ b.toInt ∧ b.toInt ≤ 999
    · rw [if_neg (by omega), if_pos ⟨by omega, c2, c3⟩]
      rfl
    · rw [if_pos (by omega), if_neg (by omega)]
      rfl
  · rw [if_pos (by omega), if_neg (by omega)]
    rfl
/-- do the first n roads of a row stand -/
def ywok (R : Int32) (a : Int64) (n : Nat) : Prop := ∀ i, i < n → (ywb a i).toInt < R.toInt
theorem wadd_loop (xs : Nat → Int32) (L d : Nat) (I : Nat → Nat → Int32) (J : Nat → Nat → Int64) (X : XH) (a : Int64) (b : Int32) (n : Nat) (hn : n ≤ 6) : ∀ (q i : Nat), i + q = n → zgo xs L (d + 5) 94 2 [(0, .ref 57), (1, .int (Int32.ofNat n)), (2, .long a), (4, .int b), (5, .int (ymk (ywb a) i)), (6, .int (Int32.ofNat i))] (zmk I J X) = some (.inr (some (.int (I 57 0))), zmk (zup (zup (zput (zput I 58 20 (I 57 0) (ymk (ywb a) n)) 59 20 (I 57 0) b) 57 4 0) 57 0 (I 57 0 + 1)) J X)
  | 0, i, hi => by
    have hi : i = n := hi
    rw [zgo_q, S94_2 xs L d, if_pos (decide_eq_true ((nat_le (by omega) (by omega)).mpr (by omega))), hi]
    rfl
  | q + 1, i, hi => by
    have ih := wadd_loop xs L d I J X a b n hn q (i + 1) (by omega)
    have e : ymk (ywb a) (i + 1) = ymk (ywb a) i ||| (if (12 : Int32) ≤ ywb a i then 0 else (1 : Int32) <<< (ywb a i &&& 31)) := rfl
    rw [zgo_q, S94_2 xs L d, if_neg (fun z => by
      have := (nat_le (by omega) (by omega)).mp (of_decide_eq_true z)
      omega), ywb_eq a i (by omega)]
    refine Eq.trans ?_ ih
    rw [e]
    by_cases c : (12 : Int32) ≤ ywb a i
    · rw [if_pos (decide_eq_true c), if_pos c, zth_go, nat_succ]
    · rw [if_neg (fun z => c (of_decide_eq_true z)), if_neg c, zth_go, nat_succ]
theorem wayc_loop (xs : Nat → Int32) (L d : Nat) (I : Nat → Nat → Int32) (J : Nat → Nat → Int64) (X : XH) (a : Int64) (b : Int32) (n m : Nat) (hn : n ≤ 6) (h0 : I 57 0 = Int32.ofNat m) (hm : m < 20) : ∀ (q i : Nat), i + q = n → ywok (I 1 1) a i → zgo xs L (d + 2 + 5) 135 3 [(0, .ref 0), (1, .int (Int32.ofNat n)), (2, .long a), (4, .int b), (5, .int (Int32.ofNat i))] (zmk I J X) = (if ∀ i, i < n → (ywb a i).toInt < (I 1 1).toInt then some (.inr (some (.int (Int32.ofNat m))), zmk (zup (zup (zup (zup I 58 m (ymk (ywb a) n)) 59 m b) 57 4 0) 57 0 (Int32.ofNat (m + 1))) J X) else some (.inl 0, zmk I J (zXe X)))
  | 0, i, hi, hk => by
    have hi : i = n := hi
    subst hi
    have q := wadd_loop xs L (d + 1) I J X a b i hn i 0 (Nat.zero_add _)
    have zp : ∀ (I : Nat → Nat → Int32) (o : Nat) (v : Int32), zput I o 20 (Int32.ofNat m) v = zup I o m v := fun I o v => zput_nat (by omega) (by omega)
    rw [h0, zp, zp, nat_succ] at q
    have c94 : zev xs L (d + 2 + 5) 94 [.ref 57, .int (Int32.ofNat i), .long a, .int b] (zmk I J X) = some (.inr (some (.int (Int32.ofNat m))), zmk (zup (zup (zup (zup I 58 m (ymk (ywb a) i)) 59 m b) 57 4 0) 57 0 (Int32.ofNat (m + 1))) J X) := by
      refine (zcS (S94_0 xs L (d + 1) I J X _ a b)).trans ?_
      rw [zth_go]
      exact q
    rw [zgo_q, S135_3 xs L (d + 2), if_pos (decide_eq_true ((nat_le (by omega) (by omega)).mpr (Nat.le_refl _))), c94, zci_i, T135_4_6_691 xs L (d + 2), if_pos (show ∀ t, t < i → (ywb a t).toInt < (I 1 1).toInt from hk)]
    rfl
  | q + 1, i, hi, hk => by
    have hb := ywb_rg a i
    rw [zgo_q, S135_3 xs L (d + 2), if_neg (fun z => by
      have := (nat_le (by omega) (by omega)).mp (of_decide_eq_true z)
      omega), ywb_eq a i (by omega)]
    by_cases c : (ywb a i).toInt < (I 1 1).toInt
    · have ih := wayc_loop xs L d I J X a b n m hn h0 hm q (i + 1) (by omega) (fun t ht => by
        by_cases e : t = i
        · rw [e]
          exact c
        · exact hk t (by omega))
      rw [need_ok xs L (d + 2 + 5) (by omega) I J X _ _ ⟨hb.1, c⟩, zcw_v, T135_3_11_689 xs L (d + 2), zth_go, nat_succ]
      exact ih
    · rw [need_no xs L (d + 2 + 5) (by omega) I J X _ _ (fun z => c z.2), zcw_x, zthr_P rfl, if_neg (fun z => c (z i (by omega)))]
      rfl
theorem waym_loop (xs : Nat → Int32) (L d : Nat) (M : Nat → Nat → Int32) (J : Nat → Nat → Int64) (X : XH) (a : Int64) (b : Int32) (n m : Nat) (hn : n ≤ 6) (h69 : M 61 69 = Int32.ofNat m) (hm : m < 20) (f : Nat → Int32) : ∀ (q i : Nat), i + q = n → (∀ t, t < i → (ywb a t).toInt < (M 61 4).toInt) → ∃ N, zgo xs L (d + 5) 206 4 [(0, .ref 61), (1, .int (Int32.ofNat n)), (2, .long a), (4, .int b), (5, .int (Int32.ofNat i))] (zmk (zov M 107 (ywr f (6 * m) a i)) J X) = some (.inr (some (.int (if ∀ t, t < n → (ywb a t).toInt < (M 61 4).toInt then Int32.ofNat m else 0))), zmk N J X) ∧ ((∀ t, t < n → (ywb a t).toInt < (M 61 4).toInt) → N = zup (zup (zup (zov M 107 (ywr f (6 * m) a n)) 105 m (Int32.ofNat n)) 106 m b) 61 69 (Int32.ofNat (m + 1))) ∧ (¬ (∀ t, t < n → (ywb a t).toInt < (M 61 4).toInt) → ∃ t, N = zup (zov M 107 (ywr f (6 * m) a t)) 61 1 1)
  | 0, i, hi, hk => by
    have hi : i = n := hi
    subst hi
    have e69 : zov M 107 (ywr f (6 * m) a i) 61 69 = Int32.ofNat m := h69
    have em : (Int32.ofNat m).toNatClampNeg = m := i32_clamp (by omega)
    have zm : zix 0 20 0 (Int32.ofNat m) := zix_nat rfl (by omega) (by omega)
    refine ⟨_, ?_, fun _ => rfl, fun z => absurd hk z⟩
    rw [zgo_q, S206_4 xs L d, if_pos (decide_eq_true ((nat_le (by omega) (by omega)).mpr (Nat.le_refl _))), e69, if_pos zm, if_pos zm, em, nat_succ, if_pos hk]
    have e1 : Int32.ofNat (m + 1) - 1 = Int32.ofNat m := by
      rw [← nat_succ, Int32.add_sub_cancel]
    rw [e1]
    rfl
  | q + 1, i, hi, hk => by
    have hb := ywb_rg a i
    have e69 : zov M 107 (ywr f (6 * m) a i) 61 69 = Int32.ofNat m := h69
    have e4 : zov M 107 (ywr f (6 * m) a i) 61 4 = M 61 4 := rfl
    have ei : (6 : Int32) * Int32.ofNat m + Int32.ofNat i = Int32.ofNat (6 * m + i) := by
      show Int32.ofNat 6 * Int32.ofNat m + Int32.ofNat i = _
      rw [nat_mul, nat_add]
    have zi : zix 0 120 0 (Int32.ofNat (6 * m + i)) := zix_nat rfl (by omega) (by omega)
    have eI : (Int32.ofNat (6 * m + i)).toNatClampNeg = 6 * m + i := i32_clamp (by omega)
    have S := zgo_q xs L (d + 5) 206 4 [(0, .ref 61), (1, .int (Int32.ofNat n)), (2, .long a), (4, .int b), (5, .int (Int32.ofNat i))] (zmk (zov M 107 (ywr f (6 * m) a i)) J X)
    rw [S206_4 xs L d, if_neg (fun z => by
      have := (nat_le (by omega) (by omega)).mp (of_decide_eq_true z)
      omega), e69, e4, ei] at S
    have ew : ((a >>> (((6 : Int32) * Int32.ofNat i).toInt64 &&& 63)) &&& (Int64.ofNat 63)).toInt32 = ywb a i := rfl
    rw [ew] at S
    simp only [decide_eq_true_eq, zbi_eq0, i32_le, i32_lt, Int32.reduceToInt] at S
    by_cases c : (ywb a i).toInt < (M 61 4).toInt
    · have hk' : ∀ t, t < i + 1 → (ywb a t).toInt < (M 61 4).toInt := fun t ht => by
        by_cases e : t = i
        · rw [e]
          exact c
        · exact hk t (by omega)
      obtain ⟨N, n1, n2, n3⟩ := waym_loop xs L d M J X a b n m hn h69 hm f q (i + 1) (by omega) hk'
      rw [if_pos (by omega), if_pos zi, eI, zup_zov, zth_go, nat_succ] at S
      exact ⟨N, S.trans n1, n2, n3⟩
    · rw [if_neg (by omega)] at S
      have hno : ¬ ∀ t, t < n → (ywb a t).toInt < (M 61 4).toInt := fun z => c (z i (by omega))
      refine ⟨_, ?_, fun z => absurd z hno, fun _ => ⟨i, rfl⟩⟩
      rw [if_neg hno]
      exact S
