/-! THE PURE PART: the tape. -/
theorem bv_sh (v : BitVec 32) (s : Nat) (hs : s ≤ 24) : (v >>> s) &&& 255#32 = (v.sshiftRight s) &&& 255#32 := by
  apply BitVec.eq_of_getLsbD_eq
  intro i hi
  rw [BitVec.getLsbD_and, BitVec.getLsbD_and, BitVec.getLsbD_ushiftRight, BitVec.getLsbD_sshiftRight]
  by_cases c : i < 8
  · rw [if_pos (by omega), show decide (32 ≤ i) = false from decide_eq_false (by omega)]
    rfl
  · have h : ∀ i : Nat, i < 32 → 8 ≤ i → (255#32).getLsbD i = false := by decide
    rw [h i hi (by omega), Bool.and_false, Bool.and_false]
/-- the byte of a number that stands j bytes behind its first -/
def zby (x : Int32) (j : Nat) : Int32 := (x >>> (Int32.ofNat (24 - 8 * j) &&& 31)) &&& 255
theorem zby_0 (x : Int32) : ((x.toUInt32 >>> ((24 : Int32).toUInt32 &&& Int32.toUInt32 31)).toInt32) &&& 255 = zby x 0 := Int32.toBitVec.inj (bv_sh x.toBitVec 24 (by decide))
theorem zby_1 (x : Int32) : ((x.toUInt32 >>> ((16 : Int32).toUInt32 &&& Int32.toUInt32 31)).toInt32) &&& 255 = zby x 1 := Int32.toBitVec.inj (bv_sh x.toBitVec 16 (by decide))
theorem zby_2 (x : Int32) : ((x.toUInt32 >>> ((8 : Int32).toUInt32 &&& Int32.toUInt32 31)).toInt32) &&& 255 = zby x 2 := Int32.toBitVec.inj (bv_sh x.toBitVec 8 (by decide))
theorem zby_3 (x : Int32) : ((x.toUInt32 >>> ((0 : Int32).toUInt32 &&& Int32.toUInt32 31)).toInt32) &&& 255 = zby x 3 := Int32.toBitVec.inj (bv_sh x.toBitVec 0 (by decide))
theorem zby_rg (x : Int32) (j : Nat) : 0 ≤ (zby x j).toInt ∧ (zby x j).toInt ≤ 255 := by
  have h : ∀ y : Int32, 0 ≤ (y &&& 255).toInt ∧ (y &&& 255).toInt ≤ 255 := by
    intro y
    have h1 : (y.toBitVec &&& 255#32).toNat ≤ 255 := by
      rw [BitVec.toNat_and]
      exact Nat.and_le_right
    have h2 : (y &&& 255).toInt = (y.toBitVec &&& 255#32).toInt := rfl
    rw [h2, BitVec.toInt_eq_toNat_of_lt (by omega)]
    omega
  exact h _
/-- a row written on from place n -/
def zwr (f : Nat → Int32) : Nat → List Int32 → Nat → Int32
  | _, [] => f
  | n, v :: r => zwr (zset f n v) (n + 1) r
/-- the class's heap with its tape and length -/
def zfd (I : Nat → Nat → Int32) (n : Nat) (f : Nat → Int32) : Nat → Nat → Int32 := zup (zov I 36 f) 35 1 (Int32.ofNat n)
theorem zfd_step {I : Nat → Nat → Int32} {n : Nat} {f : Nat → Int32} {v : Int32} (h : n < 400) : zup (zput (zfd I n f) 36 400 (Int32.ofNat n) v) 35 1 (Int32.ofNat n + 1) = zfd I (n + 1) (zset f n v) := by
  rw [zput_nat (by omega) (by omega), nat_succ]
  funext a k
  unfold zfd zup zov zset
  by_cases c : a = 35
  · subst c
    by_cases c2 : k = 1 <;> simp [c2]
  · by_cases c3 : a = 36
    · subst c3
      simp
    · simp [c, c3]
/-- the model's heap with its tape and length -/
def zfm (I : Nat → Nat → Int32) (n : Nat) (f : Nat → Int32) : Nat → Nat → Int32 := zup (zov I 104 f) 61 57 (Int32.ofNat n)
theorem zfm_step {I : Nat → Nat → Int32} {n : Nat} {f : Nat → Int32} {v : Int32} (h : n < 400) : zup (zup (zfm I n f) 104 (Int32.ofNat n).toNatClampNeg v) 61 57 (Int32.ofNat n + 1) = zfm I (n + 1) (zset f n v) := by
  rw [i32_clamp (by omega), nat_succ]
  funext a k
  unfold zfm zup zov zset
  by_cases c : a = 61
  · subst c
    by_cases c2 : k = 57 <;> simp [c2]
  · by_cases c3 : a = 104
    · subst c3
      simp
    · simp [c, c3]
theorem append_eq (xs : Nat → Int32) (L D : Nat) (hD : 6 ≤ D) (I : Nat → Nat → Int32) (J : Nat → Nat → Int64) (X : XH) (n : Nat) (f : Nat → Int32) (x : Int32) (hn : n + 4 ≤ 400) : zev xs L D 43 [.ref 35, .int x] (zmk (zfd I n f) J X) = some (.inr none, zmk (zfd I (n + 4) (zwr f n [zby x 0, zby x 1, zby x 2, zby x 3])) J X) := by
  obtain ⟨d, rfl⟩ := Nat.exists_eq_add_of_le hD
  rw [Nat.add_comm 6 d]
  refine (zcS (S43_0 xs L d _ J X _)).trans ?_
  have hl : ∀ (n : Nat) (f : Nat → Int32), zfd I n f 35 1 = Int32.ofNat n := fun n f => zup_at
  rw [zth_go, zgo_q, S43_2, if_neg (by decide), zth_go, hl, zby_0, zfd_step (by omega)]
  rw [show (24 : Int32) + (-8) = 16 by decide, zgo_q, S43_2, if_neg (by decide), zth_go, hl, zby_1, zfd_step (by omega)]
  rw [show (16 : Int32) + (-8) = 8 by decide, zgo_q, S43_2, if_neg (by decide), zth_go, hl, zby_2, zfd_step (by omega)]
  rw [show (8 : Int32) + (-8) = 0 by decide, zgo_q, S43_2, if_neg (by decide), zth_go, hl, zby_3, zfd_step (by omega)]
  rw [show (0 : Int32) + (-8) = -8 by decide, zgo_q, S43_2, if_pos (by decide)]
  rfl
theorem zwr_app (f : Nat → Int32) : ∀ (n : Nat) (l r : List Int32), zwr f n (l ++ r) = zwr (zwr f n l) (n + l.length) r
  | n, [], r => rfl
  | n, v :: l, r => by
    show zwr (zset f n v) (n + 1) (l ++ r) = zwr (zwr (zset f n v) (n + 1) l) (n + (l.length + 1)) r
    rw [zwr_app (zset f n v) (n + 1) l r, show n + 1 + l.length = n + (l.length + 1) by omega]
/-- which of the five numbers a byte is of -/
def zwk (a b c d e : Int32) (k : Nat) : Int32 := if k < 4 then a else if k < 8 then b else if k < 12 then c else if k < 16 then d else e
theorem feed_sh : ∀ k, k < 20 → (24 : Int32) - (8 : Int32) * (Int32.ofNat k - Int32.ofNat k / (4 : Int32) * (4 : Int32)) = Int32.ofNat (24 - 8 * (k % 4)) := by decide
theorem feed_loop (xs : Nat → Int32) (L dd : Nat) (I : Nat → Nat → Int32) (J : Nat → Nat → Int64) (X : XH) (n : Nat) (hn : n + 20 ≤ 400) (a b c d e : Int32) : ∀ (j k : Nat) (f : Nat → Int32), k + j = 20 → zgo xs L (dd + 5) 158 3 [(0, .ref 61), (1, .int a), (2, .int b), (3, .int c), (4, .int d), (5, .int e), (6, .int (Int32.ofNat k))] (zmk (zfm I (n + k) f) J X) = some (.inr (some (.int (Int32.ofNat (n + 20)))), zmk (zfm I (n + 20) (zwr f (n + k) ((List.range' k j).map fun i => zby (zwk a b c d e i) (i % 4)))) J X)
  | 0, k, f, hk => by
    have hk : k = 20 := by omega
    subst hk
    have hl : ∀ (n : Nat) (f : Nat → Int32), zfm I n f 61 57 = Int32.ofNat n := fun n f => zup_at
    rw [zgo_q, S158_3, if_pos (by decide), hl]
    rfl
  | j + 1, k, f, hk => by
    have hl : ∀ (n : Nat) (f : Nat → Int32), zfm I n f 61 57 = Int32.ofNat n := fun n f => zup_at
    have ih := feed_loop xs L dd I J X n hn a b c d e j (k + 1) (zset f (n + k) (zby (zwk a b c d e k) (k % 4))) (by omega)
    have hz : zix 0 400 0 (Int32.ofNat (n + k)) := zix_nat rfl (by omega) (by omega)
    have hle : ∀ m : Nat, m < 2147483648 → (decide (Int32.ofNat m ≤ Int32.ofNat k) = true ↔ m ≤ k) := fun m hm => by
      rw [decide_eq_true_eq]
      exact nat_le hm (by omega)
    rw [zgo_q, S158_3, hl, feed_sh k (by omega), zfm_step (by omega), zfm_step (by omega), zfm_step (by omega), zfm_step (by omega), zfm_step (by omega), nat_succ]
    rw [if_pos hz, if_pos hz, if_pos hz, if_pos hz, if_pos hz]
    have l4 : decide ((4 : Int32) ≤ Int32.ofNat k) = true ↔ 4 ≤ k := hle 4 (by omega)
    have l8 : decide ((8 : Int32) ≤ Int32.ofNat k) = true ↔ 8 ≤ k := hle 8 (by omega)
    have l12 : decide ((12 : Int32) ≤ Int32.ofNat k) = true ↔ 12 ≤ k := hle 12 (by omega)
    have l16 : decide ((16 : Int32) ≤ Int32.ofNat k) = true ↔ 16 ≤ k := hle 16 (by omega)
    have l20 : decide ((20 : Int32) ≤ Int32.ofNat k) = true ↔ 20 ≤ k := hle 20 (by omega)
    rw [if_neg (fun z => by have := l20.mp z; omega)]
    have e1 : ((List.range' k (j + 1)).map fun i => zby (zwk a b c d e i) (i % 4)) = zby (zwk a b c d e k) (k % 4) :: ((List.range' (k + 1) j).map fun i => zby (zwk a b c d e i) (i % 4)) := rfl
    rw [e1]
    show _ = some (Sum.inr (some (Value.int (Int32.ofNat (n + 20)))), zmk (zfm I (n + 20) (zwr (zset f (n + k) (zby (zwk a b c d e k) (k % 4))) (n + k + 1) _)) J X)
    refine Eq.trans ?_ ih
    by_cases c4 : 4 ≤ k
    · rw [if_pos (l4.mpr c4)]
      by_cases c8 : 8 ≤ k
      · rw [if_pos (l8.mpr c8)]
        by_cases c12 : 12 ≤ k
        · rw [if_pos (l12.mpr c12)]
          by_cases c16 : 16 ≤ k
          · rw [if_pos (l16.mpr c16), zth_go]
            have ew : zwk a b c d e k = e := by
              unfold zwk
              rw [if_neg (by omega), if_neg (by omega), if_neg (by omega), if_neg (by omega)]
            rw [ew]
            rfl
          · rw [if_neg (fun z => c16 (l16.mp z)), zth_go]
            have ew : zwk a b c d e k = d := by
              unfold zwk
              rw [if_neg (by omega), if_neg (by omega), if_neg (by omega), if_pos (by omega)]
            rw [ew]
            rfl
        · rw [if_neg (fun z => c12 (l12.mp z)), zth_go]
          have ew : zwk a b c d e k = c := by
            unfold zwk
            rw [if_neg (by omega), if_neg (by omega), if_pos (by omega)]
          rw [ew]
          rfl
      · rw [if_neg (fun z => c8 (l8.mp z)), zth_go]
        have ew : zwk a b c d e k = b := by
          unfold zwk
          rw [if_neg (by omega), if_pos (by omega)]
        rw [ew]
        rfl
    · rw [if_neg (fun z => c4 (l4.mp z)), zth_go]
      have ew : zwk a b c d e k = a := by
        unfold zwk
        rw [if_pos (by omega)]
      rw [ew]
      rfl
/-- the tape, on both sides alike -/
def PTape (I : Nat → Nat → Int32) : Prop := (I 35 1 = I 61 57 ∧ 0 ≤ (I 61 57).toInt ∧ (I 61 57).toInt ≤ 400) ∧ I 36 = I 104 ∧ ∀ k, k < nv (I 61 57) → 0 ≤ (I 104 k).toInt ∧ (I 104 k).toInt ≤ 255
theorem zwr_at (P : Int32 → Prop) : ∀ (l : List Int32) (f : Nat → Int32) (n : Nat), (∀ v, v ∈ l → P v) → (∀ k, k < n → P (f k)) → ∀ k, k < n + l.length → P (zwr f n l k)
  | [], f, n, _, h, k, hk => h k hk
  | v :: l, f, n, hl, h, k, hk => by
    refine zwr_at P l (zset f n v) (n + 1) (fun w hw => hl w (List.mem_cons_of_mem _ hw)) (fun k hk => ?_) k (by
      have : (v :: l).length = l.length + 1 := rfl
      omega)
    by_cases c : k = n
    · rw [c, zset_at]
      exact hl v (List.mem_cons_self ..)
    · rw [zset_ne c]
      exact h k (by omega)
theorem feed_list (a b c d e : Int32) : ((List.range' 0 20).map fun i => zby (zwk a b c d e i) (i % 4)) = [zby a 0, zby a 1, zby a 2, zby a 3] ++ ([zby b 0, zby b 1, zby b 2, zby b 3] ++ ([zby c 0, zby c 1, zby c 2, zby c 3] ++ ([zby d 0, zby d 1, zby d 2, zby d 3] ++ [zby e 0, zby e 1, zby e 2, zby e 3]))) := rfl
theorem zfd_self {I : Nat → Nat → Int32} {n : Nat} (h : I 35 1 = Int32.ofNat n) : zfd I n (I 36) = I := by
  unfold zfd
  rw [zov_self, zup_ov, ← h]
  have : zset (I 35) 1 (I 35 1) = I 35 := by
    funext k
    unfold zset
    split
    · rename_i z
      rw [z]
    · rfl
  rw [this, zov_self]
theorem zfm_self {I : Nat → Nat → Int32} {n : Nat} (h : I 61 57 = Int32.ofNat n) : zfm I n (I 104) = I := by
  unfold zfm
  rw [zov_self, zup_ov, ← h]
  have : zset (I 61) 57 (I 61 57) = I 61 := by
    funext k
    unfold zset
    split
    · rename_i z
      rw [z]
    · rfl
  rw [this, zov_self]
theorem feed_c (n : Nat) (x : Int32) (hx : x = Int32.ofNat n) (hn : n ≤ 400) : decide (x + (20 : Int32) ≤ (400 : Int32)) = true ↔ n + 20 ≤ 400 := by
  rw [decide_eq_true_eq, hx]
  show Int32.ofNat _ + Int32.ofNat 20 ≤ Int32.ofNat 400 ↔ _
  rw [nat_add]
  exact nat_le (by omega) (by omega)
theorem feed_class (xs : Nat → Int32) (L dd : Nat) (I : Nat → Nat → Int32) (J : Nat → Nat → Int64) (X : XH) (a b c d e : Int32) (n : Nat) (hn : n + 20 ≤ 400) (h : I 35 1 = Int32.ofNat n) : zev xs L (dd + 7) 104 [.ref 0, .int a, .int b, .int c, .int d, .int e] (zmk I J X) = some (.inr (some (.int (Int32.ofNat (n + 4 + 4 + 4 + 4 + 4)))), zmk (zfd I (n + 4 + 4 + 4 + 4 + 4) (zwr (I 36) n ((List.range' 0 20).map fun i => zby (zwk a b c d e i) (i % 4)))) J X) := by
  refine (zcS (S104_0 xs L (dd + 1) I J X _ _ _ _ _)).trans ?_
  have hl : ∀ (n : Nat) (f : Nat → Int32), zfd I n f 35 1 = Int32.ofNat n := fun n f => zup_at
  rw [if_pos ((feed_c n _ h (by omega)).mpr hn), feed_list, zwr_app, zwr_app, zwr_app, zwr_app]
  have q : zmk I J X = zmk (zfd I n (I 36)) J X := by rw [zfd_self h]
  rw [q, append_eq xs L _ (by omega) I J X _ _ a (by omega), zcw_v, T104_1_4_689, append_eq xs L _ (by omega) I J X _ _ b (by omega), zcw_v, T104_1_8_685, append_eq xs L _ (by omega) I J X _ _ c (by omega), zcw_v, T104_1_12_681, append_eq xs L _ (by omega) I J X _ _ d (by omega), zcw_v, T104_1_16_677, append_eq xs L _ (by omega) I J X _ _ e (by omega), zcw_v, T104_1_20_673, hl, zth_ret]
  rfl
theorem feed_model (xs : Nat → Int32) (L dd : Nat) (I : Nat → Nat → Int32) (J : Nat → Nat → Int64) (X : XH) (a b c d e : Int32) (n : Nat) (hn : n + 20 ≤ 400) (h : I 61 57 = Int32.ofNat n) : zev xs L (dd + 6) 158 [.ref 61, .int a, .int b, .int c, .int d, .int e] (zmk I J X) = some (.inr (some (.int (Int32.ofNat (n + 20)))), zmk (zfm (zup I 61 1 0) (n + 20) (zwr (I 104) n ((List.range' 0 20).map fun i => zby (zwk a b c d e i) (i % 4)))) J X) := by
  refine (zcS (S158_0 xs L dd _ J X _ _ _ _ _)).trans ?_
  rw [if_pos ((feed_c n _ h (by omega)).mpr hn), zth_go]
  have q := feed_loop xs L dd (zup I 61 1 0) J X n hn a b c d e 20 0 (I 104) (by omega)
  have q2 : zfm (zup I 61 1 0) n (I 104) = zup I 61 1 0 := zfm_self (I := zup I 61 1 0) h
  rw [show n + 0 = n from rfl, q2] at q
  exact q
theorem a_feed (xs : Nat → Int32) (L dd : Nat) (I : Nat → Nat → Int32) (J : Nat → Nat → Int64) (X : XH) (a b c d e : Int32) (hF : PTape I) : ∃ v I1 I2, zev xs L (dd + 7) 104 [.ref 0, .int a, .int b, .int c, .int d, .int e] (zmk I J X) = some (.inr (some (.int v)), zmk I1 J X) ∧ zev xs L (dd + 7) 158 [.ref 61, .int a, .int b, .int c, .int d, .int e] (zmk I1 J X) = some (.inr (some (.int v)), zmk I2 J X) ∧ PTape I2 ∧ zfr8 [35, 36, 104] [1, 57] I I2 := by
  have hF0 := hF
  obtain ⟨⟨h1, h2, h3⟩, h4, h5⟩ := hF
  have hn := nv_int h2
  have en : I 61 57 = Int32.ofNat (nv (I 61 57)) := (nv_of h2).symm
  by_cases P : nv (I 61 57) + 20 ≤ 400
  · obtain ⟨fc, hfc⟩ : ∃ fc, fc = zwr (I 36) (nv (I 61 57)) ((List.range' 0 20).map fun i => zby (zwk a b c d e i) (i % 4)) := ⟨_, rfl⟩
    refine ⟨Int32.ofNat (nv (I 61 57) + 20), zfd I (nv (I 61 57) + 20) fc, zfm (zup (zfd I (nv (I 61 57) + 20) fc) 61 1 0) (nv (I 61 57) + 20) (zwr (I 104) (nv (I 61 57)) ((List.range' 0 20).map fun i => zby (zwk a b c d e i) (i % 4))), ?_, ?_, ?_, ?_⟩
    · rw [hfc]
      exact feed_class xs L dd I J X a b c d e _ P (h1.trans en)
    · exact feed_model xs L (dd + 1) _ J X a b c d e _ P en
    · have e57 : (Int32.ofNat (nv (I 61 57) + 20)).toInt = (nv (I 61 57) + 20 : Nat) := i32_toInt (by omega)
      refine ⟨⟨rfl, ?_, ?_⟩, ?_, ?_⟩
      · show 0 ≤ (Int32.ofNat (nv (I 61 57) + 20)).toInt
        omega
      · show (Int32.ofNat (nv (I 61 57) + 20)).toInt ≤ 400
        omega
      · show fc = zwr (I 104) (nv (I 61 57)) ((List.range' 0 20).map fun i => zby (zwk a b c d e i) (i % 4))
        rw [hfc, h4]
      · intro k hk
        have hk : k < nv (Int32.ofNat (nv (I 61 57) + 20)) := hk
        rw [nv_nat (by omega)] at hk
        exact zwr_at (fun v => 0 ≤ v.toInt ∧ v.toInt ≤ 255) ((List.range' 0 20).map fun i => zby (zwk a b c d e i) (i % 4)) (I 104) (nv (I 61 57)) (fun v hv => by
          obtain ⟨i, _, hi⟩ := List.mem_map.mp hv
          rw [← hi]
          exact zby_rg _ _) h5 k hk
    · exact zfr8_m (zfr8_ov (zfr8_m (zfr8_up (zfr8_ov zfr8_rfl (by decide) (by decide)) (by decide) (by decide)) (by decide)) (by decide) (by decide)) (by decide)
  · refine ⟨-1, I, zup I 61 1 0, ?_, ?_, hF0, zfr8_m zfr8_rfl (by decide)⟩
    · refine (zcS (S104_0 xs L (dd + 1) I J X _ _ _ _ _)).trans ?_
      rw [if_neg (fun z => P ((feed_c _ _ (h1.trans en) (by omega)).mp z))]
      rfl
    · refine (zcS (S158_0 xs L (dd + 1) _ J X _ _ _ _ _)).trans ?_
      rw [if_neg (fun z => P ((feed_c _ _ en (by omega)).mp z))]
      rfl
