/-! THE PURE PART: the model tells a track. -/
theorem clr_loop (xs : Nat → Int32) (L d : Nat) (M : Nat → Nat → Int32) (J : Nat → Nat → Int64) (X : XH) (a1 a2 : Int32) (f : Nat → Int32) : ∀ (j i : Nat), i + j = 27 → zgo xs L (d + 5) 193 2 [(0, .ref 61), (1, .int a1), (2, .int a2), (3, .int (Int32.ofNat i))] (zmk (zov M 117 (zpre (fun _ => 0) f i)) J X) = zgo xs L (d + 5) 193 5 [(0, .ref 61), (1, .int a1), (2, .int a2), (3, .int (Int32.ofNat 0))] (zmk (zov M 117 (zpre (fun _ => 0) f 27)) J X)
  | 0, i, hi => by
    have hi : i = 27 := by omega
    subst hi
    rw [zgo_q, S193_2, if_pos (by decide)]
    rfl
  | j + 1, i, hi => by
    have ih := clr_loop xs L d M J X a1 a2 f j (i + 1) (by omega)
    have zi : zix 0 27 0 (Int32.ofNat i) := zix_nat rfl (by omega) (by omega)
    have hp : zset (zpre (fun _ => (0 : Int32)) f i) i 0 = zpre (fun _ => 0) f (i + 1) := zpre_succ (N := fun _ => 0)
    rw [zgo_q, S193_2, if_neg (fun z => by
      have := (nat_le (a := 27) (b := i) (by omega) (by omega)).mp (of_decide_eq_true z)
      omega), if_pos zi, zth_go, nat_succ, i32_clamp (n := i) (by omega), zup_zov, hp]
    exact ih
/-- a box's track -/
noncomputable def ytk (V : Nat → Nat → Int32) (k : Int32) (b : Nat) : List ZP := zrw V k none (ysg V k (Int32.ofNat b) (nv (V 61 19)) 0)
noncomputable def ybr (V : Nat → Nat → Int32) (k : Int32) (b : Nat) : Nat := zbk V k none (ysg V k (Int32.ofNat b) (nv (V 61 19)) 0)
theorem ytk_ok {V : Nat → Nat → Int32} (hB : PB V) (k : Int32) (b : Nat) : ∀ x, x ∈ ytk V k b → yok V k x := by
  refine zrw_ok hB k _ none (fun q h => by cases h) (fun s hs => ?_)
  obtain ⟨p, _, p2, p3, p4⟩ := ysg_mem.mp hs
  have hS := hB.2.2.2.1
  have h1 := hS.2.2.2.1 p (by omega)
  have n1 := nv_int h1.1
  have n19 := nv_int hS.1.2.1
  have p3 := of_decide_eq_true p3
  rw [p4] at p3
  exact ⟨by omega, p3.2⟩
theorem track_m (xs : Nat → Int32) (L D : Nat) (hD : 11 ≤ D) {V M : Nat → Nat → Int32} (J : Nat → Nat → Int64) (X : XH) {C : Nat → List (Bool × List Int32)} (k : Int32) (b : Nat) (hB : PB V) (hM : yMH V k M) {Y : XH} (hT : PTm V Y C k) (hb : b < nv (V 61 7)) : ∃ M', zev xs L D 189 [.ref 61, .int (Int32.ofNat b), .int k] (zmk M J X) = some (.inr none, zmk M' J X) ∧ yhas M' (ytk V k b) ∧ M' 61 77 = Int32.ofNat (ybr V k b) ∧ yric V C k b M' 0 (fun _ => 0) (ytk V k b) ∧ zfr8 [102, 103, 111, 112, 113, 114, 115, 116, 117, 118] [76, 77] M M' ∧ (ytk V k b).length ≤ 7200 ∧ ybr V k b ≤ 300 := by
  obtain ⟨d, rfl⟩ := Nat.exists_eq_add_of_le hD
  rw [show 11 + d = d + 5 + 6 by omega]
  have hB0 := hB
  obtain ⟨hN, hL, hF, hS, hDi, hRd, hX⟩ := hB
  have n19 := nv_int hS.1.2.1
  have h300 := hS.1.2.2
  have row : ∀ c, 61 < c → c ≤ 121 → c ∉ [102, 103, 108, 109, 110, 111, 112, 113, 114, 115, 116, 117, 118] → M c = V c := hM.1
  have y0 : yin V k (Int32.ofNat b) 0 0 (M 111) := ⟨Nat.le_refl _, fun i hi => absurd hi (Nat.not_lt_zero i), fun i j _ hj => absurd hj (Nat.not_lt_zero j), fun q hq => absurd hq (Nat.not_lt_zero q)⟩
  obtain ⟨c, o, hi, g1⟩ := ord_loop xs L (d + 5) V M J X k (Int32.ofNat b) (nv (V 61 19)) rfl (by rw [hM.2.1 19 (by decide), nv_of hS.1.2.1]) (by omega) (row 74 (by decide) (by decide) (by decide)) (row 76 (by decide) (by decide) (by decide)) hM.2.2.2.1 (nv (V 61 19)) 0 0 (M 111) (by omega) y0
  rw [zov_self] at g1
  have frz : zfr8 [102, 103, 111, 112, 113, 114, 115, 116, 117, 118] [76, 77] M (zup (zup (zov M 111 o) 61 76 0) 61 77 0) := zfr8_m (zfr8_m (zfr8_ov zfr8_rfl (by decide) (by decide)) (by decide)) (by decide)
  have hMz := yMH_fr hM frz
  have hbrk : ∀ (l : List Nat) (o : Option Nat), zbk V k o l ≤ l.length := by
    intro l
    induction l with
    | nil =>
      intro o
      cases o <;> exact Nat.le_refl _
    | cons s l ih =>
      intro o
      have := ih (some s)
      cases o with
      | none =>
        show zbk V k (some s) l ≤ l.length + 1
        omega
      | some q =>
        have e : zbr V k q s ≤ 1 := by
          unfold zbr
          split <;> omega
        show zbr V k q s + zbk V k (some s) l ≤ l.length + 1
        omega
  obtain ⟨M1, q1, q2, q3, q4, q5⟩ := lay_loop xs L (d + 3) J X k (Int32.ofNat b) c o hB0 hi c 0 0 [] (zup (zup (zov M 111 o) 61 76 0) 61 77 0) (Nat.zero_add _) hMz rfl ⟨rfl, trivial⟩ (Nat.zero_le _) rfl
  have hsg := yin_sg hB0 hi
  have hc := hi.1
  have ey : yprev o 0 = none := rfl
  rw [ey, hsg, List.nil_append] at q2 q3
  rw [ey, hsg, Nat.zero_add] at q4
  have hM1 := yMH_4 hMz q5
  have h76 := q2.1
  have S := zcS (as := [.ref 61, .int (Int32.ofNat b), .int k]) (S189_0 xs L (d + 5) M J X (Int32.ofNat b) k)
  rw [zth_go] at S
  have S2 := zgo_q xs L (d + 5 + 5) 189 8 [(0, .ref 61), (1, .int (Int32.ofNat b)), (2, .int k), (3, .int (Int32.ofNat c)), (4, .int (Int32.ofNat c))] (zmk M1 J X)
  rw [S189_8 xs L (d + 5), if_pos (decide_eq_true ((nat_le (by omega) (by omega)).mpr (Nat.le_refl _)))] at S2
  have frc : zfr8 [102, 103, 115, 116, 117, 118] [] M1 (zov M1 117 (zpre (fun _ => 0) (M1 117) 27)) := zfr8_ov zfr8_rfl (by decide) (by decide)
  obtain ⟨M', r1, r2, r3, r4⟩ := rich_loop xs L d J X k b (zrw V k none (ysg V k (Int32.ofNat b) (nv (V 61 19)) 0)).length hB0 hT hb (by omega) (zrw V k none (ysg V k (Int32.ofNat b) (nv (V 61 19)) 0)) 0 (zov M1 117 (zpre (fun _ => 0) (M1 117) 27)) (Nat.zero_add _) (yMH_r hM1 frc) h76 (yr3_cg (M := M1) (fun j _ _ => ⟨rfl, rfl, rfl⟩) q2.2) (ytk_ok hB0 k b)
  have g193 : zev xs L (d + 5 + 5) 193 [.ref 61, .int (Int32.ofNat b), .int k] (zmk M1 J X) = some (.inr none, zmk M' J X) := by
    refine (zcS (S193_0 xs L (d + 4) M1 J X (Int32.ofNat b) k)).trans ?_
    rw [zth_go]
    have q := clr_loop xs L (d + 4) M1 J X (Int32.ofNat b) k (M1 117) 27 0 (by omega)
    rw [zpre_0, zov_self] at q
    exact q.trans r1
  rw [g193, zcw_v, T189_10_4_693 xs L (d + 5)] at S2
  have hok := ytk_ok hB0 k b
  refine ⟨M', S.trans (g1.trans (q1.trans S2)), ⟨?_, ?_⟩, ?_, ?_, ?_, ?_, ?_⟩
  · rw [r3.2 76 (by decide)]
    exact h76
  · exact yr3_cg (M := M1) (fun j _ _ => ⟨by rw [r3.1 112 (by decide) (by decide)]; rfl, by rw [r3.1 113 (by decide) (by decide)]; rfl, by rw [r3.1 114 (by decide) (by decide)]; rfl⟩) q2.2
  · rw [r3.2 77 (by decide)]
    exact q4
  · refine yric_cg hRd hL (fun x hx => (hok x hx).1) (fun c hc => ?_) (fun j _ _ => ⟨rfl, rfl, rfl⟩) r2
    rw [zov_at, zpre_lt hc]
  · refine zfr8_tr (zfr8_tr (zfr8_tr frz q5 (fun b hb => ?_) (fun _ h => h)) frc (fun b hb => ?_) (fun b hb => by cases hb)) r3 (fun b hb => ?_) (fun b hb => by cases hb)
    · simp only [List.mem_cons, List.not_mem_nil, or_false] at hb ⊢
      omega
    · simp only [List.mem_cons, List.not_mem_nil, or_false] at hb ⊢
      omega
    · simp only [List.mem_cons, List.not_mem_nil, or_false] at hb ⊢
      omega
  · show (zrw V k none (ysg V k (Int32.ofNat b) (nv (V 61 19)) 0)).length ≤ 7200
    omega
  · have h1 := hbrk (ysg V k (Int32.ofNat b) (nv (V 61 19)) 0) none
    have h2 : (ysg V k (Int32.ofNat b) (nv (V 61 19)) 0).length ≤ 300 := by
      rw [← hsg, yol_len]
      omega
    unfold ybr
    omega
