/-! THE PURE PART: the class's walk meets a signal, looks for guessed roads, goes a step. -/
theorem e67 (xs : Nat → Int32) (L D : Nat) (hD : 6 ≤ D) (I : Nat → Nat → Int32) (J : Nat → Nat → Int64) (X : XH) (i : Int32) : zev xs L D 67 [.ref 26, .int i] (zmk I J X) = some (.inr (some (.int (zat I 32 300 i))), zmk I J X) := by
  obtain ⟨d, rfl⟩ := Nat.exists_eq_add_of_le hD
  rw [Nat.add_comm 6 d, ← zfz_eq]
  rfl
theorem e73 (xs : Nat → Int32) (L D : Nat) (hD : 6 ≤ D) (I : Nat → Nat → Int32) (J : Nat → Nat → Int64) (X : XH) (i : Int32) : zev xs L D 73 [.ref 26, .int i] (zmk I J X) = some (.inr (some (.int (zat I 33 300 i))), zmk I J X) := by
  obtain ⟨d, rfl⟩ := Nat.exists_eq_add_of_le hD
  rw [Nat.add_comm 6 d, ← zfz_eq]
  rfl
theorem e68 (xs : Nat → Int32) (L D : Nat) (hD : 6 ≤ D) (I : Nat → Nat → Int32) (J : Nat → Nat → Int64) (X : XH) (i : Int32) : zev xs L D 68 [.ref 26, .int i] (zmk I J X) = some (.inr (some (.int (zat I 29 300 i))), zmk I J X) := by
  obtain ⟨d, rfl⟩ := Nat.exists_eq_add_of_le hD
  rw [Nat.add_comm 6 d, ← zfz_eq]
  rfl
theorem e77 (xs : Nat → Int32) (L D : Nat) (hD : 6 ≤ D) (I : Nat → Nat → Int32) (J : Nat → Nat → Int64) (X : XH) (i : Int32) : zev xs L D 77 [.ref 26, .int i] (zmk I J X) = some (.inr (some (.int (zbi (¬ zat I 34 300 i = 0)))), zmk I J X) := by
  obtain ⟨d, rfl⟩ := Nat.exists_eq_add_of_le hD
  rw [Nat.add_comm 6 d, ← zfz_eq]
  rfl
theorem zup_49 {H : Nat → Nat → Int32} {i j : Nat} {v : Int32} (h : j ≠ i) : zup H 49 i v 49 j = H 49 j := by
  unfold zup
  rw [if_pos rfl, if_neg h]
/-- facts of a signal that counts -/
theorem sig_ok {V : Nat → Nat → Int32} (hB : PB V) (k : Int32) {s : Nat} (hs : s < nv (V 61 19)) : (0 ≤ (zrnS V k s).toInt ∧ (zrnS V k s).toInt < 40) ∧ nv (zrnS V k s) < nv (V 61 4) ∧ Int32.ofNat (nv (zrnS V k s)) = zrnS V k s ∧ (V 64 (nv (zrnS V k s)) = Int32.ofNat (zEn V k s) ∧ zEn V k s < 24) ∧ (V 63 (nv (zrnS V k s)) = Int32.ofNat (zBg V k s) ∧ zBg V k s < 24) ∧ (0 ≤ (V 76 s).toInt ∧ (V 76 s).toInt ≤ 129599) ∧ s < 300 := by
  obtain ⟨hN, hL, _, hS, hD, hR, _⟩ := hB
  have r1 := (rn_rg hS hD hR hL k s hs).1
  have n1 := nv_int r1.1
  have n4 := nv_int hR.1.2.1
  have h40 := hR.1.2.2
  have hlt : nv (zrnS V k s) < nv (V 61 4) := by omega
  obtain ⟨⟨q1, q2, _⟩, _⟩ := hR.2.2.1 _ hlt
  have m1 := nv_int q1.1
  have m2 := nv_int q2.1
  have n19 := nv_int hS.1.2.1
  have h300 := hS.1.2.2
  have ht := (hS.2.2.1 s hs).2.2.1
  have hg := hN.2.2
  refine ⟨by omega, hlt, nv_of r1.1, ⟨(nv_of q2.1).symm, ?_⟩, ⟨(nv_of q1.1).symm, ?_⟩, by omega, by omega⟩
  · unfold zEn
    omega
  · unfold zBg
    omega
theorem aim_y (xs : Nat → Int32) (L D : Nat) (hD : 7 ≤ D) {V H : Nat → Nat → Int32} (J : Nat → Nat → Int64) (X : XH) (k b : Int32) (q s a0 β : Nat) (hB : PB V) (hC : zCH V k H) (hs : s < nv (V 61 19)) (hq : q ≤ nv (V 61 19)) (h10 : H 49 10 = zfst (zqs V k b) (nv (V 61 19) - q) q) (h13 : H 49 13 = zrnS V k s) (h14 : H 49 14 = V 76 s) (h11 : H 49 11 = Int32.ofNat a0) (h12 : H 49 12 = Int32.ofNat a0) (ha : a0 < 24) (h18 : H 49 18 = Int32.ofNat β) : ∃ H4, zev xs L D 86 [.ref 49] (zmk H J X) = some (.inr none, zmk H4 J X) ∧ zfr8 [49] [] H H4 ∧ (∀ j, j ≠ 11 → j ≠ 12 → j ≠ 18 → H4 49 j = H 49 j) ∧ ∃ (g : List Nat) (a c β' : Nat), H4 49 11 = Int32.ofNat a ∧ H4 49 12 = Int32.ofNat c ∧ a < 24 ∧ c < 24 ∧ zGs V c a g ∧ zrw V k (some s) (ysg V k b (nv (V 61 19) - q) q) = g.map (zgp (V 76 s)) ++ zrw V k none (ysg V k b (nv (V 61 19) - q) q) ∧ H4 49 18 = Int32.ofNat β' ∧ β' + zbk V k none (ysg V k b (nv (V 61 19) - q) q) = β + zbk V k (some s) (ysg V k b (nv (V 61 19) - q) q) := by
  obtain ⟨d, rfl⟩ := Nat.exists_eq_add_of_le hD
  rw [show 7 + d = d + 1 + 6 by omega]
  have hB0 := hB
  obtain ⟨hN, hL, _, hS, hDi, hR, _⟩ := hB
  obtain ⟨s1, s2, s3, s4, s5, s6, s7⟩ := sig_ok hB0 k hs
  have n19 := nv_int hS.1.2.1
  have h300 := hS.1.2.2
  have r2 : H 2 = V 63 := (hC.1 2 (by decide) (by decide)).trans hR.2.1.1
  have r3 : H 3 = V 64 := (hC.1 3 (by decide) (by decide)).trans hR.2.1.2.1
  have r29 : H 29 = V 76 := (hC.1 29 (by decide) (by decide)).trans hS.2.1.2.2.1
  have r32 : H 32 = V 32 := hC.1 32 (by decide) (by decide)
  have stay : ∀ l, zrw V k (some s) l = zrw V k none l → zbk V k (some s) l = zbk V k none l → ∃ (g : List Nat) (a c β' : Nat), H 49 11 = Int32.ofNat a ∧ H 49 12 = Int32.ofNat c ∧ a < 24 ∧ c < 24 ∧ zGs V c a g ∧ zrw V k (some s) l = g.map (zgp (V 76 s)) ++ zrw V k none l ∧ H 49 18 = Int32.ofNat β' ∧ β' + zbk V k none l = β + zbk V k (some s) l := by
    intro l e1 e2
    exact ⟨[], a0, a0, β, h11, h12, ha, ha, rfl, e1, h18, by rw [e2]⟩
  rcases ysg_fst V k b (nv (V 61 19) - q) q with ⟨f1, f2⟩ | ⟨r, f1, f2, f3, f4, f5⟩
  · refine ⟨H, ?_, zfr8_rfl, fun _ _ _ _ => rfl, ?_⟩
    · refine (zcS (S86_0 xs L (d + 1) H J X)).trans ?_
      rw [h10, f1, if_neg (by decide)]
      rfl
    · rw [f2]
      exact stay [] rfl rfl
  · have ho := hS.2.2.2.1 r (by omega)
    have no := nv_int ho.1
    obtain ⟨u, hu⟩ : ∃ u, u = nv (V 32 r) := ⟨_, rfl⟩
    rw [← hu] at f5
    have hun : u < nv (V 61 19) := by omega
    have hcu : zcfS V k u = 1 := by
      rw [hu]
      exact (of_decide_eq_true f3).2
    obtain ⟨u1, u2, u3, u4, u5, u6, u7⟩ := sig_ok hB0 k hun
    have hrl : r < nv (V 61 19) := by omega
    have e32 : zat H 32 300 (Int32.ofNat r) = Int32.ofNat u := by
      rw [zat_nat (by omega) (by omega), r32, hu]
      exact (nv_of ho.1).symm
    have e29 : zat H 29 300 (Int32.ofNat u) = V 76 u := by rw [zat_nat (by omega) (by omega), r29]
    have e33 : zat H 33 300 (Int32.ofNat u) = zrnS V k u := by
      rw [zat_nat (by omega) (by omega), hC.2.1 u hun]
      exact if_pos hcu
    have e3 : zat H 3 40 (zrnS V k s) = Int32.ofNat (zEn V k s) := by rw [zat_of s1.1 s1.2, r3, s4.1]
    have e2 : zat H 2 40 (zrnS V k u) = Int32.ofNat (zBg V k u) := by rw [zat_of u1.1 u1.2, r2, u5.1]
    have hrm : ¬ Int32.ofNat r = -1 := nat_m1 (by omega)
    rw [f5]
    have S := zcS (as := [.ref 49]) (S86_0 xs L (d + 1) H J X)
    rw [h10, f4, e32, e29, e33, h13, h14, e3, e2, if_pos (decide_eq_true hrm)] at S
    by_cases c1 : (V 76 u - V 76 s).toInt ≤ 180
    · rw [if_pos (decide_eq_true (i32_le.mpr c1))] at S
      have go : zbt V k s u = ygl V (zBg V k u) 24 (zEn V k s) → zbr V k s u = 0 → (V 8 (24 * zEn V k s + zBg V k u)).toInt < 1000000000 → zev xs L (d + 1 + 6) 86 [.ref 49] (zmk H J X) = some (.inr none, zmk (zup (zup H 49 11 (Int32.ofNat (zEn V k s))) 49 12 (Int32.ofNat (zBg V k u))) J X) → ∃ H4, zev xs L (d + 1 + 6) 86 [.ref 49] (zmk H J X) = some (.inr none, zmk H4 J X) ∧ zfr8 [49] [] H H4 ∧ (∀ j, j ≠ 11 → j ≠ 12 → j ≠ 18 → H4 49 j = H 49 j) ∧ ∃ (g : List Nat) (a c β' : Nat), H4 49 11 = Int32.ofNat a ∧ H4 49 12 = Int32.ofNat c ∧ a < 24 ∧ c < 24 ∧ zGs V c a g ∧ zrw V k (some s) (u :: ysg V k b (q + (nv (V 61 19) - q) - r - 1) (r + 1)) = g.map (zgp (V 76 s)) ++ zrw V k none (u :: ysg V k b (q + (nv (V 61 19) - q) - r - 1) (r + 1)) ∧ H4 49 18 = Int32.ofNat β' ∧ β' + zbk V k none (u :: ysg V k b (q + (nv (V 61 19) - q) - r - 1) (r + 1)) = β + zbk V k (some s) (u :: ysg V k b (q + (nv (V 61 19) - q) - r - 1) (r + 1)) := by
        intro g1 g2 g3 g4
        refine ⟨_, g4, zfr8_up (zfr8_up zfr8_rfl (by decide) (by decide)) (by decide) (by decide), fun j j1 j2 _ => by rw [zup_49 j2, zup_49 j1], zbt V k s u, zEn V k s, zBg V k u, β, rfl, rfl, s4.2, u5.2, ?_, ?_, h18, ?_⟩
        · rw [g1]
          exact (ygl_len hR u5.2 s4.2 g3).1
        · exact zrw_some V k s _
        · rw [zbk_some V k s]
          show _ = β + (zbr V k s u + _)
          rw [g2, Nat.zero_add]
      by_cases c2 : zEn V k s = zBg V k u
      · rw [if_pos (decide_eq_true (show Int32.ofNat (zEn V k s) = Int32.ofNat (zBg V k u) by rw [c2]))] at S
        have h0 : (V 8 (24 * zEn V k s + zBg V k u)).toInt < 1000000000 := by
          have := zOKT_self hR.2.2.2 s4.2
          unfold tb at this
          rw [← c2]
          omega
        exact go (if_pos ⟨c1, h0⟩) (if_neg (fun z => z.2 h0)) h0 S
      · have hto : ∀ r, r < nv (V 61 4) → 0 ≤ (H 3 r).toInt ∧ (H 3 r).toInt ≤ 23 := fun r hr => by
          rw [r3]
          exact (hR.2.2.1 r hr).1.2.1
        have n4 := nv_int hR.1.2.1
        have h40 := hR.1.2.2
        have h11' : H 1 1 = Int32.ofNat (nv (V 61 4)) := by
          rw [hC.1 1 (by decide) (by decide), hR.1.1, nv_of hR.1.2.1]
        have hfr := firstRoad_D xs L (d + 1 + 5) (by omega) H J X (nv (V 61 4)) (zEn V k s) (zBg V k u) h11' (by omega) s4.2 u5.2 hto
        have e8 : H 8 = V 8 := hC.1 8 (by decide) (by decide)
        have ezf : zfrC H (zEn V k s) (zBg V k u) = zfrC V (zEn V k s) (zBg V k u) := by
          funext r
          unfold zfrC
          rw [hC.1 2 (by decide) (by decide), hC.1 7 (by decide) (by decide), hC.1 3 (by decide) (by decide), e8]
        rw [e8, ezf] at hfr
        rw [if_neg (fun z => c2 (by
          have z := (nat_eq (by omega) (by omega)).mp (of_decide_eq_true z)
          exact z)), hfr, zci_i, T86_2_22_659 xs L (d + 1)] at S
        by_cases c3 : (1000000000 : Int32) ≤ V 8 (24 * zEn V k s + zBg V k u)
        · rw [if_pos c3, if_neg (by decide)] at S
          have c3 := i32_le.mp c3
          have hF : (1000000000 : Int32).toInt = 1000000000 := by decide
          have hn0 : ¬ (V 8 (24 * zEn V k s + zBg V k u)).toInt < 1000000000 := by omega
          refine ⟨_, S, zfr8_up zfr8_rfl (by decide) (by decide), fun j _ _ j3 => zup_49 j3, [], a0, a0, β + 1, h11, h12, ha, ha, rfl, ?_, ?_, ?_⟩
          · rw [zrw_some V k s]
            show (zbt V k s u).map _ ++ _ = _
            have e : zbt V k s u = [] := if_neg (fun z => hn0 z.2)
            rw [e]
          · show H 49 18 + 1 = _
            rw [h18, nat_succ]
          · rw [zbk_some V k s]
            have e : zbr V k s u = 1 := if_pos ⟨c1, hn0⟩
            show _ = β + (zbr V k s u + _)
            rw [e]
            omega
        · have h0 : (V 8 (24 * zEn V k s + zBg V k u)).toInt < 1000000000 := by
            have hF : (1000000000 : Int32).toInt = 1000000000 := by decide
            have : ¬ (1000000000 : Int32).toInt ≤ (V 8 (24 * zEn V k s + zBg V k u)).toInt := fun z => c3 (i32_le.mpr z)
            omega
          have hgs := (ygl_len hR u5.2 s4.2 h0).1
          have hne : ¬ zfst (zfrC V (zEn V k s) (zBg V k u)) (nv (V 61 4)) 0 = -1 := by
            cases hl : ygl V (zBg V k u) 24 (zEn V k s) with
            | nil =>
              rw [hl] at hgs
              exact absurd hgs c2
            | cons y l =>
              rw [hl] at hgs
              obtain ⟨_, _, w3, _, w5, _⟩ := hgs
              rw [w5]
              exact nat_m1 (by omega)
          rw [if_neg c3, if_pos (decide_eq_true hne)] at S
          exact go (if_pos ⟨c1, h0⟩) (if_neg (fun z => z.2 h0)) h0 S
    · rw [if_neg (fun z => c1 (i32_le.mp (of_decide_eq_true z)))] at S
      refine ⟨H, S, zfr8_rfl, fun _ _ _ _ => rfl, stay _ ?_ ?_⟩
      · rw [zrw_some V k s]
        show (zbt V k s u).map _ ++ _ = _
        have e : zbt V k s u = [] := if_neg (fun z => c1 z.1)
        rw [e]
        rfl
      · rw [zbk_some V k s]
        have e : zbr V k s u = 0 := if_neg (fun z => c1 z.1)
        show zbr V k s u + _ = _
        rw [e, Nat.zero_add]
theorem step_y (xs : Nat → Int32) (L D : Nat) (hD : 8 ≤ D) {V H : Nat → Nat → Int32} (J : Nat → Nat → Int64) (X : XH) (k b : Int32) (x : ZP) (rest : List ZP) (tot : Nat) (hB : PB V) (hC : zCH V k H) (hW : ZW V H k b (x :: rest) tot) : zPok V x ∧ ∃ H', zev xs L D 83 [.ref 49] (zmk H J X) = some (.inr (some (.int 1)), zmk H' J X) ∧ zfr8 [49, 50] [] H H' ∧ H' 49 13 = Int32.ofNat x.1 ∧ H' 49 14 = x.2.1 ∧ H' 49 15 = x.2.2.1 ∧ H' 49 17 = (if x.2.2.2 = true then 1 else 0) ∧ H' 49 16 = H 50 (zcell V x) ∧ H' 50 = zgn V x (H 50) ∧ ZW V H' k b rest tot := by
  obtain ⟨d, rfl⟩ := Nat.exists_eq_add_of_le hD
  rw [show 8 + d = d + 2 + 6 by omega]
  have hB0 := hB
  obtain ⟨hN, hL, _, hS, hDi, hR, _⟩ := hB
  have n19 := nv_int hS.1.2.1
  have h300 := hS.1.2.2
  have n4 := nv_int hR.1.2.1
  have h40 := hR.1.2.2
  have r3 : H 3 = V 64 := (hC.1 3 (by decide) (by decide)).trans hR.2.1.2.1
  have r4 : H 4 = V 65 := (hC.1 4 (by decide) (by decide)).trans hR.2.1.2.2.1
  have r5 : H 5 = V 66 := (hC.1 5 (by decide) (by decide)).trans hR.2.1.2.2.2.1
  have r29 : H 29 = V 76 := (hC.1 29 (by decide) (by decide)).trans hS.2.1.2.2.1
  have r32 : H 32 = V 32 := hC.1 32 (by decide) (by decide)
  obtain ⟨p, g, a, c, β, hp, h10, h11, h12, ha, hc, hg, hr, h18, ht, h8, h9, hm⟩ := hW
  have S := zcS (as := [.ref 49]) (S83_0 xs L (d + 2) H J X)
  rw [h11, h12] at S
  cases g with
  | cons r g =>
    obtain ⟨g1, g2, g3, g4, g5, g6⟩ := hg
    have hx : x = zgp (H 49 14) r := (List.cons.inj hr).1
    have hrest : rest = g.map (zgp (H 49 14)) ++ zrw V k none (ysg V k b (nv (V 61 19) - p) p) := (List.cons.inj hr).2
    have hm2 := hm.resolve_left (fun z => by cases z)
    have hxo : zPok V x := by
      rw [hx]
      exact ⟨g3, hm2.1, hm2.2⟩
    refine ⟨hxo, ?_⟩
    rw [if_neg (fun z => g1 ((nat_eq (by omega) (by omega)).mp (of_decide_eq_true z)))] at S
    have hto : ∀ r, r < nv (V 61 4) → 0 ≤ (H 3 r).toInt ∧ (H 3 r).toInt ≤ 23 := fun r hr => by
      rw [r3]
      exact (hR.2.2.1 r hr).1.2.1
    have h11' : H 1 1 = Int32.ofNat (nv (V 61 4)) := by
      rw [hC.1 1 (by decide) (by decide), hR.1.1, nv_of hR.1.2.1]
    have hfr := firstRoad_D xs L (d + 1 + 5) (by omega) H J X (nv (V 61 4)) a c h11' (by omega) ha hc hto
    have e8 : H 8 = V 8 := hC.1 8 (by decide) (by decide)
    have ezf : zfrC H a c = zfrC V a c := by
      funext r
      unfold zfrC
      rw [hC.1 2 (by decide) (by decide), hC.1 7 (by decide) (by decide), hC.1 3 (by decide) (by decide), e8]
    have hF : (1000000000 : Int32).toInt = 1000000000 := by decide
    rw [e8, ezf, if_neg (fun z => by
      have z := i32_le.mp z
      omega), g5] at hfr
    have e3 : zat H 3 40 (Int32.ofNat r) = Int32.ofNat (nv (V 64 r)) := by
      rw [zat_nat (by omega) (by omega), r3]
      exact (nv_of (hR.2.2.1 r g3).1.2.1.1).symm
    have g84 : zev xs L (d + 2 + 5) 84 [.ref 49] (zmk H J X) = some (.inr none, zmk (zup (zup (zup (zup H 49 13 (Int32.ofNat r)) 49 11 (Int32.ofNat (nv (V 64 r)))) 49 15 (-1)) 49 17 0) J X) := by
      refine (zcS (S84_0 xs L (d + 1) H J X)).trans ?_
      rw [h11, h12, hfr, zci_i, T84_0_8_692 xs L (d + 1), e3]
      rfl
    rw [g84, zcw_v, T83_0_7_693 xs L (d + 2)] at S
    obtain ⟨H', q1, q2, q3, q4, q5⟩ := step_tail (V := V) (H1 := zup (zup (zup (zup H 49 13 (Int32.ofNat r)) 49 11 (Int32.ofNat (nv (V 64 r)))) 49 15 (-1)) 49 17 0) J X x hR hL hxo r4 r5 (by rw [hx]; rfl) (by rw [hx]; rfl) (by rw [hx]; rfl)
    rw [q1] at S
    have hj : ∀ j, j ≠ 16 → j ≠ 13 → j ≠ 11 → j ≠ 15 → j ≠ 17 → H' 49 j = H 49 j := fun j j1 j2 j3 j4 j5 => by rw [q3 j j1, zup_49 j5, zup_49 j4, zup_49 j3, zup_49 j2]
    refine ⟨H', S, zfr8_tr (zfr8_up (zfr8_up (zfr8_up (zfr8_up zfr8_rfl (by decide) (by decide)) (by decide) (by decide)) (by decide) (by decide)) (by decide) (by decide)) q2 (fun _ h => h) (fun _ h => h), ?_, ?_, ?_, ?_, q4, q5, p, g, nv (V 64 r), c, β, hp, ?_, ?_, ?_, g4, hc, g6, ?_, ?_, ht, ?_, ?_, ?_⟩
    · rw [q3 13 (by decide), hx]
      rfl
    · rw [hj 14 (by decide) (by decide) (by decide) (by decide) (by decide), hx]
      rfl
    · rw [q3 15 (by decide), hx]
      rfl
    · rw [q3 17 (by decide), hx]
      rfl
    · rw [hj 10 (by decide) (by decide) (by decide) (by decide) (by decide)]
      exact h10
    · rw [q3 11 (by decide)]
      rfl
    · rw [hj 12 (by decide) (by decide) (by decide) (by decide) (by decide)]
      exact h12
    · rw [hj 14 (by decide) (by decide) (by decide) (by decide) (by decide)]
      exact hrest
    · rw [hj 18 (by decide) (by decide) (by decide) (by decide) (by decide)]
      exact h18
    · rw [hj 8 (by decide) (by decide) (by decide) (by decide) (by decide)]
      exact h8
    · rw [hj 9 (by decide) (by decide) (by decide) (by decide) (by decide)]
      exact h9
    · rw [hj 14 (by decide) (by decide) (by decide) (by decide) (by decide)]
      exact Or.inr hm2
  | nil =>
    have hac : a = c := hg
    rcases ysg_fst V k b (nv (V 61 19) - p) p with ⟨f1, f2⟩ | ⟨r, f1, f2, f3, f4, f5⟩
    · rw [f2] at hr
      cases hr
    have hrl : r < nv (V 61 19) := by omega
    have ho := hS.2.2.2.1 r hrl
    have no := nv_int ho.1
    obtain ⟨s, hs⟩ : ∃ s, s = nv (V 32 r) := ⟨_, rfl⟩
    rw [← hs, show p + (nv (V 61 19) - p) - r - 1 = nv (V 61 19) - (r + 1) by omega] at f5
    have hsn : s < nv (V 61 19) := by omega
    have hcs : zcfS V k s = 1 := by
      rw [hs]
      exact (of_decide_eq_true f3).2
    obtain ⟨s1, s2, s3, s4, s5, s6, s7⟩ := sig_ok hB0 k hsn
    rw [f5] at hr ht
    have hx : x = zsp V k s := (List.cons.inj hr).1
    have hrest : rest = zrw V k (some s) (ysg V k b (nv (V 61 19) - (r + 1)) (r + 1)) := (List.cons.inj hr).2
    have ht : β + zbk V k (some s) (ysg V k b (nv (V 61 19) - (r + 1)) (r + 1)) = tot := ht
    have hxo : zPok V x := by
      rw [hx]
      exact ⟨s2, s6.1, s6.2⟩
    refine ⟨hxo, ?_⟩
    rw [if_pos (decide_eq_true (show Int32.ofNat a = Int32.ofNat c by rw [hac])), h10, f4, if_neg (fun z => nat_m1 (by omega) (of_decide_eq_true z))] at S
    have e32 : zat H 32 300 (Int32.ofNat r) = Int32.ofNat s := by
      rw [zat_nat (by omega) (by omega), r32, hs]
      exact (nv_of ho.1).symm
    have hdb : zbi (¬ zat (zup (zup (zup H 49 15 (Int32.ofNat s)) 49 13 (zrnS V k s)) 49 14 (V 76 s)) 34 300 (Int32.ofNat s) = 0) = if zDb V k s = true then 1 else 0 := by
      rw [zat_nat (by omega) (by omega)]
      show zbi (¬ H 34 s = 0) = _
      rw [hC.2.2 s hsn hcs]
      by_cases cd : zDb V k s = true
      · rw [if_pos cd]
        rfl
      · rw [if_neg cd]
        rfl
    obtain ⟨w, hw⟩ : ∃ w : Int32, w = if zDb V k s = true then 1 else 0 := ⟨_, rfl⟩
    have hw01 : w = 0 ∨ w = 1 := by
      rw [hw]
      by_cases cd : zDb V k s = true
      · exact Or.inr (if_pos cd)
      · exact Or.inl (if_neg cd)
    rw [← hw] at hdb
    have fr2 : zfr8 [49] [] H (zup (zup (zup (zup H 49 15 (Int32.ofNat s)) 49 13 (zrnS V k s)) 49 14 (V 76 s)) 49 17 w) := zfr8_up (zfr8_up (zfr8_up (zfr8_up zfr8_rfl (by decide) (by decide)) (by decide) (by decide)) (by decide) (by decide)) (by decide) (by decide)
    have hC2 := zCH_fr hC (zfr8_sub (S := [49, 50, 51, 52]) (T := []) fr2 (fun b h => List.mem_append_left [50, 51, 52] h) (fun _ h => h))
    have hnx : zev xs L (d + 1 + 5) 76 [.ref 26, .int b, .int (Int32.ofNat (r + 1))] (zmk (zup (zup (zup (zup H 49 15 (Int32.ofNat s)) 49 13 (zrnS V k s)) 49 14 (V 76 s)) 49 17 w) J X) = some (.inr (some (.int (zfst (zqs V k b) (nv (V 61 19) - (r + 1)) (r + 1)))), zmk (zup (zup (zup (zup H 49 15 (Int32.ofNat s)) 49 13 (zrnS V k s)) 49 14 (V 76 s)) 49 17 w) J X) := by
      have q := next_eq xs L (d + 1 + 5) (by omega) (zup (zup (zup (zup H 49 15 (Int32.ofNat s)) 49 13 (zrnS V k s)) 49 14 (V 76 s)) 49 17 w) J X b (r + 1) (nv (V 61 19)) (by omega) (by
        rw [fr2.1 26 (by decide) (by decide), hC.1 26 (by decide) (by decide), hS.1.1, nv_of hS.1.2.1]) (by omega) (fun p hp => by
        rw [fr2.1 32 (by decide) (by decide), hC.1 32 (by decide) (by decide), n19]
        exact hS.2.2.2.1 p hp)
      rw [nxp_fst hB0 hC2 b (by omega)] at q
      exact q
    have g85 : zev xs L (d + 2 + 5) 85 [.ref 49] (zmk H J X) = some (.inr none, zmk (zup (zup (zup (zup (zup H 49 15 (Int32.ofNat s)) 49 13 (zrnS V k s)) 49 14 (V 76 s)) 49 17 w) 49 10 (zfst (zqs V k b) (nv (V 61 19) - (r + 1)) (r + 1))) J X) := by
      refine (zcSP (S85_0 xs L (d + 1) H J X)).trans ?_
      have e33 : zat (zup H 49 15 (Int32.ofNat s)) 33 300 (Int32.ofNat s) = zrnS V k s := by
        rw [zat_nat (by omega) (by omega)]
        show H 33 s = _
        rw [hC.2.1 s hsn]
        exact if_pos hcs
      have e29 : zat (zup (zup H 49 15 (Int32.ofNat s)) 49 13 (zrnS V k s)) 29 300 (Int32.ofNat s) = V 76 s := by
        rw [zat_nat (by omega) (by omega)]
        show H 29 s = _
        rw [r29]
      have e15a : zup (zup H 49 15 (Int32.ofNat s)) 49 13 (zrnS V k s) 49 15 = Int32.ofNat s := rfl
      have e15b : zup (zup (zup H 49 15 (Int32.ofNat s)) 49 13 (zrnS V k s)) 49 14 (V 76 s) 49 15 = Int32.ofNat s := rfl
      have e8b : zup (zup (zup H 49 15 (Int32.ofNat s)) 49 13 (zrnS V k s)) 49 14 (V 76 s) 49 8 = b := h8
      have e10b : zup (zup (zup H 49 15 (Int32.ofNat s)) 49 13 (zrnS V k s)) 49 14 (V 76 s) 49 10 = Int32.ofNat r := h10.trans f4
      rw [h10, f4, e67 xs L _ (by omega), zci_i, T85_0_6_694 xs L (d + 1), e32, e73 xs L _ (by omega), zci_i, T85_0_13_687 xs L (d + 1), e33]
      have e15c : zup H 49 15 (Int32.ofNat s) 49 15 = Int32.ofNat s := rfl
      rw [e15c, e68 xs L _ (by omega), zci_i, T85_0_20_680 xs L (d + 1), e29, e15a, e77 xs L _ (by omega), zci_i, hdb, T85_0_27_673 xs L (d + 1), if_pos ⟨rfl, hw01⟩, e8b, e10b, nat_succ, hnx, zci_i, T85_0_38_662 xs L (d + 1)]
      rfl
    rw [g85, zcw_v, T83_1_6_689 xs L (d + 2)] at S
    obtain ⟨H3, hH3⟩ : ∃ H3, H3 = zup (zup (zup (zup (zup H 49 15 (Int32.ofNat s)) 49 13 (zrnS V k s)) 49 14 (V 76 s)) 49 17 w) 49 10 (zfst (zqs V k b) (nv (V 61 19) - (r + 1)) (r + 1)) := ⟨_, rfl⟩
    rw [← hH3] at S
    have fr3 : zfr8 [49] [] H H3 := by
      rw [hH3]
      exact zfr8_up fr2 (by decide) (by decide)
    have hC3 := zCH_fr hC (zfr8_sub (S := [49, 50, 51, 52]) (T := []) fr3 (fun b h => List.mem_append_left [50, 51, 52] h) (fun _ h => h))
    obtain ⟨H4, A1, A2, A3, g', a', c', β', B1, B2, B3, B4, B5, B6, B7, B8⟩ := aim_y xs L (d + 2 + 5) (by omega) J X k b (r + 1) s c β hB0 hC3 hsn (by omega) (by rw [hH3]; rfl) (by rw [hH3]; rfl) (by rw [hH3]; rfl) (by rw [hH3, ← hac]; exact h11) (by rw [hH3]; exact h12) hc (by rw [hH3]; exact h18)
    rw [A1, zcw_v, T83_1_8_687 xs L (d + 2)] at S
    have e13 : H4 49 13 = Int32.ofNat x.1 := by
      rw [A3 13 (by decide) (by decide) (by decide), hH3, hx]
      exact s3.symm
    have e14 : H4 49 14 = x.2.1 := by
      rw [A3 14 (by decide) (by decide) (by decide), hH3, hx]
      rfl
    have e15 : H4 49 15 = x.2.2.1 := by
      rw [A3 15 (by decide) (by decide) (by decide), hH3, hx]
      rfl
    have e17 : H4 49 17 = if x.2.2.2 = true then 1 else 0 := by
      rw [A3 17 (by decide) (by decide) (by decide), hH3, hx]
      exact hw
    have e10 : H4 49 10 = zfst (zqs V k b) (nv (V 61 19) - (r + 1)) (r + 1) := by
      rw [A3 10 (by decide) (by decide) (by decide), hH3]
      rfl
    have e8 : H4 49 8 = b := by
      rw [A3 8 (by decide) (by decide) (by decide), hH3]
      exact h8
    have e9 : H4 49 9 = k := by
      rw [A3 9 (by decide) (by decide) (by decide), hH3]
      exact h9
    have e50 : H4 50 = H 50 := by
      rw [A2.1 50 (by decide) (by decide), hH3]
      rfl
    have e4 : H4 4 = V 65 := by
      rw [A2.1 4 (by decide) (by decide), hH3]
      exact r4
    have e5 : H4 5 = V 66 := by
      rw [A2.1 5 (by decide) (by decide), hH3]
      exact r5
    obtain ⟨H', q1, q2, q3, q4, q5⟩ := step_tail (V := V) (H1 := H4) J X x hR hL hxo e4 e5 e13 e14 e17
    rw [q1] at S
    refine ⟨H', S, zfr8_tr (zfr8_sub (zfr8_tr fr3 A2 (fun _ h => h) (fun _ h => h)) (fun b h => List.mem_append_left [50] h) (fun _ h => h)) q2 (fun _ h => h) (fun _ h => h), (q3 13 (by decide)).trans e13, (q3 14 (by decide)).trans e14, (q3 15 (by decide)).trans e15, (q3 17 (by decide)).trans e17, ?_, ?_, r + 1, g', a', c', β', by omega, (q3 10 (by decide)).trans e10, (q3 11 (by decide)).trans B1, (q3 12 (by decide)).trans B2, B3, B4, B5, ?_, (q3 18 (by decide)).trans B7, B8.trans ht, (q3 8 (by decide)).trans e8, (q3 9 (by decide)).trans e9, ?_⟩
    · rw [q4, e50]
    · rw [q5, e50]
    · rw [q3 14 (by decide), e14, hx]
      exact hrest.trans B6
    · rw [q3 14 (by decide), e14]
      exact Or.inr hxo.2
