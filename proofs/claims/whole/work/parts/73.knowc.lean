/-! THE PURE PART: what the class knows, over a base; what the model knows, over a base. -/
theorem zdw_cg {I V : Nat → Nat → Int32} (h : ∀ b, b < 61 → I b = V b) (k : Int32) (f : Nat → Int32) : ∀ e, zdw I k f e = zdw V k f e
  | 0 => rfl
  | e + 1 => by
    have ih := zdw_cg h k f e
    unfold zdw
    rw [ih, h 22 (by decide), h 25 (by decide), h 23 (by decide), h 21 (by decide), h 24 (by decide)]
theorem zhtw_cg {I V : Nat → Nat → Int32} (h : ∀ b, b < 61 → I b = V b) (s : Nat) (near : Int32) : ∀ i, zhtw I s near i = zhtw V s near i
  | 0 => rfl
  | i + 1 => by
    have ih := zhtw_cg h s near i
    have ht : ∀ a, ztwin I a s ↔ ztwin V a s := fun a => by
      unfold ztwin
      rw [h 33 (by decide), h 27 (by decide), h 13 (by decide)]
    show (if near < I 29 s - I 29 (nv (I 32 i)) then false else (decide (ztwin I (nv (I 32 i)) s) || zhtw I s near i)) = (if near < V 29 s - V 29 (nv (V 32 i)) then false else (decide (ztwin V (nv (V 32 i)) s) || zhtw V s near i))
    rw [ih, h 29 (by decide), h 32 (by decide), decide_eq_decide.mpr (ht (nv (V 32 i)))]
theorem zdb_cg {I V W : Nat → Nat → Int32} (h : ∀ b, b < 61 → I b = V b) (k : Int32) (g : Nat → Int32) : ∀ n, zdb W I k g n = zdb W V k g n
  | 0 => rfl
  | n + 1 => by
    have ih := zdb_cg (W := W) h k g n
    unfold zdb znearR zland
    rw [ih, h 32 (by decide), h 33 (by decide), h 29 (by decide), h 4 (by decide), zhtw_cg h]
theorem zwf_cg {I V W : Nat → Nat → Int32} (h : ∀ b, b < 61 → I b = V b) (k : Int32) (f : Nat → Int32) (s : Nat) : zwf W I k f s = zwf W V k f s := by
  unfold zwf zlateR zland zkn
  rw [h 30 (by decide), h 31 (by decide), h 29 (by decide), h 4 (by decide)]
theorem zW2_cg {I V W : Nat → Nat → Int32} (h : ∀ b, b < 61 → I b = V b) (k : Int32) (e n : Nat) : zW2 W I k e n = zW2 W V k e n := by
  have h1 : zW1 I k e = zW1 V k e := by
    unfold zW1
    rw [zdw_cg h, h 28 (by decide), h 33 (by decide)]
  unfold zW2
  rw [h1]
  congr 1
  funext s
  exact zwf_cg h k _ s
theorem know_c (xs : Nat → Int32) (L D : Nat) (hD : 9 ≤ D) {V I : Nat → Nat → Int32} (J : Nat → Nat → Int64) (X : XH) {C : Nat → List (Bool × List Int32)} (k : Int32) (hVI : ∀ b, (b < 61 ∨ 122 < b) → I b = V b) (hB : PB V) (hT : PTm V X C k) : ∃ H, zev xs L D 70 [.ref 26, .int k] (zmk I J X) = some (.inr none, zmk H J X) ∧ zCH V k H ∧ zfr8 [33, 34] [] I H := by
  have hB0 := hB
  obtain ⟨hN, hL, hF, hS, hDi, hRd, hX⟩ := hB
  have hlt : ∀ b, b < 61 → I b = V b := fun b hb => hVI b (Or.inl hb)
  have n19 := nv_int hS.1.2.1
  have h300 := hS.1.2.2
  have n20 := nv_int hDi.1.2.1
  have h40 := hDi.1.2.2
  have n21 := nv_int hDi.2.1.2.1
  have h21 := hDi.2.1.2.2
  have n7 := nv_int hF.2.2.1.2.1
  have h24 := hF.2.2.1.2.2
  have hr40 := hRd.1.2.2
  have hW1 : zW1 I k (nv (V 61 21)) = zW1 V k (nv (V 61 21)) := by
    unfold zW1
    rw [zdw_cg hlt, hlt 28 (by decide), hlt 33 (by decide)]
  have q := know_eq xs L D hD V I J X k (nv (V 61 21)) (nv (V 61 20)) (nv (V 61 19)) (by rw [hlt 26 (by decide), hS.1.1, nv_of hS.1.2.1]) (by omega) (by rw [hlt 20 (by decide), hDi.2.1.1, nv_of hDi.2.1.2.1]) (by omega) (by omega) (fun t ht => by
    rw [hlt 25 (by decide), hlt 21 (by decide)]
    obtain ⟨e, e1, e2, _, _⟩ := hDi.2.2.2.2 t ht
    have e3 := (hDi.2.2.2.1 e e1).1
    rw [e2, i32_toInt (by omega), nv_nat (by omega), hDi.2.2.1.1]
    omega) (fun p hp => by
    rw [hlt 32 (by decide)]
    have := hS.2.2.2.1 p hp
    omega) (fun q hq => by
    rw [hlt 27 (by decide), hS.2.1.1]
    have := (hS.2.2.1 q hq).1
    omega) (fun l hl => by
    obtain ⟨ρ, O, h1, _⟩ := hT l hl
    exact ⟨ρ, O, zTm_H h1 (hlt 16 (by decide)) (hlt 19 (by decide)) (fun b hb => hVI b (Or.inr hb))⟩) (fun s hs => by
    rw [hW1, hlt 4 (by decide), hRd.2.1.2.2.1]
    obtain ⟨r1, r2⟩ := rn_rg hS hDi hRd hL k s hs
    rcases W1_same hS hDi k s hs with ⟨_, e⟩ | ⟨_, e⟩
    · right
      have e : zW1 V k (nv (V 61 21)) s = zrnS V k s := e
      rw [e]
      exact ⟨by omega, r2⟩
    · exact Or.inl e)
  have e33 : zKn V I k (nv (V 61 21)) (nv (V 61 19)) 33 = zW2 V V k (nv (V 61 21)) (nv (V 61 19)) := by
    show zov (zov I 33 _) 34 _ 33 = _
    rw [zov_ne (by decide), zov_at, zW2_cg hlt]
  have e34 : zKn V I k (nv (V 61 21)) (nv (V 61 19)) 34 = zdb V (zov V 33 (zW2 V V k (nv (V 61 21)) (nv (V 61 19)))) k (I 34) (nv (V 61 19)) := by
    show zov (zov I 33 _) 34 _ 34 = _
    rw [zov_at, zW2_cg hlt]
    refine zdb_cg (fun b hb => ?_) k _ _
    unfold zov
    split
    · rfl
    · exact hlt b hb
  refine ⟨_, q, ⟨fun b h1 h2 => ?_, fun s hs => ?_, fun s hs hc => ?_⟩, zfr8_ov (zfr8_ov zfr8_rfl (by decide) (by decide)) (by decide) (by decide)⟩
  · show zov (zov I 33 _) 34 _ b = _
    rw [zov_ne (fun z => h2 (by rw [z]; decide)), zov_ne (fun z => h2 (by rw [z]; decide))]
    exact hVI b h1
  · rw [e33]
    exact (zpre_lt hs).trans (count_same hS hDi hRd hL k s hs)
  · rw [e34]
    exact double_same hN hS hDi hRd hL hF k s hs hc (I 34) (zKm V k) (fun q hq => zpre_lt hq) (fun q hq => zpre_lt hq) rfl rfl rfl rfl
/-! the model -/
theorem zrnS_cg {M V : Nat → Nat → Int32} (h75 : M 75 = V 75) (h79 : M 79 = V 79) (h80 : M 80 = V 80) (h81 : M 81 = V 81) (h82 : M 82 = V 82) (h83 : M 83 = V 83) (h20 : M 61 20 = V 61 20) (k : Int32) (s : Nat) : zrnS M k s = zrnS V k s := by
  unfold zrnS
  rw [h20, zlst_cg h79 h80 h81 h82]
  cases zlst V k s (nv (V 61 20)) with
  | none =>
    show M 75 s = V 75 s
    rw [h75]
  | some d =>
    show (if M 82 d = 2 then M 83 d else M 75 s) = (if V 82 d = 2 then V 83 d else V 75 s)
    rw [h82, h83, h75]
theorem zcfS_cg {M V : Nat → Nat → Int32} (h75 : M 75 = V 75) (h76 : M 76 = V 76) (h77 : M 77 = V 77) (h78 : M 78 = V 78) (h79 : M 79 = V 79) (h80 : M 80 = V 80) (h81 : M 81 = V 81) (h82 : M 82 = V 82) (h83 : M 83 = V 83) (h65 : M 65 = V 65) (h92 : M 92 = V 92) (h93 : M 93 = V 93) (h94 : M 94 = V 94) (h96 : M 96 = V 96) (h20 : M 61 20 = V 61 20) (h54 : M 61 54 = V 61 54) (k : Int32) (s : Nat) : zcfS M k s = zcfS V k s := by
  have e1 := zrnS_cg h75 h79 h80 h81 h82 h83 h20 k s
  unfold zcfS
  rw [e1, h20, zlst_cg h79 h80 h81 h82]
  have e2 : ∀ r t, zlateM M r t k = zlateM V r t k := fun r t => by
    unfold zlateM zlandM zlate zFm zOm zNm
    rw [h65, h92, h93, h94, h96, h54]
  rw [e2, h76]
  unfold zcf zknM
  have e3 : ∀ o, zndel M o = zndel V o := fun o => by
    cases o with
    | none => rfl
    | some d =>
      show (¬ M 82 d = 1) = (¬ V 82 d = 1)
      rw [h82]
  congr 1
  rw [h77, h78, h76, e3]
theorem zed_cg {M V : Nat → Nat → Int32} (h63 : M 63 = V 63) (h64 : M 64 = V 64) (h66 : M 66 = V 66) (h73 : M 73 = V 73) (n : Nat) : zed M n = zed V n := by
  funext a b w
  unfold zed
  rw [h63, h64, h66, h73]
/-- the rows that only the model has: all but those it works in -/
def yMV (V M : Nat → Nat → Int32) : Prop := (∀ b, 61 < b → b ≤ 121 → b ∉ [102, 103, 108, 109, 110, 111, 112, 113, 114, 115, 116, 117, 118] → M b = V b) ∧ ∀ j, j ∉ [1, 76, 77] → M 61 j = V 61 j
theorem know_m (xs : Nat → Int32) (L D : Nat) (hD : 10 ≤ D) {V M : Nat → Nat → Int32} (J : Nat → Nat → Int64) (X : XH) (k : Int32) (hMV : yMV V M) (hB : PB M) : ∃ M', zev xs L D 184 [.ref 61, .int k] (zmk M J X) = some (.inr none, zmk M' J X) ∧ yMH V k M' ∧ zfr8 [108, 109, 110] [] M M' := by
  obtain ⟨hN, hL, hF, hS, hDi, hRd, hX⟩ := hB
  obtain ⟨h1, h2⟩ := hMV
  have q := knowM_eq xs L D hD M J X k hS hDi hRd hL hX
  have e19 : M 61 19 = V 61 19 := h2 19 (by decide)
  have e4 : M 61 4 = V 61 4 := h2 4 (by decide)
  have r : ∀ b, 61 < b → b ≤ 121 → b ∉ [102, 103, 108, 109, 110, 111, 112, 113, 114, 115, 116, 117, 118] → M b = V b := h1
  refine ⟨_, q, ⟨fun b b1 b2 b3 => ?_, fun j hj => h2 j hj, fun s hs => ?_, fun s hs => ?_, ?_⟩, zfr8_ov (zfr8_ov (zfr8_ov zfr8_rfl (by decide) (by decide)) (by decide) (by decide)) (by decide) (by decide)⟩
  · show zov (zov (zov M 108 _) 109 _) 110 _ b = _
    rw [zov_ne (fun z => b3 (by rw [z]; decide)), zov_ne (fun z => b3 (by rw [z]; decide)), zov_ne (fun z => b3 (by rw [z]; decide))]
    exact r b b1 b2 b3
  · show zpre (zrnS M k) (M 108) (nv (M 61 19)) s = _
    rw [zpre_lt (by rw [e19]; exact hs)]
    exact zrnS_cg (r 75 (by decide) (by decide) (by decide)) (r 79 (by decide) (by decide) (by decide)) (r 80 (by decide) (by decide) (by decide)) (r 81 (by decide) (by decide) (by decide)) (r 82 (by decide) (by decide) (by decide)) (r 83 (by decide) (by decide) (by decide)) (h2 20 (by decide)) k s
  · show zpre (zcfS M k) (M 109) (nv (M 61 19)) s = _
    rw [zpre_lt (by rw [e19]; exact hs)]
    exact zcfS_cg (r 75 (by decide) (by decide) (by decide)) (r 76 (by decide) (by decide) (by decide)) (r 77 (by decide) (by decide) (by decide)) (r 78 (by decide) (by decide) (by decide)) (r 79 (by decide) (by decide) (by decide)) (r 80 (by decide) (by decide) (by decide)) (r 81 (by decide) (by decide) (by decide)) (r 82 (by decide) (by decide) (by decide)) (r 83 (by decide) (by decide) (by decide)) (r 65 (by decide) (by decide) (by decide)) (r 92 (by decide) (by decide) (by decide)) (r 93 (by decide) (by decide) (by decide)) (r 94 (by decide) (by decide) (by decide)) (r 96 (by decide) (by decide) (by decide)) (h2 20 (by decide)) (h2 54 (by decide)) k s
  · have z := zKm_far (k := k) hRd
    rw [zed_cg (r 63 (by decide) (by decide) (by decide)) (r 64 (by decide) (by decide) (by decide)) (r 66 (by decide) (by decide) (by decide)) (r 73 (by decide) (by decide) (by decide)), e4] at z
    exact z
