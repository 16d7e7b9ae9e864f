/-! SOUNDNESS, 4: the strings, the script, what is made. -/
/-- what the heap holds beside: the strings; what the tables say of the rows of references -/
def zX (s : State) (A : Nat → Prop) (X : Nat → Nat) : Prop := ∃ adV : Nat → Nat, (∀ j, j < 16 → vk_R (zsO j) (zsI j) (zsT j) (X j) s) ∧ vk_S 16 (zstr.map List.length) zstr X adV A s s.heap ∧ va_AO "TollTags$Tariff" s ∧ va_AO "java/lang/String" s ∧ vx_Zq Bundle.tN "UNASSIGNED_STACK" Bundle.steD A s s.heap ∧ vx_Zq Bundle.tN "SUPPRESSED_SENTINEL" Bundle.listD A s s.heap ∧ va_Nc "java/lang/IllegalArgumentException" "java/util/NoSuchElementException" s ∧ va_Z "java/lang/String" "COMPACT_STRINGS" "Z" (.int 1) A s s.heap ∧ va_Zq "jdk/internal/util/Preconditions" "SIOOBE_FORMATTER" "Ljava/util/function/BiFunction;" A s s.heap
theorem va_RA_inj {s : State} {a b : ClassId} {ty : FieldType} (h1 : va_RA s a ty) (h2 : va_RA s b ty) : a = b := by
  cases ty with
  | object C =>
    obtain ⟨_, _, -, -, -, h3⟩ := h1
    obtain ⟨_, _, -, -, -, h4⟩ := h2
    exact Option.some.inj (h3.symm.trans h4)
  | _ =>
    have h1 : s.vm.findClass _ = some a := h1
    have h2 : s.vm.findClass _ = some b := h2
    exact Option.some.inj (h1.symm.trans h2)
theorem zcv_agr {n : Nat} {σ σ' X : Nat → Nat} {v : Value} (hag : ∀ j, j < n → σ' j = σ j) (hv : Vok n v) : zcv σ' X v = zcv σ X v := by
  cases v with
  | ref i => exact congrArg Value.ref (hag i hv)
  | _ => rfl
theorem zst_agr {n : Nat} {σ σ' X : Nat → Nat} {st : List Value} (hag : ∀ j, j < n → σ' j = σ j) (hv : Sok n st) : st.map (zcv σ' X) = st.map (zcv σ X) :=
  List.map_congr_left (fun v h => zcv_agr hag (hv v h))
theorem zlo_agr {n : Nat} {σ σ' X : Nat → Nat} {lo : LV} (hag : ∀ j, j < n → σ' j = σ j) (hv : Lok n lo) : zlo X σ' lo = zlo X σ lo :=
  List.map_congr_left (fun q h => by rw [zcv_agr hag (hv q h)])
theorem Sok.up {n m : Nat} {st : List Value} (h : Sok n st) (hm : n ≤ m) : Sok m st := fun v hv => by
  have := h v hv
  cases v with
  | ref i => exact Nat.lt_of_lt_of_le this hm
  | _ => trivial
theorem Lok.up {n m : Nat} {lo : LV} (h : Lok n lo) (hm : n ≤ m) : Lok m lo := fun q hq => by
  have := h q hq
  cases hv : q.2 with
  | ref i => rw [hv] at this; exact Nat.lt_of_lt_of_le this hm
  | _ => trivial
theorem zent_agr {cA : Nat → ClassId} {X σ σ' : Nat → Nat} {h : AH} {i : Nat} (hh : Hok h) (hag : ∀ j, j < hn h → σ' j = σ j) : zent cA X σ' h i = zent cA X σ h i := by
  have hr : (hK h i).1 ≠ 4 → ∀ k, (hR h i k).map σ' = (hR h i k).map σ := fun h4 k => by
    cases hk : hR h i k with
    | none => rfl
    | some j => exact congrArg some (hag j (hh.lt h4 hk))
  unfold zent
  by_cases h0 : (hK h i).1 = 0
  · simp only [if_pos h0]
  by_cases h1 : (hK h i).1 = 1
  · simp only [if_neg h0, if_pos h1]
  by_cases h2 : (hK h i).1 = 2
  · simp only [if_neg h0, if_neg h1, if_pos h2]
  by_cases h3 : (hK h i).1 = 3
  · simp only [if_neg h0, if_neg h1, if_neg h2, if_pos h3]
    rw [show (fun k => (hR h i k).map σ') = fun k => (hR h i k).map σ from funext (hr (by omega))]
  by_cases h4 : (hK h i).1 = 4
  · simp only [if_neg h0, if_neg h1, if_neg h2, if_neg h3, if_pos h4]
  simp only [if_neg h0, if_neg h1, if_neg h2, if_neg h3, if_neg h4]
  congr 2
  unfold zfs
  apply List.map_congr_left
  intro k _
  unfold zfv
  rw [hr h4 k]
theorem zws_agr {cA : Nat → ClassId} {X σ σ' : Nat → Nat} {h : AH} (hh : Hok h) (hag : ∀ j, j < hn h → σ' j = σ j) : zws cA X σ' h = zws cA X σ h := by
  unfold zws
  apply List.map_congr_left
  intro i hi
  rw [zent_agr hh hag, hag i (List.mem_range.mp hi)]
/-- the map with one more object -/
def zsg (σ : Nat → Nat) (n q : Nat) : Nat → Nat := fun j => if j = n then q else σ j
theorem zsg_agr {σ : Nat → Nat} {n q : Nat} : ∀ j, j < n → zsg σ n q j = σ j := fun j hj => if_neg (by omega)
theorem zalloc_K {h : AH} {kd : Nat × Nat} {sl j : Nat} (hj : j ≠ hn h) : hK (zalloc h kd sl) j = hK h j := if_neg hj
theorem zalloc_Kn {h : AH} {kd : Nat × Nat} {sl : Nat} : hK (zalloc h kd sl) (hn h) = kd := if_pos rfl
theorem zws_push {cA : Nat → ClassId} {X σ : Nat → Nat} {h : AH} {kd : Nat × Nat} {sl q : Nat} (hh : Hok h) : zws cA X (zsg σ (hn h) q) (zalloc h kd sl) = zws cA X σ h ++ [(q, zent cA X σ (zalloc h kd sl) (hn h))] := by
  have hnew : zent cA X (zsg σ (hn h) q) (zalloc h kd sl) (hn h) = zent cA X σ (zalloc h kd sl) (hn h) := by
    have hz : ∀ k, hR (zalloc h kd sl) (hn h) k = none := fun k => (hh.1 (hn h) (Nat.le_refl _)).2.2 k
    unfold zent zfs zfv
    simp only [hz]
    rfl
  have hold : ∀ i, i < hn h → zent cA X (zsg σ (hn h) q) (zalloc h kd sl) i = zent cA X σ h i := fun i hi => by
    rw [← zent_agr (σ' := zsg σ (hn h) q) hh zsg_agr]
    exact zent_congr rfl rfl rfl (zalloc_K (by omega))
  unfold zws
  rw [show hn (zalloc h kd sl) = hn h + 1 from rfl, List.range_succ, List.map_append]
  congr 1
  · apply List.map_congr_left
    intro i hi
    have hi := List.mem_range.mp hi
    rw [hold i hi, zsg_agr i hi]
  · show [(zsg σ (hn h) q (hn h), zent cA X (zsg σ (hn h) q) (zalloc h kd sl) (hn h))] = _
    rw [hnew]
    unfold zsg
    rw [if_pos rfl]
theorem Hok.alloc {h : AH} {kd : Nat × Nat} {sl : Nat} (hh : Hok h) : Hok (zalloc h kd sl) :=
  ⟨fun a ha => hh.1 a (by have : hn h + 1 ≤ a := ha; omega), fun a k j h4 hj => by
    by_cases ha : a = hn h
    · subst ha
      have h0 : hR h (hn h) k = none := (hh.1 (hn h) (Nat.le_refl _)).2.2 k
      have hj : hR h (hn h) k = some j := hj
      rw [h0] at hj
      cases hj
    · rw [zalloc_K ha] at h4
      have := hh.lt h4 (show hR h a k = some j from hj)
      show j < hn h + 1
      omega⟩
section S
variable {Γ : ZG} {cc : ByteArray} {bp : Nat → Nat} {pc pc' tgt : Nat} {k : Kt} {J : Nat → Kt} {E : Evn} {i : MI} {own nm : String}
abbrev gS (Γ : ZG) : State := Γ.2.2.2.2.1
abbrev gX (Γ : ZG) : Nat → Nat := Γ.2.2.2.2.2.2.2.2.2.2.2.2.2.2.1
abbrev gA (Γ : ZG) : Nat → Prop := Γ.2.2.2.2.2.2.2.2.2.2.2.2.2.2.2.1
theorem S_lds (C : zCtx Γ cc own nm) (hX : zX (gS Γ) (gA Γ) (gX Γ)) (hj : i.2.2.1 < 16) (ho : zsO i.2.2.1 = own) (hdg : (decode cc pc = .ok (.ldc (zsI i.2.2.1), 2) ∧ pc' = pc + 2) ∨ (decode cc pc = .ok (.ldc_w (zsI i.2.2.1), 3) ∧ pc' = pc + 3)) (hk : zOk Γ cc bp pc' k) : zOk Γ cc bp pc (z_lds E k J i) :=
  hk.st (fun lo st h o h0 h1 h2 h3 => by
    refine ⟨lo, _, h0, h1, Sok.cons trivial h2, ?_⟩
    obtain ⟨p, l, e, R, s, m, args, below, meth, c, Q, nL, D, cA, X, A, c0, s0, n0, σ0⟩ := Γ
    obtain ⟨hx, hb, hml, hown, hts, hK0, hA, -⟩ := C
    obtain ⟨adV, hR, -⟩ := hX
    intro K σ H locs ls hag hP hD hS hl
    have K2 := K σ H locs ls hag hP hD hS hl
    have e1 : zcv σ X (.float (UInt32.ofNat i.2.2.1)) = .ref (X i.2.2.1) := by
      show Value.ref (X (UInt32.ofNat i.2.2.1).toNat) = _
      rw [UInt32.toNat_ofNat_of_lt' (Nat.lt_of_lt_of_le (by assumption) (by decide))]
    rw [List.map_cons, e1] at K2
    have hR1 : vk_R own (zsI i.2.2.1) (zsT i.2.2.1) (X i.2.2.1) s := ho ▸ hR _ hj
    rcases hdg with ⟨hdg, rfl⟩ | ⟨hdg, rfl⟩
    · exact va_ldcS hx hb hown hR1 hdg K2
    · intro T hT XT
      obtain ⟨t, a1, b1⟩ := K2 T hT XT
      exact ⟨t, XT.ldcStringW hx hown (text := zsT i.2.2.1) (a := X i.2.2.1) hR1.1 hR1.2 (g := F0 m pc ls _) rfl (by rw [hb]; exact hdg) t a1, b1⟩)
theorem S_sast (C : zCtx Γ cc own nm) (hX : zX (gS Γ) (gA Γ) (gX Γ)) (hdg : decode cc pc = .ok (.aastore, 1)) (hk : zOk Γ cc bp (pc + 1) k) : zOk Γ cc bp pc (z_sast E k J i) :=
  hk.to (fun lo st h o ho h1 h2 h3 => by
    unfold z_sast at ho
    split at ho
    · rename_i v x a rest
      split at ho
      · rename_i hz
        have ha : a < hn h := h2.tl.tl.hd
        refine ⟨lo, rest, _, ho, h1, h2.tl.tl.tl, h3.setR ha (fun h4 => absurd hz.1.1 h4), zle.rf, fun _ _ _ _ => ?_⟩
        obtain ⟨p, l, e, R, s, m, args, below, meth, c, Q, nL, D, cA, X, A, c0, s0, n0, σ0⟩ := Γ
        obtain ⟨hx, hb, hml, hown, hts, hK0, hA, -⟩ := C
        obtain ⟨adV, -, hSt, -⟩ := hX
        intro K σ H locs ls hag hP hD hS hl
        have he := (zws_get (cA := cA) (X := X) (σ := σ) ha).trans (congrArg (fun z => some (σ a, z)) (zent_4 hz.1.1))
        obtain ⟨cell, g1, g2, g3⟩ := vk_recv hSt hz.2 hS
        have hany : va_Any "java/lang/String" s H (X v.toNat) := by
          obtain ⟨kC, hkC, -⟩ := Vm.findClass_spec g3
          refine ⟨cell, g1, g2, ⟨kC, hkC⟩, fun comp hc => ?_⟩
          cases g3.symm.trans hc
          exact va_asg _ _
        have hw : (zws cA X σ h).set a (σ a, .inl (cA 4, (hK h a).2, .inr (.inr (.inr (.inr (va_up (fun k => (hR h a k).map X) x.toNatClampNeg ((some v.toNat).map X))))))) = zws cA X σ (setR h a x.toNatClampNeg (some v.toNat)) :=
          zws_set rfl (fun j hj => zent_setR hj) ((zent_4 (h := setR h a x.toNatClampNeg (some v.toNat)) hz.1.1).trans (by rw [setR_eq, va_up_map]; rfl))
        refine va_astqM hx hb hK0 hP hD hS a 4 he rfl hany hz.1.2 hdg (fun H1 locs1 hP1 hD1 hS1 => ?_)
        rw [Option.map_some] at hw
        rw [hw] at hP1 hD1
        exact K σ H1 locs1 ls hag hP1 hD1 hS1 hl
      · cases ho
    · cases ho)
theorem S_sld (C : zCtx Γ cc own nm) (hX : va_X (gX Γ 99) E.2.2.2 E.2.2.1 (gS Γ) (gS Γ).heap) (hlt : gX Γ 99 < (gS Γ).heap.size) (hnA : ¬ gA Γ (gX Γ 99)) (hdg : decode cc pc = .ok (.iaload, 1)) (hk : zOk Γ cc bp (pc + 1) k) : zOk Γ cc bp pc (z_sld E k J i) :=
  hk.st (fun lo st h o ho h1 h2 h3 => by
    unfold z_sld at ho
    split at ho
    · rename_i x w rest
      split at ho
      · rename_i hz
        refine ⟨lo, _, ho, h1, Sok.cons trivial h2.tl.tl, ?_⟩
        obtain ⟨p, l, e, R, s, m, args, below, meth, c, Q, nL, D, cA, X, A, c0, s0, n0, σ0⟩ := Γ
        obtain ⟨hx, hb, hml, hown, hts, hK0, hA, -⟩ := C
        intro K σ H locs ls hag hP hD hS hl
        obtain ⟨hz1, hz2⟩ := hz
        subst hz1
        exact va_sld hx hb hX hlt hnA hS hz2 hdg (K σ H locs ls hag hP hD hS hl)
      · cases ho
    · cases ho)
theorem S_slen (C : zCtx Γ cc own nm) (hX : va_X (gX Γ 99) E.2.2.2 E.2.2.1 (gS Γ) (gS Γ).heap) (hlt : gX Γ 99 < (gS Γ).heap.size) (hnA : ¬ gA Γ (gX Γ 99)) (hdg : decode cc pc = .ok (.arraylength, 1)) (hk : zOk Γ cc bp (pc + 1) k) : zOk Γ cc bp pc (z_slen E k J i) :=
  hk.st (fun lo st h o ho h1 h2 h3 => by
    unfold z_slen at ho
    split at ho
    · rename_i w rest
      split at ho
      · rename_i hz
        refine ⟨lo, _, ho, h1, Sok.cons trivial h2.tl, ?_⟩
        obtain ⟨p, l, e, R, s, m, args, below, meth, c, Q, nL, D, cA, X, A, c0, s0, n0, σ0⟩ := Γ
        obtain ⟨hx, hb, hml, hown, hts, hK0, hA, -⟩ := C
        intro K σ H locs ls hag hP hD hS hl
        subst hz
        exact va_slen hx hb hX hlt hnA hS hdg (K σ H locs ls hag hP hD hS hl)
      · cases ho
    · cases ho)
/-- something is made -/
theorem zSat.alloc {lo : LV} {st : List Value} {h : AH} {kd : Nat × Nat} {sl : Nat} (h1 : Lok (hn h) lo) (h2 : Sok (hn h) st) (h3 : Hok h) (K : zSat Γ pc' lo (.ref (hn h) :: st) (zalloc h kd sl))
    (p : Program) (l : Launch) (e : Env) (R : Room) (s : State) (m : MethodId) (args : Array Value) (below : List Frame) (meth : Method) (c : Code) (Q : State → Prop) (nL : Nat) (D : va_G) (cA : Nat → ClassId) (X : Nat → Nat) (A : Nat → Prop) (c0 s0 n0 : Nat) (σ0 : Nat → Nat)
    (hΓ : Γ = (p, l, e, R, s, m, args, below, meth, c, Q, nL, D, cA, X, A, c0, s0, n0, σ0)) (g4 : c0 ≤ hc h) (g5 : s0 ≤ hs h) {σ : Nat → Nat} {H1 : Heap} {locs : List Loc} {ls : Array Slot} {q : Nat} (hag : zAgr n0 σ0 h σ) (hP : va_P D zcls (zws cA X σ h ++ [(q, zent cA X σ (zalloc h kd sl) (hn h))]) H1) (hD : va_D A (zws cA X σ h ++ [(q, zent cA X σ (zalloc h kd sl) (hn h))])) (hS : va_S A s.heap H1 locs) (hl : lv_has ls nL (zlo X σ lo)) :
    W p l e R s m args below meth c H1 locs (hc h - c0 + 1) (hs h - s0 + sl) Q (F0 m pc' ls (.ref q :: st.map (zcv σ X))) := by
  subst hΓ
  rw [← zws_push h3] at hP hD
  have K2 := K (zsg σ (hn h) q) H1 locs ls ⟨Nat.le_trans hag.1 (Nat.le_succ _), fun j hj => (zsg_agr j (Nat.lt_of_lt_of_le hj hag.1)).trans (hag.2 j hj)⟩ hP hD hS (by rw [zlo_agr zsg_agr h1]; exact hl)
  rw [List.map_cons, zst_agr zsg_agr h2] at K2
  have e1 : zcv (zsg σ (hn h) q) X (.ref (hn h)) = .ref q := by
    show Value.ref (zsg σ (hn h) q (hn h)) = _
    unfold zsg
    rw [if_pos rfl]
  rw [e1] at K2
  have e2 : hc (zalloc h kd sl) - c0 = hc h - c0 + 1 := by show hc h + 1 - c0 = _; omega
  have e3 : hs (zalloc h kd sl) - s0 = hs h - s0 + sl := by show hs h + sl - s0 = _; omega
  rw [e2, e3] at K2
  exact K2
theorem zle.alloc {h : AH} {kd : Nat × Nat} {sl : Nat} : zle h (zalloc h kd sl) := ⟨Nat.le_succ _, Nat.le_succ _, Nat.le_add_right _ _⟩
theorem zfs_new {cA : Nat → ClassId} {X σ : Nat → Nat} {h : AH} {c sl : Nat} (h3 : Hok h) : zent cA X σ (zalloc h (10 + c, 0) sl) (hn h) = .inr (c, (List.range (znf c)).map (fun k => if zfk c k = 1 then .long 0 else if zfk c k = 2 then .null else .int 0)) := by
  rw [zent_obj (c := c) zalloc_Kn]
  congr 2
  unfold zfs
  apply List.map_congr_left
  intro k _
  have z := h3.1 (hn h) (Nat.le_refl _)
  unfold zfv
  rw [show hL (zalloc h (10 + c, 0) sl) (hn h) k = 0 from z.2.1 k, show hR (zalloc h (10 + c, 0) sl) (hn h) k = none from z.2.2 k, show hI (zalloc h (10 + c, 0) sl) (hn h) k = 0 from z.1 k]
  rfl
theorem S_new {q : vw_C} {idx : Nat} (C : zCtx Γ cc own nm) (hq : zCok i.2.2.1 q) (w1 : Cond.classLink own idx q.1 ∈ zBIG) (w2 : Cond.instantiable q.1 q.2.2 ∈ zBIG) (w3 : Cond.initialized q.1 ∈ zBIG)
    (hd : ∀ j, j < q.2.2 → defaultValue (zTy i.2.2.1 j) = if zfk i.2.2.1 j = 1 then .long 0 else if zfk i.2.2.1 j = 2 then .null else .int 0) (hdg : decode cc pc = .ok (.new idx, 3)) (hk : zOk Γ cc bp (pc + 3) k) : zOk Γ cc bp pc (z_new znf E k J i) :=
  hk.to (fun lo st h o ho h1 h2 h3 => by
    refine ⟨lo, _, _, ho, h1.up (Nat.le_succ _), Sok.cons (Nat.lt_succ_self _) (h2.up (Nat.le_succ _)), h3.alloc, zle.alloc, fun f1 f2 g4 g5 K => ?_⟩
    obtain ⟨p, l, e, R, s, m, args, below, meth, c, Q, nL, D, cA, X, A, c0, s0, n0, σ0⟩ := Γ
    obtain ⟨hx, hb, hml, hown, hts, hK0, hA, -⟩ := C
    obtain ⟨q, T, N⟩ := q
    obtain ⟨q1, q2, q3, q4, q5⟩ := hq
    intro σ H locs ls hag hP hD hS hl
    have f1 : hc h + 1 - c0 ≤ R.cells := f1
    have f2 : hs h + znf i.2.2.1 - s0 ≤ R.slots := f2
    dsimp only at g4 g5 q1 q2 q3 q4 q5 w1 w2 w3 hd
    subst q2
    refine va_new (N := znf i.2.2.1) hx hb hts q3 (zTy i.2.2.1) q4 hown (hts _ w1) (hts _ w2) (hts _ w3) hK0 hP hD hS hA q1 (fs := (List.range (znf i.2.2.1)).map (fun k => if zfk i.2.2.1 k = 1 then .long 0 else if zfk i.2.2.1 k = 2 then .null else .int 0)) (fun j hj => ?_) (by omega) (by omega) hdg (fun qa H1 hP1 hD1 hS1 => ?_)
    · rw [hd j hj]
      unfold vp_V
      rw [List.getD_eq_getElem?_getD, List.getElem?_map, List.getElem?_range hj]
      rfl
    · rw [← zfs_new (cA := cA) (X := X) (σ := σ) (sl := znf i.2.2.1) h3] at hP1 hD1
      exact zSat.alloc h1 h2 h3 K p l e R s m args below meth c Q nL D cA X A c0 s0 n0 σ0 rfl g4 g5 hag hP1 hD1 hS1 hl)
theorem S_newi {tag : Nat} {at0 : ArrayType} {ty : FieldType} (C : zCtx Γ cc own nm) (ht : (tag = 0 ∧ at0 = .int ∧ ty = .int) ∨ (tag = 1 ∧ at0 = .boolean ∧ ty = .boolean) ∨ (tag = 2 ∧ at0 = .long ∧ ty = .long)) (w1 : Cond.arrayClass ty ∈ zBIG) (hdg : decode cc pc = .ok (.newarray at0, 2)) (hk : zOk Γ cc bp (pc + 2) k) : zOk Γ cc bp pc (z_newa tag E k J i) :=
  hk.to (fun lo st h o ho h1 h2 h3 => by
    unfold z_newa at ho
    split at ho
    · rename_i x rest
      split at ho
      · rename_i hz
        refine ⟨lo, _, _, ho, h1.up (Nat.le_succ _), Sok.cons (Nat.lt_succ_self _) (h2.tl.up (Nat.le_succ _)), h3.alloc, zle.alloc, fun f1 f2 g4 g5 K => ?_⟩
        obtain ⟨p, l, e, R, s, m, args, below, meth, c, Q, nL, D, cA, X, A, c0, s0, n0, σ0⟩ := Γ
        obtain ⟨hx, hb, hml, hown, hts, hK0, hA, -⟩ := C
        intro σ H locs ls hag hP hD hS hl
        have f1 : hc h + 1 - c0 ≤ R.cells := f1
        have f2 : hs h + x.toNatClampNeg - s0 ≤ R.slots := f2
        dsimp only at g4 g5
        have z := h3.1 (hn h) (Nat.le_refl _)
        have zI : hI (zalloc h (tag, x.toNatClampNeg) x.toNatClampNeg) (hn h) = fun _ => 0 := funext z.1
        have zL : hL (zalloc h (tag, x.toNatClampNeg) x.toNatClampNeg) (hn h) = fun _ => 0 := funext z.2.1
        rcases ht with ⟨rfl, rfl, rfl⟩ | ⟨rfl, rfl, rfl⟩ | ⟨rfl, rfl, rfl⟩
        · refine va_newa (atype := .int) (ty := .int) (a0 := (x.toNatClampNeg, .inl (fun _ => 0))) hx hb (hts _ w1) rfl hK0 hP hD hS hA (fun _ => rfl) hz.1 rfl (by show x.toNatClampNeg * 4 ≤ _; omega) (by omega) (by omega) hdg (fun qa cA2 H1 hK1 hP1 hD1 hS1 => ?_)
          have e1 : cA2 = cA 0 := va_RA_inj (hK1.2 5 (cA2, .int) rfl).2 (hK0.2 0 (cA 0, .int) rfl).2
          have e2 := zent_0 (cA := cA) (X := X) (σ := σ) (h := zalloc h (0, x.toNatClampNeg) x.toNatClampNeg) (i := hn h) (by rw [zalloc_Kn])
          rw [zI, zalloc_Kn] at e2
          rw [e1, ← e2] at hP1 hD1
          exact zSat.alloc h1 h2.tl h3 K p l e R s m args below meth c Q nL D cA X A c0 s0 n0 σ0 rfl g4 g5 hag hP1 hD1 hS1 hl
        · refine va_newa (atype := .boolean) (ty := .boolean) (a0 := (x.toNatClampNeg, .inl (fun _ => 0))) hx hb (hts _ w1) rfl hK0 hP hD hS hA (fun _ => rfl) hz.1 rfl (by show x.toNatClampNeg * 1 ≤ _; omega) (by omega) (by omega) hdg (fun qa cA2 H1 hK1 hP1 hD1 hS1 => ?_)
          have e1 : cA2 = cA 1 := va_RA_inj (hK1.2 5 (cA2, .boolean) rfl).2 (hK0.2 1 (cA 1, .boolean) rfl).2
          have e2 := zent_1 (cA := cA) (X := X) (σ := σ) (h := zalloc h (1, x.toNatClampNeg) x.toNatClampNeg) (i := hn h) (by rw [zalloc_Kn])
          rw [zI, zalloc_Kn] at e2
          rw [e1, ← e2] at hP1 hD1
          exact zSat.alloc h1 h2.tl h3 K p l e R s m args below meth c Q nL D cA X A c0 s0 n0 σ0 rfl g4 g5 hag hP1 hD1 hS1 hl
        · refine va_newa (atype := .long) (ty := .long) (a0 := (x.toNatClampNeg, .inr (.inl (fun _ => 0)))) hx hb (hts _ w1) rfl hK0 hP hD hS hA (fun _ => rfl) hz.1 rfl (by show x.toNatClampNeg * 8 ≤ _; omega) (by omega) (by omega) hdg (fun qa cA2 H1 hK1 hP1 hD1 hS1 => ?_)
          have e1 : cA2 = cA 2 := va_RA_inj (hK1.2 5 (cA2, .long) rfl).2 (hK0.2 2 (cA 2, .long) rfl).2
          have e2 := zent_2 (cA := cA) (X := X) (σ := σ) (h := zalloc h (2, x.toNatClampNeg) x.toNatClampNeg) (i := hn h) (by rw [zalloc_Kn])
          rw [zL, zalloc_Kn] at e2
          rw [e1, ← e2] at hP1 hD1
          exact zSat.alloc h1 h2.tl h3 K p l e R s m args below meth c Q nL D cA X A c0 s0 n0 σ0 rfl g4 g5 hag hP1 hD1 hS1 hl
      · cases ho
    · cases ho)
theorem S_newr {tag : Nat} {nm2 : String} {idx : Nat} (C : zCtx Γ cc own nm) (hX : zX (gS Γ) (gA Γ) (gX Γ)) (ht : (tag = 3 ∧ nm2 = "TollTags$Tariff") ∨ (tag = 4 ∧ nm2 = "java/lang/String")) (w1 : Cond.classLink own idx nm2 ∈ zBIG) (hdg : decode cc pc = .ok (.anewarray idx, 3)) (hk : zOk Γ cc bp (pc + 3) k) : zOk Γ cc bp pc (z_newa tag E k J i) :=
  hk.to (fun lo st h o ho h1 h2 h3 => by
    unfold z_newa at ho
    split at ho
    · rename_i x rest
      split at ho
      · rename_i hz
        refine ⟨lo, _, _, ho, h1.up (Nat.le_succ _), Sok.cons (Nat.lt_succ_self _) (h2.tl.up (Nat.le_succ _)), h3.alloc, zle.alloc, fun f1 f2 g4 g5 K => ?_⟩
        obtain ⟨p, l, e, R, s, m, args, below, meth, c, Q, nL, D, cA, X, A, c0, s0, n0, σ0⟩ := Γ
        obtain ⟨hx, hb, hml, hown, hts, hK0, hA, -⟩ := C
        obtain ⟨adV, -, -, hX1, hX2, -⟩ := hX
        intro σ H locs ls hag hP hD hS hl
        have f1 : hc h + 1 - c0 ≤ R.cells := f1
        have f2 : hs h + x.toNatClampNeg - s0 ≤ R.slots := f2
        dsimp only at g4 g5
        have z := h3.1 (hn h) (Nat.le_refl _)
        rcases ht with ⟨rfl, rfl⟩ | ⟨rfl, rfl⟩
        · refine va_newq hx hb hown (hts _ w1) hX1 hK0 hP hD hS hA hz.1 rfl (by omega) (by omega) (by omega) hdg (fun qa cA2 H1 hK1 hP1 hD1 hS1 => ?_)
          have e1 : cA2 = cA 3 := va_RA_inj (hK1.2 5 (cA2, .object "TollTags$Tariff") rfl).2 (hK0.2 3 (cA 3, .object "TollTags$Tariff") rfl).2
          have e2 := zent_3 (cA := cA) (X := X) (σ := σ) (h := zalloc h (3, x.toNatClampNeg) x.toNatClampNeg) (i := hn h) (by rw [zalloc_Kn])
          have zR : (fun k => (hR (zalloc h (3, x.toNatClampNeg) x.toNatClampNeg) (hn h) k).map σ) = fun _ => none := funext fun k => by rw [show hR (zalloc h (3, x.toNatClampNeg) x.toNatClampNeg) (hn h) k = none from z.2.2 k]; rfl
          rw [zR, zalloc_Kn] at e2
          rw [e1, ← e2] at hP1 hD1
          exact zSat.alloc h1 h2.tl h3 K p l e R s m args below meth c Q nL D cA X A c0 s0 n0 σ0 rfl g4 g5 hag hP1 hD1 hS1 hl
        · refine va_newq hx hb hown (hts _ w1) hX2 hK0 hP hD hS hA hz.1 rfl (by omega) (by omega) (by omega) hdg (fun qa cA2 H1 hK1 hP1 hD1 hS1 => ?_)
          have e1 : cA2 = cA 4 := va_RA_inj (hK1.2 5 (cA2, .object "java/lang/String") rfl).2 (hK0.2 4 (cA 4, .object "java/lang/String") rfl).2
          have e2 := zent_4 (cA := cA) (X := X) (σ := σ) (h := zalloc h (4, x.toNatClampNeg) x.toNatClampNeg) (i := hn h) (by rw [zalloc_Kn])
          have zR : (fun k => (hR (zalloc h (4, x.toNatClampNeg) x.toNatClampNeg) (hn h) k).map X) = fun _ => none := funext fun k => by rw [show hR (zalloc h (4, x.toNatClampNeg) x.toNatClampNeg) (hn h) k = none from z.2.2 k]; rfl
          rw [zR, zalloc_Kn] at e2
          rw [e1, ← e2] at hP1 hD1
          exact zSat.alloc h1 h2.tl h3 K p l e R s m args below meth c Q nL D cA X A c0 s0 n0 σ0 rfl g4 g5 hag hP1 hD1 hS1 hl
      · cases ho
    · cases ho)
theorem zsum4 {n : Nat} : ∀ (st : List Value), st.length ≤ n → (st.map fun v => v.category).sum ≤ 2 * n := by
  induction n with
  | zero => intro st h; cases st with
    | nil => simp
    | cons a t => simp at h
  | succ n ih => intro st h; cases st with
    | nil => simp
    | cons a t =>
      simp only [List.length_cons] at h
      have := ih t (by omega)
      have h2 := lv_cat a
      simp only [List.map_cons, List.sum_cons]
      omega
theorem S_objinit {idx : Nat} (C : zCtx Γ cc own nm) (w1 : Cond.methodLink own idx Lib.objectInit ∈ zBIG) (w2 : Cond.instanceMethod Lib.objectInit ∈ zBIG) (w3 : Cond.code Lib.objectInit ⟨#[0xb1]⟩ 1 none ∈ zBIG) (hdg : decode cc pc = .ok (.invokespecial idx, 3)) (hk : zOk Γ cc bp (pc + 3) k) : zOk Γ cc bp pc (z_objinit E k J i) :=
  hk.st (fun lo st h o ho h1 h2 h3 => by
    unfold z_objinit at ho
    split at ho
    · rename_i a rest
      split at ho
      · rename_i hz
        refine ⟨lo, rest, ho, h1, h2.tl, ?_⟩
        obtain ⟨p, l, e, R, s, m, args, below, meth, c, Q, nL, D, cA, X, A, c0, s0, n0, σ0⟩ := Γ
        obtain ⟨hx, hb, hml, hown, hts, hK0, hA, -, hR1, hR2, -⟩ := C
        intro K σ H locs ls hag hP hD hS hl
        have h8 : ((rest.map (zcv σ X)).map fun v => v.category).sum ≤ 8 := zsum4 (n := 4) _ (by rw [List.length_map]; exact hz)
        have h9 := lv_room (m := m) (pc := pc) (ls := ls) (rest := (Value.ref a :: rest).map (zcv σ X)) h8
        refine W.objInit hx hb hown (hts _ w1) (hts _ w2) (hts _ w3) rfl (by rw [hml]; exact hl.1) rfl hdg (by omega) (by omega) ?_
        exact K σ H locs ls hag hP hD hS hl
      · cases ho
    · cases ho)
end S
