/-! SOUNDNESS, 3: fields and arrays. -/
theorem zin_vp {h : AH} {a tag : Nat} {x : Int32} (hz : zin h a tag x) : vp_in x (hK h a).2 := hz.2
theorem Hok.lt {h : AH} (hh : Hok h) {a k j : Nat} (h4 : (hK h a).1 ≠ 4) (hj : hR h a k = some j) : j < hn h := hh.2 a k j h4 hj
theorem zrf_cv {σ X : Nat → Nat} (r : Option Nat) : zcv σ X (zrf r) = va_rf (r.map σ) := by cases r <;> rfl
theorem zrf_ok {n : Nat} {r : Option Nat} (h : ∀ j, r = some j → j < n) : Vok n (zrf r) := by
  cases r with
  | none => trivial
  | some j => exact h j rfl
theorem Hok.setI {h : AH} {a k : Nat} {v : Int32} (hh : Hok h) (ha : a < hn h) : Hok (setI h a k v) :=
  ⟨fun q hq => ⟨fun j => by rw [setI_ne (show q ≠ a by have : hn h ≤ q := hq; omega)]; exact (hh.1 q hq).1 j, (hh.1 q hq).2⟩, hh.2⟩
theorem Hok.setL {h : AH} {a k : Nat} {v : Int64} (hh : Hok h) (ha : a < hn h) : Hok (setL h a k v) :=
  ⟨fun q hq => ⟨(hh.1 q hq).1, fun j => by rw [setL_ne (show q ≠ a by have : hn h ≤ q := hq; omega)]; exact (hh.1 q hq).2.1 j, (hh.1 q hq).2.2⟩, hh.2⟩
theorem Hok.setR {h : AH} {a k : Nat} {v : Option Nat} (hh : Hok h) (ha : a < hn h) (hv : (hK h a).1 ≠ 4 → ∀ j, v = some j → j < hn h) : Hok (setR h a k v) :=
  ⟨fun q hq => ⟨(hh.1 q hq).1, (hh.1 q hq).2.1, fun j => by rw [setR_ne (show q ≠ a by have : hn h ≤ q := hq; omega)]; exact (hh.1 q hq).2.2 j⟩, fun q j x h4 hx => by
    by_cases hq : q = a
    · subst hq
      rw [setR_eq] at hx
      unfold va_up at hx
      split at hx
      · exact hv h4 x hx
      · exact hh.2 q j x h4 hx
    · rw [setR_ne hq] at hx
      exact hh.2 q j x h4 hx⟩
section S
variable {Γ : ZG} {cc : ByteArray} {bp : Nat → Nat} {pc pc' tgt : Nat} {k : Kt} {J : Nat → Kt} {E : Evn} {i : MI} {own nm : String}
theorem S_geti {q : vw_C} (C : zCtx Γ cc own nm) (hq : zCok i.2.2.1 q) (hk1 : i.2.2.2.1 < znf i.2.2.1) (hf : zfk i.2.2.1 i.2.2.2.1 ≠ 1 ∧ zfk i.2.2.1 i.2.2.2.1 ≠ 2) {idx nest : Nat} (hl0 : zflw own idx i.2.2.1 i.2.2.2.1 nest ∈ zBIG) (hdg : decode cc pc = .ok (.getfield idx, 3)) (hk : zOk Γ cc bp (pc + 3) k) : zOk Γ cc bp pc (z_geti E k J i) :=
  hk.st (fun lo st h o ho h1 h2 h3 => by
    unfold z_geti at ho
    split at ho
    · rename_i a rest
      split at ho
      · rename_i hka
        refine ⟨lo, _, ho, h1, Sok.cons trivial h2.tl, ?_⟩
        obtain ⟨p, l, e, R, s, m, args, below, meth, c, Q, nL, D, cA, X, A, c0, s0, n0, σ0⟩ := Γ
        obtain ⟨hx, hb, hml, hown, hts, hK0, hA, -⟩ := C
        intro K σ H locs ls hag hP hD hS hl
        obtain ⟨q1, q2, q3, -⟩ := hq
        have he := (zws_get (cA := cA) (X := X) (σ := σ) h2.hd).trans (congrArg (fun z => some (σ a, z)) (zent_obj hka))
        have hv : (zfs σ h a i.2.2.1)[i.2.2.2.1]? = some (.int (hI h a i.2.2.2.1)) := by
          rw [zfs_get hk1]; unfold zfv; rw [if_neg hf.1, if_neg hf.2]
        have hw := hts _ hl0
        unfold zflw at hw
        rw [q1] at hw
        dsimp only at hw
        split at hw
        · exact va_getN (ref := (q.2.1 i.2.2.2.1).1) (index := idx) hx hb hts q3 hown hK0 hP a he q1 i.2.2.2.1 (by rw [q2]; exact hk1) hw (fun _ h9 => h9) hv hdg (K σ H locs ls hag hP hD hS hl)
        · exact va_get (ref := (q.2.1 i.2.2.2.1).1) (index := idx) hx hb hts q3 hown hK0 hP a he q1 i.2.2.2.1 (by rw [q2]; exact hk1) hw (fun _ h9 => h9) hv hdg (K σ H locs ls hag hP hD hS hl)
      · cases ho
    · cases ho)
theorem S_getl {q : vw_C} (C : zCtx Γ cc own nm) (hq : zCok i.2.2.1 q) (hk1 : i.2.2.2.1 < znf i.2.2.1) (hf : zfk i.2.2.1 i.2.2.2.1 = 1) {idx nest : Nat} (hl0 : zflw own idx i.2.2.1 i.2.2.2.1 nest ∈ zBIG) (hdg : decode cc pc = .ok (.getfield idx, 3)) (hk : zOk Γ cc bp (pc + 3) k) : zOk Γ cc bp pc (z_getl E k J i) :=
  hk.st (fun lo st h o ho h1 h2 h3 => by
    unfold z_getl at ho
    split at ho
    · rename_i a rest
      split at ho
      · rename_i hka
        refine ⟨lo, _, ho, h1, Sok.cons trivial h2.tl, ?_⟩
        obtain ⟨p, l, e, R, s, m, args, below, meth, c, Q, nL, D, cA, X, A, c0, s0, n0, σ0⟩ := Γ
        obtain ⟨hx, hb, hml, hown, hts, hK0, hA, -⟩ := C
        intro K σ H locs ls hag hP hD hS hl
        obtain ⟨q1, q2, q3, -⟩ := hq
        have he := (zws_get (cA := cA) (X := X) (σ := σ) h2.hd).trans (congrArg (fun z => some (σ a, z)) (zent_obj hka))
        have hv : (zfs σ h a i.2.2.1)[i.2.2.2.1]? = some (.long (hL h a i.2.2.2.1)) := by
          rw [zfs_get hk1]; unfold zfv; rw [if_pos hf]
        have hw := hts _ hl0
        unfold zflw at hw
        rw [q1] at hw
        dsimp only at hw
        split at hw
        · exact va_getN (ref := (q.2.1 i.2.2.2.1).1) (index := idx) hx hb hts q3 hown hK0 hP a he q1 i.2.2.2.1 (by rw [q2]; exact hk1) hw (fun _ h9 => h9) hv hdg (K σ H locs ls hag hP hD hS hl)
        · exact va_get (ref := (q.2.1 i.2.2.2.1).1) (index := idx) hx hb hts q3 hown hK0 hP a he q1 i.2.2.2.1 (by rw [q2]; exact hk1) hw (fun _ h9 => h9) hv hdg (K σ H locs ls hag hP hD hS hl)
      · cases ho
    · cases ho)
theorem S_getr {q : vw_C} (C : zCtx Γ cc own nm) (hq : zCok i.2.2.1 q) (hk1 : i.2.2.2.1 < znf i.2.2.1) (hf : zfk i.2.2.1 i.2.2.2.1 = 2) {idx nest : Nat} (hl0 : zflw own idx i.2.2.1 i.2.2.2.1 nest ∈ zBIG) (hdg : decode cc pc = .ok (.getfield idx, 3)) (hk : zOk Γ cc bp (pc + 3) k) : zOk Γ cc bp pc (z_getr E k J i) :=
  hk.st (fun lo st h o ho h1 h2 h3 => by
    unfold z_getr at ho
    split at ho
    · rename_i a rest
      split at ho
      · rename_i hka
        refine ⟨lo, _, ho, h1, Sok.cons (zrf_ok fun j hj => h3.lt (by rw [hka]; show 10 + i.2.2.1 ≠ 4; omega) hj) h2.tl, ?_⟩
        obtain ⟨p, l, e, R, s, m, args, below, meth, c, Q, nL, D, cA, X, A, c0, s0, n0, σ0⟩ := Γ
        obtain ⟨hx, hb, hml, hown, hts, hK0, hA, -⟩ := C
        intro K σ H locs ls hag hP hD hS hl
        obtain ⟨q1, q2, q3, -⟩ := hq
        have he := (zws_get (cA := cA) (X := X) (σ := σ) h2.hd).trans (congrArg (fun z => some (σ a, z)) (zent_obj hka))
        have hv : (zfs σ h a i.2.2.1)[i.2.2.2.1]? = some (zcv σ X (zrf (hR h a i.2.2.2.1))) := by
          rw [zfs_get hk1, zrf_cv]; unfold zfv; rw [if_neg (by rw [hf]; decide), if_pos hf]
        have hw := hts _ hl0
        unfold zflw at hw
        rw [q1] at hw
        dsimp only at hw
        split at hw
        · exact va_getN (ref := (q.2.1 i.2.2.2.1).1) (index := idx) hx hb hts q3 hown hK0 hP a he q1 i.2.2.2.1 (by rw [q2]; exact hk1) hw (fun _ h9 => h9) hv hdg (K σ H locs ls hag hP hD hS hl)
        · exact va_get (ref := (q.2.1 i.2.2.2.1).1) (index := idx) hx hb hts q3 hown hK0 hP a he q1 i.2.2.2.1 (by rw [q2]; exact hk1) hw (fun _ h9 => h9) hv hdg (K σ H locs ls hag hP hD hS hl)
      · cases ho
    · cases ho)
/-- a field is written: nest 0 plain, 1 by a nest mate, 2 final in its own constructor -/
theorem S_put {q : vw_C} {cl kk0 idx nest a : Nat} {v : Value} {h h' : AH} {lo : LV} {rest : List Value} (C : zCtx Γ cc own nm) (hq : zCok cl q) (hk1 : kk0 < znf cl) (hl0 : zflw own idx cl kk0 nest ∈ zBIG)
    (hfin : nest ≠ 2 → (q.2.1 kk0).2.2.2 = false) (hfin2 : nest = 2 → (q.2.1 kk0).2.2.2 = true ∧ nm = "<init>" ∧ (q.2.1 kk0).1 = own) (hdg : decode cc pc = .ok (.putfield idx, 3))
    (ha : a < hn h) (hka : hK h a = (10 + cl, 0)) (hnar : ∀ σ X, narrow (zTy cl kk0) (zcv σ X v) = zcv σ X v) (hfit : ∀ σ X, fits (zTy cl kk0) (zcv σ X v) = true)
    (hcount : hc h' = hc h ∧ hs h' = hs h ∧ hn h' = hn h) (hset : ∀ cA X σ, (zws cA X σ h).set a (σ a, .inr (cl, (zfs σ h a cl).set kk0 (zcv σ X v))) = zws cA X σ h') : zSat Γ (pc + 3) lo rest h' → zSat Γ pc lo (v :: .ref a :: rest) h := by
  obtain ⟨p, l, e, R, s, m, args, below, meth, c, Q, nL, D, cA, X, A, c0, s0, n0, σ0⟩ := Γ
  obtain ⟨hx, hb, hml, hown, hts, hK0, hA, -, -, -, hnm⟩ := C
  intro K σ H locs ls hag hP hD hS hl
  obtain ⟨q1, q2, q3, q4, q5⟩ := hq
  have he := (zws_get (cA := cA) (X := X) (σ := σ) ha).trans (congrArg (fun z => some (σ a, z)) (zent_obj hka))
  have hk2 : kk0 < q.2.2 := by rw [q2]; exact hk1
  have hlen : kk0 < (zfs σ h a cl).length := by rw [zfs_len]; exact hk1
  have hw := hts _ hl0
  unfold zflw at hw
  rw [q1] at hw
  dsimp only at hw
  rw [← hcount.1, ← hcount.2.1]
  have hag : zAgr n0 σ0 h' σ := ⟨by rw [hcount.2.2]; exact hag.1, hag.2⟩
  split at hw
  · rename_i hne
    refine va_putN (ref := (q.2.1 kk0).1) (index := idx) hx hb hts q3 (zTy cl) q4 q5 hown hK0 hP hD hS a he q1 kk0 hk2 hw (fun _ h9 => h9) (hfin (by rw [hne]; decide)) (q4 kk0 hk2) (hnar σ X) (hfit σ X) hlen hdg (fun H1 locs1 hP1 hD1 hS1 => ?_)
    rw [hset cA X σ] at hP1 hD1
    exact K σ H1 locs1 ls hag hP1 hD1 hS1 hl
  · by_cases hne : nest = 2
    · obtain ⟨f1, f2, f3⟩ := hfin2 hne
      refine va_putF (ref := (q.2.1 kk0).1) (index := idx) hx hb hts q3 (zTy cl) q4 q5 hown hK0 hP hD hS a he q1 kk0 hk2 hw (fun _ h9 => h9) f1 (hnm.trans f2) f3 (q4 kk0 hk2) (hnar σ X) (hfit σ X) hlen hdg (fun H1 locs1 hP1 hD1 hS1 => ?_)
      rw [hset cA X σ] at hP1 hD1
      exact K σ H1 locs1 ls hag hP1 hD1 hS1 hl
    · refine va_put (ref := (q.2.1 kk0).1) (index := idx) hx hb hts q3 (zTy cl) q4 q5 hown hK0 hP hD hS a he q1 kk0 hk2 hw (fun _ h9 => h9) (hfin hne) (q4 kk0 hk2) (hnar σ X) (hfit σ X) hlen hdg (fun H1 locs1 hP1 hD1 hS1 => ?_)
      rw [hset cA X σ] at hP1 hD1
      exact K σ H1 locs1 ls hag hP1 hD1 hS1 hl
theorem S_puti {q : vw_C} {idx nest : Nat} (C : zCtx Γ cc own nm) (hq : zCok i.2.2.1 q) (hk1 : i.2.2.2.1 < znf i.2.2.1) (hf : zfk i.2.2.1 i.2.2.2.1 = 0) (hty : zTy i.2.2.1 i.2.2.2.1 = .int) (hl0 : zflw own idx i.2.2.1 i.2.2.2.1 nest ∈ zBIG)
    (hfin : nest ≠ 2 → (q.2.1 i.2.2.2.1).2.2.2 = false) (hfin2 : nest = 2 → (q.2.1 i.2.2.2.1).2.2.2 = true ∧ nm = "<init>" ∧ (q.2.1 i.2.2.2.1).1 = own) (hdg : decode cc pc = .ok (.putfield idx, 3)) (hk : zOk Γ cc bp (pc + 3) k) : zOk Γ cc bp pc (z_puti E k J i) :=
  hk.to (fun lo st h o ho h1 h2 h3 => by
    unfold z_puti at ho
    split at ho
    · rename_i v a rest
      split at ho
      · rename_i hka
        have ha : a < hn h := h2.tl.hd
        refine ⟨lo, rest, _, ho, h1, h2.tl.tl, h3.setI ha, zle.rf, fun _ _ _ _ => ?_⟩
        exact S_put C hq hk1 hl0 hfin hfin2 hdg ha hka (fun _ _ => by rw [hty]; rfl) (fun _ _ => by rw [hty]; rfl) ⟨rfl, rfl, rfl⟩ (fun cA X σ => zws_set rfl (fun j hj => zent_setI hj) ((zent_obj (h := setI h a i.2.2.2.1 v) hka).trans (by rw [← zfs_setI (by rw [hf]; decide)]; rfl)))
      · cases ho
    · cases ho)
theorem S_putz {q : vw_C} {idx nest : Nat} (C : zCtx Γ cc own nm) (hq : zCok i.2.2.1 q) (hk1 : i.2.2.2.1 < znf i.2.2.1) (hf : zfk i.2.2.1 i.2.2.2.1 = 3) (hty : zTy i.2.2.1 i.2.2.2.1 = .boolean) (hl0 : zflw own idx i.2.2.1 i.2.2.2.1 nest ∈ zBIG)
    (hfin : nest ≠ 2 → (q.2.1 i.2.2.2.1).2.2.2 = false) (hfin2 : nest = 2 → (q.2.1 i.2.2.2.1).2.2.2 = true ∧ nm = "<init>" ∧ (q.2.1 i.2.2.2.1).1 = own) (hdg : decode cc pc = .ok (.putfield idx, 3)) (hk : zOk Γ cc bp (pc + 3) k) : zOk Γ cc bp pc (z_putz E k J i) :=
  hk.to (fun lo st h o ho h1 h2 h3 => by
    unfold z_putz at ho
    split at ho
    · rename_i v a rest
      split at ho
      · rename_i hka
        have ha : a < hn h := h2.tl.hd
        refine ⟨lo, rest, _, ho, h1, h2.tl.tl, h3.setI ha, zle.rf, fun _ _ _ _ => ?_⟩
        exact S_put C hq hk1 hl0 hfin hfin2 hdg ha hka.1 (fun _ _ => by rw [hty]; rcases hka.2 with z | z <;> rw [z] <;> rfl) (fun _ _ => by rw [hty]; rcases hka.2 with z | z <;> rw [z] <;> rfl) ⟨rfl, rfl, rfl⟩ (fun cA X σ => zws_set rfl (fun j hj => zent_setI hj) ((zent_obj (h := setI h a i.2.2.2.1 v) hka.1).trans (by rw [← zfs_setI (by rw [hf]; decide)]; rfl)))
      · cases ho
    · cases ho)
theorem S_putl {q : vw_C} {idx nest : Nat} (C : zCtx Γ cc own nm) (hq : zCok i.2.2.1 q) (hk1 : i.2.2.2.1 < znf i.2.2.1) (hf : zfk i.2.2.1 i.2.2.2.1 = 1) (hty : zTy i.2.2.1 i.2.2.2.1 = .long) (hl0 : zflw own idx i.2.2.1 i.2.2.2.1 nest ∈ zBIG)
    (hfin : nest ≠ 2 → (q.2.1 i.2.2.2.1).2.2.2 = false) (hfin2 : nest = 2 → (q.2.1 i.2.2.2.1).2.2.2 = true ∧ nm = "<init>" ∧ (q.2.1 i.2.2.2.1).1 = own) (hdg : decode cc pc = .ok (.putfield idx, 3)) (hk : zOk Γ cc bp (pc + 3) k) : zOk Γ cc bp pc (z_putl E k J i) :=
  hk.to (fun lo st h o ho h1 h2 h3 => by
    unfold z_putl at ho
    split at ho
    · rename_i v a rest
      split at ho
      · rename_i hka
        have ha : a < hn h := h2.tl.hd
        refine ⟨lo, rest, _, ho, h1, h2.tl.tl, h3.setL ha, zle.rf, fun _ _ _ _ => ?_⟩
        exact S_put C hq hk1 hl0 hfin hfin2 hdg ha hka (fun _ _ => by rw [hty]; rfl) (fun _ _ => by rw [hty]; rfl) ⟨rfl, rfl, rfl⟩ (fun cA X σ => zws_set rfl (fun j hj => zent_setL hj) ((zent_obj (h := setL h a i.2.2.2.1 v) hka).trans (by rw [← zfs_setL hf]; rfl)))
      · cases ho
    · cases ho)
theorem S_putr {q : vw_C} {idx nest : Nat} (C : zCtx Γ cc own nm) (hq : zCok i.2.2.1 q) (hk1 : i.2.2.2.1 < znf i.2.2.1) (hf : zfk i.2.2.1 i.2.2.2.1 = 2) (hty : (∃ n, zTy i.2.2.1 i.2.2.2.1 = .object n) ∨ ∃ n, zTy i.2.2.1 i.2.2.2.1 = .array n) (hl0 : zflw own idx i.2.2.1 i.2.2.2.1 nest ∈ zBIG)
    (hfin : nest ≠ 2 → (q.2.1 i.2.2.2.1).2.2.2 = false) (hfin2 : nest = 2 → (q.2.1 i.2.2.2.1).2.2.2 = true ∧ nm = "<init>" ∧ (q.2.1 i.2.2.2.1).1 = own) (hdg : decode cc pc = .ok (.putfield idx, 3)) (hk : zOk Γ cc bp (pc + 3) k) : zOk Γ cc bp pc (z_putr E k J i) :=
  hk.to (fun lo st h o ho h1 h2 h3 => by
    unfold z_putr at ho
    split at ho
    · rename_i v a rest
      split at ho
      · rename_i hka
        have ha : a < hn h := h2.tl.hd
        refine ⟨lo, rest, _, ho, h1, h2.tl.tl, h3.setR ha (fun _ j hj => by cases hj; exact h2.hd), zle.rf, fun _ _ _ _ => ?_⟩
        exact S_put C hq hk1 hl0 hfin hfin2 hdg ha hka (fun _ _ => by rcases hty with ⟨n, z⟩ | ⟨n, z⟩ <;> rw [z] <;> rfl) (fun _ _ => by rcases hty with ⟨n, z⟩ | ⟨n, z⟩ <;> rw [z] <;> rfl) ⟨rfl, rfl, rfl⟩ (fun cA X σ => zws_set rfl (fun j hj => zent_setR hj) ((zent_obj (h := setR h a i.2.2.2.1 (some v)) hka).trans (by rw [← zfs_setR hf]; rfl)))
      · cases ho
    · cases ho)
theorem S_iald (C : zCtx Γ cc own nm) (hdg : decode cc pc = .ok (.iaload, 1)) (hk : zOk Γ cc bp (pc + 1) k) : zOk Γ cc bp pc (z_iald 0 E k J i) :=
  hk.st (fun lo st h o ho h1 h2 h3 => by
    unfold z_iald at ho
    split at ho
    · rename_i x a rest
      split at ho
      · rename_i hz
        refine ⟨lo, _, ho, h1, Sok.cons trivial h2.tl.tl, ?_⟩
        obtain ⟨p, l, e, R, s, m, args, below, meth, c, Q, nL, D, cA, X, A, c0, s0, n0, σ0⟩ := Γ
        obtain ⟨hx, hb, hml, hown, hts, hK0, hA, -⟩ := C
        intro K σ H locs ls hag hP hD hS hl
        have he := (zws_get (cA := cA) (X := X) (σ := σ) h2.tl.hd).trans (congrArg (fun z => some (σ a, z)) (zent_0 hz.1))
        exact va_iald hx hb hK0 hP a 0 he rfl hz.2 hdg (K σ H locs ls hag hP hD hS hl)
      · cases ho
    · cases ho)
theorem S_bald (C : zCtx Γ cc own nm) (hdg : decode cc pc = .ok (.baload, 1)) (hk : zOk Γ cc bp (pc + 1) k) : zOk Γ cc bp pc (z_iald 1 E k J i) :=
  hk.st (fun lo st h o ho h1 h2 h3 => by
    unfold z_iald at ho
    split at ho
    · rename_i x a rest
      split at ho
      · rename_i hz
        refine ⟨lo, _, ho, h1, Sok.cons trivial h2.tl.tl, ?_⟩
        obtain ⟨p, l, e, R, s, m, args, below, meth, c, Q, nL, D, cA, X, A, c0, s0, n0, σ0⟩ := Γ
        obtain ⟨hx, hb, hml, hown, hts, hK0, hA, -⟩ := C
        intro K σ H locs ls hag hP hD hS hl
        have he := (zws_get (cA := cA) (X := X) (σ := σ) h2.tl.hd).trans (congrArg (fun z => some (σ a, z)) (zent_1 hz.1))
        exact va_zald hx hb hK0 hP a 1 he rfl hz.2 hdg (K σ H locs ls hag hP hD hS hl)
      · cases ho
    · cases ho)
theorem S_lald (C : zCtx Γ cc own nm) (hdg : decode cc pc = .ok (.laload, 1)) (hk : zOk Γ cc bp (pc + 1) k) : zOk Γ cc bp pc (z_lald E k J i) :=
  hk.st (fun lo st h o ho h1 h2 h3 => by
    unfold z_lald at ho
    split at ho
    · rename_i x a rest
      split at ho
      · rename_i hz
        refine ⟨lo, _, ho, h1, Sok.cons trivial h2.tl.tl, ?_⟩
        obtain ⟨p, l, e, R, s, m, args, below, meth, c, Q, nL, D, cA, X, A, c0, s0, n0, σ0⟩ := Γ
        obtain ⟨hx, hb, hml, hown, hts, hK0, hA, -⟩ := C
        intro K σ H locs ls hag hP hD hS hl
        have he := (zws_get (cA := cA) (X := X) (σ := σ) h2.tl.hd).trans (congrArg (fun z => some (σ a, z)) (zent_2 hz.1))
        exact va_lald hx hb hK0 hP a 2 he rfl hz.2 hdg (K σ H locs ls hag hP hD hS hl)
      · cases ho
    · cases ho)
theorem S_aald (C : zCtx Γ cc own nm) (hdg : decode cc pc = .ok (.aaload, 1)) (hk : zOk Γ cc bp (pc + 1) k) : zOk Γ cc bp pc (z_aald E k J i) :=
  hk.st (fun lo st h o ho h1 h2 h3 => by
    unfold z_aald at ho
    split at ho
    · rename_i x a rest
      split at ho
      · rename_i hz
        refine ⟨lo, _, ho, h1, Sok.cons (zrf_ok fun j hj => h3.lt (by rw [hz.1]; decide) hj) h2.tl.tl, ?_⟩
        obtain ⟨p, l, e, R, s, m, args, below, meth, c, Q, nL, D, cA, X, A, c0, s0, n0, σ0⟩ := Γ
        obtain ⟨hx, hb, hml, hown, hts, hK0, hA, -⟩ := C
        intro K σ H locs ls hag hP hD hS hl
        have he := (zws_get (cA := cA) (X := X) (σ := σ) h2.tl.hd).trans (congrArg (fun z => some (σ a, z)) (zent_3 hz.1))
        have K2 := K σ H locs ls hag hP hD hS hl
        rw [List.map_cons, zrf_cv] at K2
        exact va_aldq hx hb hK0 hP a 3 he rfl hz.2 hdg K2
      · cases ho
    · cases ho)
theorem S_sald (C : zCtx Γ cc own nm) (hdg : decode cc pc = .ok (.aaload, 1)) (hk : zOk Γ cc bp (pc + 1) k) : zOk Γ cc bp pc (z_sald E k J i) :=
  hk.st (fun lo st h o ho h1 h2 h3 => by
    unfold z_sald at ho
    split at ho
    · rename_i x a rest
      split at ho
      · rename_i hz
        split at ho
        · rename_i j hj
          split at ho
          case isFalse => cases ho
          rename_i h16
          refine ⟨lo, _, ho, h1, Sok.cons trivial h2.tl.tl, ?_⟩
          obtain ⟨p, l, e, R, s, m, args, below, meth, c, Q, nL, D, cA, X, A, c0, s0, n0, σ0⟩ := Γ
          obtain ⟨hx, hb, hml, hown, hts, hK0, hA, -⟩ := C
          intro K σ H locs ls hag hP hD hS hl
          have he := (zws_get (cA := cA) (X := X) (σ := σ) h2.tl.hd).trans (congrArg (fun z => some (σ a, z)) (zent_4 hz.1))
          have K2 := K σ H locs ls hag hP hD hS hl
          have e1 : zcv σ X (.float (UInt32.ofNat j)) = va_rf ((hR h a x.toNatClampNeg).map X) := by
            rw [hj]
            show Value.ref (X (UInt32.ofNat j).toNat) = .ref (X j)
            rw [UInt32.toNat_ofNat_of_lt' (Nat.lt_of_lt_of_le (by assumption) (by decide))]
          rw [List.map_cons, e1] at K2
          exact va_aldq hx hb hK0 hP a 4 he rfl hz.2 hdg K2
        · cases ho
      · cases ho
    · cases ho)
/-- an array's place is written -/
theorem S_iast (C : zCtx Γ cc own nm) (hdg : decode cc pc = .ok (.iastore, 1)) (hk : zOk Γ cc bp (pc + 1) k) : zOk Γ cc bp pc (z_iast E k J i) :=
  hk.to (fun lo st h o ho h1 h2 h3 => by
    unfold z_iast at ho
    split at ho
    · rename_i v x a rest
      split at ho
      · rename_i hz
        have ha : a < hn h := h2.tl.tl.hd
        refine ⟨lo, rest, _, ho, h1, h2.tl.tl.tl, h3.setI ha, zle.rf, fun _ _ _ _ => ?_⟩
        obtain ⟨p, l, e, R, s, m, args, below, meth, c, Q, nL, D, cA, X, A, c0, s0, n0, σ0⟩ := Γ
        obtain ⟨hx, hb, hml, hown, hts, hK0, hA, -⟩ := C
        intro K σ H locs ls hag hP hD hS hl
        have he := (zws_get (cA := cA) (X := X) (σ := σ) ha).trans (congrArg (fun z => some (σ a, z)) (zent_0 hz.1))
        have hw : (zws cA X σ h).set a (σ a, .inl (cA 0, (hK h a).2, .inl (upd (hI h a) x.toNatClampNeg v))) = zws cA X σ (setI h a x.toNatClampNeg v) := zws_set rfl (fun j hj => zent_setI hj) ((zent_0 (h := setI h a x.toNatClampNeg v) hz.1).trans (by rw [setI_eq]; rfl))
        refine va_iast hx hb hK0 hP hD hS a 0 he rfl hz.2 hdg (fun H1 locs1 hP1 hD1 hS1 => ?_)
        rw [hw] at hP1 hD1
        exact K σ H1 locs1 ls hag hP1 hD1 hS1 hl
      · cases ho
    · cases ho)
theorem S_bast (C : zCtx Γ cc own nm) (hdg : decode cc pc = .ok (.bastore, 1)) (hk : zOk Γ cc bp (pc + 1) k) : zOk Γ cc bp pc (z_bast E k J i) :=
  hk.to (fun lo st h o ho h1 h2 h3 => by
    unfold z_bast at ho
    split at ho
    · rename_i v x a rest
      split at ho
      · rename_i hz
        have ha : a < hn h := h2.tl.tl.hd
        refine ⟨lo, rest, _, ho, h1, h2.tl.tl.tl, h3.setI ha, zle.rf, fun _ _ _ _ => ?_⟩
        obtain ⟨p, l, e, R, s, m, args, below, meth, c, Q, nL, D, cA, X, A, c0, s0, n0, σ0⟩ := Γ
        obtain ⟨hx, hb, hml, hown, hts, hK0, hA, -⟩ := C
        intro K σ H locs ls hag hP hD hS hl
        have he := (zws_get (cA := cA) (X := X) (σ := σ) ha).trans (congrArg (fun z => some (σ a, z)) (zent_1 hz.1))
        have hw : (zws cA X σ h).set a (σ a, .inl (cA 1, (hK h a).2, .inl (upd (hI h a) x.toNatClampNeg (vp_nar .boolean v)))) = zws cA X σ (setI h a x.toNatClampNeg (vp_nar .boolean v)) := zws_set rfl (fun j hj => zent_setI hj) ((zent_1 (h := setI h a x.toNatClampNeg (vp_nar .boolean v)) hz.1).trans (by rw [setI_eq]; rfl))
        refine va_zast hx hb hK0 hP hD hS a 1 he rfl hz.2 hdg (fun H1 locs1 hP1 hD1 hS1 => ?_)
        rw [hw] at hP1 hD1
        exact K σ H1 locs1 ls hag hP1 hD1 hS1 hl
      · cases ho
    · cases ho)
theorem S_last (C : zCtx Γ cc own nm) (hdg : decode cc pc = .ok (.lastore, 1)) (hk : zOk Γ cc bp (pc + 1) k) : zOk Γ cc bp pc (z_last E k J i) :=
  hk.to (fun lo st h o ho h1 h2 h3 => by
    unfold z_last at ho
    split at ho
    · rename_i v x a rest
      split at ho
      · rename_i hz
        have ha : a < hn h := h2.tl.tl.hd
        refine ⟨lo, rest, _, ho, h1, h2.tl.tl.tl, h3.setL ha, zle.rf, fun _ _ _ _ => ?_⟩
        obtain ⟨p, l, e, R, s, m, args, below, meth, c, Q, nL, D, cA, X, A, c0, s0, n0, σ0⟩ := Γ
        obtain ⟨hx, hb, hml, hown, hts, hK0, hA, -⟩ := C
        intro K σ H locs ls hag hP hD hS hl
        have he := (zws_get (cA := cA) (X := X) (σ := σ) ha).trans (congrArg (fun z => some (σ a, z)) (zent_2 hz.1))
        have hw : (zws cA X σ h).set a (σ a, .inl (cA 2, (hK h a).2, .inr (.inl (vp_updL (hL h a) x.toNatClampNeg v)))) = zws cA X σ (setL h a x.toNatClampNeg v) := zws_set rfl (fun j hj => zent_setL hj) ((zent_2 (h := setL h a x.toNatClampNeg v) hz.1).trans (by rw [setL_eq]; rfl))
        refine va_last hx hb hK0 hP hD hS a 2 he rfl hz.2 hdg (fun H1 locs1 hP1 hD1 hS1 => ?_)
        rw [hw] at hP1 hD1
        exact K σ H1 locs1 ls hag hP1 hD1 hS1 hl
      · cases ho
    · cases ho)
theorem va_up_map {f : Nat → Option Nat} {k : Nat} {v : Option Nat} {g : Nat → Nat} : va_up (fun j => (f j).map g) k (v.map g) = fun j => (va_up f k v j).map g := by
  funext j
  unfold va_up
  split <;> rfl
theorem S_aast (C : zCtx Γ cc own nm) (hdg : decode cc pc = .ok (.aastore, 1)) (hk : zOk Γ cc bp (pc + 1) k) : zOk Γ cc bp pc (z_aast E k J i) :=
  hk.to (fun lo st h o ho h1 h2 h3 => by
    have hw : ∀ (cA : Nat → ClassId) (X σ : Nat → Nat) (a j : Nat) (v : Option Nat), (hK h a).1 = 3 → (zws cA X σ h).set a (σ a, .inl (cA 3, (hK h a).2, .inr (.inr (.inr (.inr (va_up (fun k => (hR h a k).map σ) j (v.map σ))))))) = zws cA X σ (setR h a j v) :=
      fun cA X σ a j v hz => zws_set rfl (fun j hj => zent_setR hj) ((zent_3 (h := setR h a j v) hz).trans (by rw [setR_eq, va_up_map]; rfl))
    unfold z_aast at ho
    split at ho
    · rename_i v x a rest
      split at ho
      · rename_i hz
        have ha : a < hn h := h2.tl.tl.hd
        refine ⟨lo, rest, _, ho, h1, h2.tl.tl.tl, h3.setR ha (fun _ j hj => by cases hj; exact h2.hd), zle.rf, fun _ _ _ _ => ?_⟩
        obtain ⟨p, l, e, R, s, m, args, below, meth, c, Q, nL, D, cA, X, A, c0, s0, n0, σ0⟩ := Γ
        obtain ⟨hx, hb, hml, hown, hts, hK0, hA, -⟩ := C
        intro K σ H locs ls hag hP hD hS hl
        have he := (zws_get (cA := cA) (X := X) (σ := σ) ha).trans (congrArg (fun z => some (σ a, z)) (zent_3 hz.1.1))
        have hev := (zws_get (cA := cA) (X := X) (σ := σ) (show v < hn h from h2.hd)).trans (congrArg (fun z => some (σ v, z)) (zent_obj (c := 8) hz.2))
        refine va_astq (r := (RX8, TX8, 5)) hx hb hK0 hP hD hS a 3 v 8 he rfl hev rfl hz.1.2 hdg (fun H1 locs1 hP1 hD1 hS1 => ?_)
        have hw2 := hw cA X σ a x.toNatClampNeg (some v) hz.1.1
        rw [Option.map_some] at hw2
        rw [hw2] at hP1 hD1
        exact K σ H1 locs1 ls hag hP1 hD1 hS1 hl
      · cases ho
    · rename_i x a rest
      split at ho
      · rename_i hz
        have ha : a < hn h := h2.tl.tl.hd
        refine ⟨lo, rest, _, ho, h1, h2.tl.tl.tl, h3.setR ha (fun _ j hj => by cases hj), zle.rf, fun _ _ _ _ => ?_⟩
        obtain ⟨p, l, e, R, s, m, args, below, meth, c, Q, nL, D, cA, X, A, c0, s0, n0, σ0⟩ := Γ
        obtain ⟨hx, hb, hml, hown, hts, hK0, hA, -⟩ := C
        intro K σ H locs ls hag hP hD hS hl
        have he := (zws_get (cA := cA) (X := X) (σ := σ) ha).trans (congrArg (fun z => some (σ a, z)) (zent_3 hz.1))
        refine va_astqN hx hb hK0 hP hD hS a 3 he rfl hz.2 hdg (fun H1 locs1 hP1 hD1 hS1 => ?_)
        have hw2 := hw cA X σ a x.toNatClampNeg none hz.1
        rw [Option.map_none] at hw2
        rw [hw2] at hP1 hD1
        exact K σ H1 locs1 ls hag hP1 hD1 hS1 hl
      · cases ho
    · cases ho)
theorem S_alen (C : zCtx Γ cc own nm) (hdg : decode cc pc = .ok (.arraylength, 1)) (hk : zOk Γ cc bp (pc + 1) k) : zOk Γ cc bp pc (z_alen E k J i) :=
  hk.st (fun lo st h o ho h1 h2 h3 => by
    unfold z_alen at ho
    split at ho
    · rename_i a rest
      split at ho
      · rename_i hz
        refine ⟨lo, _, ho, h1, Sok.cons trivial h2.tl, ?_⟩
        obtain ⟨p, l, e, R, s, m, args, below, meth, c, Q, nL, D, cA, X, A, c0, s0, n0, σ0⟩ := Γ
        obtain ⟨hx, hb, hml, hown, hts, hK0, hA, -⟩ := C
        intro K σ H locs ls hag hP hD hS hl
        have hg := zws_get (cA := cA) (X := X) (σ := σ) h2.hd
        have K2 := K σ H locs ls hag hP hD hS hl
        rcases (show (hK h a).1 = 0 ∨ (hK h a).1 = 1 ∨ (hK h a).1 = 2 ∨ (hK h a).1 = 3 ∨ (hK h a).1 = 4 by omega) with z | z | z | z | z
        · exact va_alen hx hb hK0 hP a 0 (hg.trans (congrArg (fun w => some (σ a, w)) (zent_0 z))) rfl rfl hdg K2
        · exact va_alen hx hb hK0 hP a 1 (hg.trans (congrArg (fun w => some (σ a, w)) (zent_1 z))) rfl rfl hdg K2
        · exact va_alen hx hb hK0 hP a 2 (hg.trans (congrArg (fun w => some (σ a, w)) (zent_2 z))) rfl rfl hdg K2
        · exact va_alen hx hb hK0 hP a 3 (hg.trans (congrArg (fun w => some (σ a, w)) (zent_3 z))) rfl rfl hdg K2
        · exact va_alen hx hb hK0 hP a 4 (hg.trans (congrArg (fun w => some (σ a, w)) (zent_4 z))) rfl rfl hdg K2
      · cases ho
    · cases ho)
end S
