/-! SOUNDNESS, 5: copying, throwing, calls. -/
theorem zcpy_ne {h : AH} {a b n j : Nat} (hj : j ≠ b) : hI (zcpy h a b n) j = hI h j := by
  funext q
  show (if j = b then (fun k => if k < n then h.1 a k else h.1 j k) else h.1 j) q = h.1 j q
  rw [if_neg hj]
theorem zcpy_eq {h : AH} {a b n : Nat} : hI (zcpy h a b n) b = va_cpy (hI h a) (hI h b) 0 0 n := by
  funext q
  show (if b = b then (fun k => if k < n then h.1 a k else h.1 b k) else h.1 b) q = if 0 ≤ q ∧ q < 0 + n then h.1 a (0 + (q - 0)) else h.1 b q
  rw [if_pos rfl]
  simp
theorem Hok.cpy {h : AH} {a b n : Nat} (hh : Hok h) (hb : b < hn h) : Hok (zcpy h a b n) :=
  ⟨fun q hq => ⟨fun j => by rw [zcpy_ne (show q ≠ b by have : hn h ≤ q := hq; omega)]; exact (hh.1 q hq).1 j, (hh.1 q hq).2⟩, hh.2⟩
theorem Hok.exc {h : AH} (hh : Hok h) : Hok (zexc h) := hh
section S
variable {Γ : ZG} {cc : ByteArray} {bp : Nat → Nat} {pc pc' tgt : Nat} {k : Kt} {J : Nat → Kt} {E : Evn} {i : MI} {own nm : String}
theorem S_acopy {idx : Nat} (C : zCtx Γ cc own nm) (w1 : Cond.methodLink own idx arraycopyName ∈ zBIG) (w2 : Cond.native arraycopyName ∈ zBIG) (w3 : Cond.static arraycopyName ∈ zBIG) (w4 : Cond.initialized "java/lang/System" ∈ zBIG) (hdg : decode cc pc = .ok (.invokestatic idx, 3)) (hk : zOk Γ cc bp (pc + 3) k) : zOk Γ cc bp pc (z_acopy E k J i) :=
  hk.to (fun lo st h o ho h1 h2 h3 => by
    unfold z_acopy at ho
    split at ho
    · rename_i n y b x a rest
      split at ho
      · rename_i hz
        obtain ⟨z1, z2, z3, z4, z5, z6, z7, z8, z9⟩ := hz
        have ha : a < hn h := h2.tl.tl.tl.tl.hd
        have hb' : b < hn h := h2.tl.tl.hd
        refine ⟨lo, rest, _, ho, h1, h2.tl.tl.tl.tl.tl, h3.cpy hb', zle.rf, fun _ _ _ _ => ?_⟩
        obtain ⟨p, l, e, R, s, m, args, below, meth, c, Q, nL, D, cA, X, A, c0, s0, n0, σ0⟩ := Γ
        obtain ⟨hx, hb, hml, hown, hts, hK0, hA, -, hR1, hR2, -⟩ := C
        intro K σ H locs ls hag hP hD hS hl
        subst z3; subst z4
        have he0 := (zws_get (cA := cA) (X := X) (σ := σ) ha).trans (congrArg (fun z => some (σ a, z)) (zent_0 z1))
        have he1 := (zws_get (cA := cA) (X := X) (σ := σ) hb').trans (congrArg (fun z => some (σ b, z)) (zent_0 z2))
        have h8 : ((rest.map (zcv σ X)).map fun v => v.category).sum ≤ 8 := zsum4 (n := 4) _ (by rw [List.length_map]; exact z9)
        have h9 : nativeFrameWords "java/lang/System" "arraycopy" 5 = 7 := by decide +kernel
        have hw : (zws cA X σ h).set b (σ b, .inl (cA 0, (hK h b).2, .inl (va_cpy (hI h a) (hI h b) (0 : Int32).toNatClampNeg (0 : Int32).toNatClampNeg n.toNatClampNeg))) = zws cA X σ (zcpy h a b n.toNatClampNeg) := zws_set rfl (fun j hj => zent_congr (zcpy_ne hj) rfl rfl rfl) ((zent_0 (h := zcpy h a b n.toNatClampNeg) z2).trans (by rw [zcpy_eq]; rfl))
        refine va_copyi (sp := 0) (dp := 0) hx hb (by rw [hml]; exact hl.1.symm) hown (hts _ w1) (hts _ w2) (hts _ w3) (hts _ w4) hK0 hP hD hS a b 0 0 he0 he1 rfl rfl rfl (by decide) (by decide) z5 (by simpa using z6) (by simpa using z7) (fun _ _ => rfl) (by omega) (by rw [h9]; omega) hdg (fun H1 locs1 hP1 hD1 hS1 => ?_)
        rw [hw] at hP1 hD1
        exact K σ H1 locs1 ls hag hP1 hD1 hS1 hl
      · cases ho
    · cases ho)
theorem S_throw {ik ic : Nat} (C : zCtx Γ cc own nm) (d0 : decode cc pc = .ok (.new ik, 3)) (d3 : decode cc (pc + 3) = .ok (.dup, 1)) (d4 : decode cc (pc + 4) = .ok (.invokespecial ic, 3)) (d7 : decode cc (pc + 7) = .ok (.athrow, 1))
    (hw : ∀ w ∈ Cond.classLink own ik (zXn i.2.2.1) :: Cond.initialized (zXn i.2.2.1) :: vx_at0 own ic (zXn i.2.2.1) ["java/lang/RuntimeException", "java/lang/Exception"], w ∈ zBIG ∧ vx_ot w = true) : zOk Γ cc bp pc (z_throw E k J i) := by
  obtain ⟨p, l, e, R, s, m, args, below, meth, c, Q, nL, D, cA, X, A, c0, s0, n0, σ0⟩ := Γ
  obtain ⟨hx, hb, hml, hown, hts, hK0, hA, -, hR1, hR2, -⟩ := C
  intro lo st h o ho h1 h2 h3 h4 h5
  unfold z_throw at ho
  split at ho
  · rename_i h6
    cases ho
    refine ⟨⟨Nat.le_refl _, Nat.le_succ _, Nat.le_add_right _ _⟩, ⟨trivial, h3.exc⟩, fun f1 _ _ σ H locs ls hag hP hD hS hl => ?_⟩
    exact (f1 σ H locs hag hP hD hS).2 h own pc ik ic ls _ rfl h4 h5 hown (by rw [hml]; exact hl.1) (by rw [List.length_map]; exact h6) d0 d3 d4 d7 (fun w hw2 => ⟨hts _ (hw w hw2).1, (hw w hw2).2⟩)
  · cases ho
end S
theorem zOk_none {Γ : ZG} {cc : ByteArray} {bp : Nat → Nat} {pc : Nat} {k : Kt} (h : ∀ lo st h, k lo st h = none) : zOk Γ cc bp pc k := by
  obtain ⟨p, l, e, R, s, m, args, below, meth, c, Q, nL, D, cA, X, A, c0, s0, n0, σ0⟩ := Γ
  intro lo st h9 o ho
  rw [h] at ho
  cases ho
