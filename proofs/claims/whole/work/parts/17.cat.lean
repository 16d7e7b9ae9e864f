/-! SOUNDNESS, 13: the handlers of the claim; all contracts. Written by program (wip/whole/mk17.py). -/
set_option maxRecDepth 20000 in
theorem zhl_0 : Cond.classLink "TollTagsLaw" 13 (zXn 0) ∈ zBIG := zBIG_in (ztb_3 _ (List.mem_of_getElem? (i := 67) rfl)) rfl
set_option maxRecDepth 20000 in
theorem zhc_0 : Cond.castable (zXn 0) (zXn 0) ∈ zBIG := zBIG_in (ztb_3 _ (List.mem_of_getElem? (i := 82) rfl)) rfl
set_option maxRecDepth 20000 in
theorem zhl_1 : Cond.classLink "TollTagsLaw" 23 (zXn 1) ∈ zBIG := zBIG_in (ztb_3 _ (List.mem_of_getElem? (i := 169) rfl)) rfl
set_option maxRecDepth 20000 in
theorem zhc_1 : Cond.castable (zXn 1) (zXn 1) ∈ zBIG := zBIG_in (ztb_3 _ (List.mem_of_getElem? (i := 177) rfl)) rfl
theorem zdec_lt {cc : ByteArray} {pc n : Nat} {i : Instr} (h : decode cc pc = .ok (i, n)) : pc < cc.size := by
  by_cases hn : pc < cc.size
  · exact hn
  · exfalso
    have hu : Reader.runAt (Reader.u1 : Decoder Nat) cc pc = .error (HasTruncated.truncated pc) := by
      have e0 : Reader.runAt (Reader.u1 : Decoder Nat) cc pc = (StateT.run (ReaderT.run (if h : pc < cc.size then (do set (pc + 1); pure (cc[pc]'h).toNat : Decoder Nat) else (throw (HasTruncated.truncated pc) : Decoder Nat)) cc) pc : Except DecodeError (Nat × Nat)) := rfl
      rw [e0, dif_neg hn]
      rfl
    have key : ∀ f : Nat → Decoder Instr, Reader.runAt (Reader.u1 >>= f) cc pc = .error (HasTruncated.truncated pc) := by
      intro f
      have e1 : Reader.runAt (Reader.u1 >>= f) cc pc = (Reader.runAt (Reader.u1 : Decoder Nat) cc pc >>= fun x => Reader.runAt (f x.1) cc x.2) := rfl
      rw [e1, hu]
      rfl
    have h2 : Reader.runAt (Decoder.instr pc) cc pc = .error (HasTruncated.truncated pc) := key _
    unfold decode at h
    rw [h2] at h
    cases h
def zinvc (cc : ByteArray) (e : ExceptionTableEntry) (pc : Nat) : Bool := match decode cc pc with
  | .ok (.invokevirtual _, _) => covers e pc
  | _ => true
theorem zinvc_ok {cc : ByteArray} {e : ExceptionTableEntry} (h : ∀ pc, pc < cc.size → zinvc cc e pc = true) {pc idx : Nat} (hd : decode cc pc = .ok (.invokevirtual idx, 3)) : covers e pc = true := by
  have h1 := h pc (zdec_lt hd)
  unfold zinvc at h1
  rw [hd] at h1
  exact h1
theorem zH_mem {m e : Nat} {r : Int32} (h : zH m e = some r) : (m, e, r) ∈ zHt := by
  unfold zH at h
  cases hf : zHt.find? (fun q => q.1 == m && q.2.1 == e) with
  | none => rw [hf] at h; cases h
  | some q =>
    rw [hf] at h
    have h1 := List.find?_some hf
    have h2 := List.mem_of_find?_eq_some hf
    simp only [Bool.and_eq_true, beq_iff_eq] at h1
    obtain ⟨rfl, rfl⟩ := h1
    have h3 : q.2.2 = r := Option.some.inj h
    subst h3
    exact h2
/-- what a handler owes -/
def zCat1 (Γ : ZG) (cc : ByteArray) (pc x : Nat) (r : Int32) : Prop := match Γ with
  | (p, l, e, R, s, m, args, below, meth, c, Q, nL, D, cA, X, A, c0, s0, n0, σ0) => ∀ (σ : Nat → Nat) (H : Heap) (locs : List Loc) (h' : AH), zEnd Γ cc (.inr (some (.int r))) h' → zAgr n0 σ0 h' σ → va_P D zcls (zws cA X σ h') H → va_D A (zws cA X σ h') → va_S A s.heap H locs → ∀ (ls : Array Slot) (lv : List (Nat × Value)) (rest : List Value) (q : Addr) (ce : Cell), lv_has ls nL lv → H[q]? = some ce → ce.vm = .none → s.vm.findClass (zXn x) = some ce.cls → vx_W p l e R s m args below meth c H locs (hc h' - c0) (hs h' - s0) Q (F0 m pc ls rest) q
theorem zdh_214_0_0 : decode (zMB 214) 21 = .ok (.astore 8, 2) := by decide +kernel
theorem zdh_214_0_1 : decode (zMB 214) 23 = .ok (.iconst 1, 1) := by decide +kernel
theorem zdh_214_0_2 : decode (zMB 214) 24 = .ok (.ireturn, 1) := by decide +kernel
set_option maxRecDepth 20000 in
theorem zci_214_0 : ∀ pc, pc < (zMB 214).size → zinvc (zMB 214) ⟨0, 18, 21, 13⟩ pc = true := by decide +kernel
set_option maxRecDepth 20000 in
theorem zct_214_0 {Γ : ZG} {nm : String} (C : zCtx Γ (zMB 214) (zown (zMO 214)) nm) (hX : zX (gS Γ) (gA Γ) (gX Γ)) (hnL : Γ.2.2.2.2.2.2.2.2.2.2.2.1 = zML 214) (htb : Γ.2.2.2.2.2.2.2.2.2.1.exceptionTable.toList = tableOf (zMH 214)) (hri : Γ.2.2.2.2.2.2.2.2.1.sig.returnType = zMR 214) {pc idx : Nat} (hd : decode (zMB 214) pc = .ok (.invokevirtual idx, 3)) : zCat1 Γ (zMB 214) pc 0 1 := by
  obtain ⟨p, l, e, R, s, mi, args, below, meth, c, Q, nL, D, cA, X, A, c0, s0, n0, σ0⟩ := Γ
  obtain ⟨hx, hb, hml, hown, hts, -⟩ := C
  intro σ H locs h' hE hag hP hD hS ls lv rest q ce hl hc hv hf
  have hnL : nL = zML 214 := hnL
  refine vx_catch (own := "TollTagsLaw") (name := zXn 0) (E := zXn 0) (ce := ce) hown [] ⟨0, 18, 21, 13⟩ [] htb (fun z hz => by cases hz) (zinvc_ok zci_214_0 hd) (by decide) (hts _ zhl_0) (hts _ zhc_0) hc hv hf ?_
  refine lv_astore (i := 8) hx hb zdh_214_0_0 hl (by rw [hnL]; decide +kernel) rfl (fun ls2 _ => ?_)
  refine lv_iconst (v := 1) hx hb zdh_214_0_1 (by decide) ?_
  exact hE σ H locs hag hP hD hS 24 ls2 zdh_214_0_2 (Or.inr hri)
theorem zdh_215_0_0 : decode (zMB 215) 13 = .ok (.astore 4, 2) := by decide +kernel
theorem zdh_215_0_1 : decode (zMB 215) 15 = .ok (.iconst 1, 1) := by decide +kernel
theorem zdh_215_0_2 : decode (zMB 215) 16 = .ok (.ireturn, 1) := by decide +kernel
set_option maxRecDepth 20000 in
theorem zci_215_0 : ∀ pc, pc < (zMB 215).size → zinvc (zMB 215) ⟨0, 10, 13, 13⟩ pc = true := by decide +kernel
set_option maxRecDepth 20000 in
theorem zct_215_0 {Γ : ZG} {nm : String} (C : zCtx Γ (zMB 215) (zown (zMO 215)) nm) (hX : zX (gS Γ) (gA Γ) (gX Γ)) (hnL : Γ.2.2.2.2.2.2.2.2.2.2.2.1 = zML 215) (htb : Γ.2.2.2.2.2.2.2.2.2.1.exceptionTable.toList = tableOf (zMH 215)) (hri : Γ.2.2.2.2.2.2.2.2.1.sig.returnType = zMR 215) {pc idx : Nat} (hd : decode (zMB 215) pc = .ok (.invokevirtual idx, 3)) : zCat1 Γ (zMB 215) pc 0 1 := by
  obtain ⟨p, l, e, R, s, mi, args, below, meth, c, Q, nL, D, cA, X, A, c0, s0, n0, σ0⟩ := Γ
  obtain ⟨hx, hb, hml, hown, hts, -⟩ := C
  intro σ H locs h' hE hag hP hD hS ls lv rest q ce hl hc hv hf
  have hnL : nL = zML 215 := hnL
  refine vx_catch (own := "TollTagsLaw") (name := zXn 0) (E := zXn 0) (ce := ce) hown [] ⟨0, 10, 13, 13⟩ [] htb (fun z hz => by cases hz) (zinvc_ok zci_215_0 hd) (by decide) (hts _ zhl_0) (hts _ zhc_0) hc hv hf ?_
  refine lv_astore (i := 4) hx hb zdh_215_0_0 hl (by rw [hnL]; decide +kernel) rfl (fun ls2 _ => ?_)
  refine lv_iconst (v := 1) hx hb zdh_215_0_1 (by decide) ?_
  exact hE σ H locs hag hP hD hS 16 ls2 zdh_215_0_2 (Or.inr hri)
theorem zdh_216_1_0 : decode (zMB 216) 12 = .ok (.astore_n 3, 1) := by decide +kernel
theorem zdh_216_1_1 : decode (zMB 216) 13 = .ok (.iconst 1, 1) := by decide +kernel
theorem zdh_216_1_2 : decode (zMB 216) 14 = .ok (.ireturn, 1) := by decide +kernel
set_option maxRecDepth 20000 in
theorem zci_216_1 : ∀ pc, pc < (zMB 216).size → zinvc (zMB 216) ⟨0, 9, 12, 23⟩ pc = true := by decide +kernel
set_option maxRecDepth 20000 in
theorem zct_216_1 {Γ : ZG} {nm : String} (C : zCtx Γ (zMB 216) (zown (zMO 216)) nm) (hX : zX (gS Γ) (gA Γ) (gX Γ)) (hnL : Γ.2.2.2.2.2.2.2.2.2.2.2.1 = zML 216) (htb : Γ.2.2.2.2.2.2.2.2.2.1.exceptionTable.toList = tableOf (zMH 216)) (hri : Γ.2.2.2.2.2.2.2.2.1.sig.returnType = zMR 216) {pc idx : Nat} (hd : decode (zMB 216) pc = .ok (.invokevirtual idx, 3)) : zCat1 Γ (zMB 216) pc 1 1 := by
  obtain ⟨p, l, e, R, s, mi, args, below, meth, c, Q, nL, D, cA, X, A, c0, s0, n0, σ0⟩ := Γ
  obtain ⟨hx, hb, hml, hown, hts, -⟩ := C
  intro σ H locs h' hE hag hP hD hS ls lv rest q ce hl hc hv hf
  have hnL : nL = zML 216 := hnL
  refine vx_catch (own := "TollTagsLaw") (name := zXn 1) (E := zXn 1) (ce := ce) hown [] ⟨0, 9, 12, 23⟩ [] htb (fun z hz => by cases hz) (zinvc_ok zci_216_1 hd) (by decide) (hts _ zhl_1) (hts _ zhc_1) hc hv hf ?_
  refine lv_astore_n (i := 3) hx hb zdh_216_1_0 rfl hl (by rw [hnL]; decide +kernel) rfl (fun ls2 _ => ?_)
  refine lv_iconst (v := 1) hx hb zdh_216_1_1 (by decide) ?_
  exact hE σ H locs hag hP hD hS 14 ls2 zdh_216_1_2 (Or.inr hri)
theorem zdh_217_0_0 : decode (zMB 217) 15 = .ok (.astore 5, 2) := by decide +kernel
theorem zdh_217_0_1 : decode (zMB 217) 17 = .ok (.iconst 1, 1) := by decide +kernel
theorem zdh_217_0_2 : decode (zMB 217) 18 = .ok (.ireturn, 1) := by decide +kernel
set_option maxRecDepth 20000 in
theorem zci_217_0 : ∀ pc, pc < (zMB 217).size → zinvc (zMB 217) ⟨0, 12, 15, 13⟩ pc = true := by decide +kernel
set_option maxRecDepth 20000 in
theorem zct_217_0 {Γ : ZG} {nm : String} (C : zCtx Γ (zMB 217) (zown (zMO 217)) nm) (hX : zX (gS Γ) (gA Γ) (gX Γ)) (hnL : Γ.2.2.2.2.2.2.2.2.2.2.2.1 = zML 217) (htb : Γ.2.2.2.2.2.2.2.2.2.1.exceptionTable.toList = tableOf (zMH 217)) (hri : Γ.2.2.2.2.2.2.2.2.1.sig.returnType = zMR 217) {pc idx : Nat} (hd : decode (zMB 217) pc = .ok (.invokevirtual idx, 3)) : zCat1 Γ (zMB 217) pc 0 1 := by
  obtain ⟨p, l, e, R, s, mi, args, below, meth, c, Q, nL, D, cA, X, A, c0, s0, n0, σ0⟩ := Γ
  obtain ⟨hx, hb, hml, hown, hts, -⟩ := C
  intro σ H locs h' hE hag hP hD hS ls lv rest q ce hl hc hv hf
  have hnL : nL = zML 217 := hnL
  refine vx_catch (own := "TollTagsLaw") (name := zXn 0) (E := zXn 0) (ce := ce) hown [] ⟨0, 12, 15, 13⟩ [] htb (fun z hz => by cases hz) (zinvc_ok zci_217_0 hd) (by decide) (hts _ zhl_0) (hts _ zhc_0) hc hv hf ?_
  refine lv_astore (i := 5) hx hb zdh_217_0_0 hl (by rw [hnL]; decide +kernel) rfl (fun ls2 _ => ?_)
  refine lv_iconst (v := 1) hx hb zdh_217_0_1 (by decide) ?_
  exact hE σ H locs hag hP hD hS 18 ls2 zdh_217_0_2 (Or.inr hri)
theorem zdh_218_0_0 : decode (zMB 218) 19 = .ok (.astore_n 3, 1) := by decide +kernel
theorem zdh_218_0_1 : decode (zMB 218) 20 = .ok (.iconst 1, 1) := by decide +kernel
theorem zdh_218_0_2 : decode (zMB 218) 21 = .ok (.ireturn, 1) := by decide +kernel
set_option maxRecDepth 20000 in
theorem zci_218_0 : ∀ pc, pc < (zMB 218).size → zinvc (zMB 218) ⟨0, 16, 19, 13⟩ pc = true := by decide +kernel
set_option maxRecDepth 20000 in
theorem zct_218_0 {Γ : ZG} {nm : String} (C : zCtx Γ (zMB 218) (zown (zMO 218)) nm) (hX : zX (gS Γ) (gA Γ) (gX Γ)) (hnL : Γ.2.2.2.2.2.2.2.2.2.2.2.1 = zML 218) (htb : Γ.2.2.2.2.2.2.2.2.2.1.exceptionTable.toList = tableOf (zMH 218)) (hri : Γ.2.2.2.2.2.2.2.2.1.sig.returnType = zMR 218) {pc idx : Nat} (hd : decode (zMB 218) pc = .ok (.invokevirtual idx, 3)) : zCat1 Γ (zMB 218) pc 0 1 := by
  obtain ⟨p, l, e, R, s, mi, args, below, meth, c, Q, nL, D, cA, X, A, c0, s0, n0, σ0⟩ := Γ
  obtain ⟨hx, hb, hml, hown, hts, -⟩ := C
  intro σ H locs h' hE hag hP hD hS ls lv rest q ce hl hc hv hf
  have hnL : nL = zML 218 := hnL
  refine vx_catch (own := "TollTagsLaw") (name := zXn 0) (E := zXn 0) (ce := ce) hown [] ⟨0, 16, 19, 13⟩ [] htb (fun z hz => by cases hz) (zinvc_ok zci_218_0 hd) (by decide) (hts _ zhl_0) (hts _ zhc_0) hc hv hf ?_
  refine lv_astore_n (i := 3) hx hb zdh_218_0_0 rfl hl (by rw [hnL]; decide +kernel) rfl (fun ls2 _ => ?_)
  refine lv_iconst (v := 1) hx hb zdh_218_0_1 (by decide) ?_
  exact hE σ H locs hag hP hD hS 21 ls2 zdh_218_0_2 (Or.inr hri)
theorem zdh_219_0_0 : decode (zMB 219) 12 = .ok (.astore_n 3, 1) := by decide +kernel
theorem zdh_219_0_1 : decode (zMB 219) 13 = .ok (.iconst 1, 1) := by decide +kernel
theorem zdh_219_0_2 : decode (zMB 219) 14 = .ok (.ireturn, 1) := by decide +kernel
set_option maxRecDepth 20000 in
theorem zci_219_0 : ∀ pc, pc < (zMB 219).size → zinvc (zMB 219) ⟨0, 9, 12, 13⟩ pc = true := by decide +kernel
set_option maxRecDepth 20000 in
theorem zct_219_0 {Γ : ZG} {nm : String} (C : zCtx Γ (zMB 219) (zown (zMO 219)) nm) (hX : zX (gS Γ) (gA Γ) (gX Γ)) (hnL : Γ.2.2.2.2.2.2.2.2.2.2.2.1 = zML 219) (htb : Γ.2.2.2.2.2.2.2.2.2.1.exceptionTable.toList = tableOf (zMH 219)) (hri : Γ.2.2.2.2.2.2.2.2.1.sig.returnType = zMR 219) {pc idx : Nat} (hd : decode (zMB 219) pc = .ok (.invokevirtual idx, 3)) : zCat1 Γ (zMB 219) pc 0 1 := by
  obtain ⟨p, l, e, R, s, mi, args, below, meth, c, Q, nL, D, cA, X, A, c0, s0, n0, σ0⟩ := Γ
  obtain ⟨hx, hb, hml, hown, hts, -⟩ := C
  intro σ H locs h' hE hag hP hD hS ls lv rest q ce hl hc hv hf
  have hnL : nL = zML 219 := hnL
  refine vx_catch (own := "TollTagsLaw") (name := zXn 0) (E := zXn 0) (ce := ce) hown [] ⟨0, 9, 12, 13⟩ [] htb (fun z hz => by cases hz) (zinvc_ok zci_219_0 hd) (by decide) (hts _ zhl_0) (hts _ zhc_0) hc hv hf ?_
  refine lv_astore_n (i := 3) hx hb zdh_219_0_0 rfl hl (by rw [hnL]; decide +kernel) rfl (fun ls2 _ => ?_)
  refine lv_iconst (v := 1) hx hb zdh_219_0_1 (by decide) ?_
  exact hE σ H locs hag hP hD hS 14 ls2 zdh_219_0_2 (Or.inr hri)
theorem zdh_220_0_0 : decode (zMB 220) 22 = .ok (.astore 5, 2) := by decide +kernel
theorem zdh_220_0_1 : decode (zMB 220) 24 = .ok (.iconst 1, 1) := by decide +kernel
theorem zdh_220_0_2 : decode (zMB 220) 25 = .ok (.ireturn, 1) := by decide +kernel
set_option maxRecDepth 20000 in
theorem zci_220_0 : ∀ pc, pc < (zMB 220).size → zinvc (zMB 220) ⟨0, 19, 22, 13⟩ pc = true := by decide +kernel
set_option maxRecDepth 20000 in
theorem zct_220_0 {Γ : ZG} {nm : String} (C : zCtx Γ (zMB 220) (zown (zMO 220)) nm) (hX : zX (gS Γ) (gA Γ) (gX Γ)) (hnL : Γ.2.2.2.2.2.2.2.2.2.2.2.1 = zML 220) (htb : Γ.2.2.2.2.2.2.2.2.2.1.exceptionTable.toList = tableOf (zMH 220)) (hri : Γ.2.2.2.2.2.2.2.2.1.sig.returnType = zMR 220) {pc idx : Nat} (hd : decode (zMB 220) pc = .ok (.invokevirtual idx, 3)) : zCat1 Γ (zMB 220) pc 0 1 := by
  obtain ⟨p, l, e, R, s, mi, args, below, meth, c, Q, nL, D, cA, X, A, c0, s0, n0, σ0⟩ := Γ
  obtain ⟨hx, hb, hml, hown, hts, -⟩ := C
  intro σ H locs h' hE hag hP hD hS ls lv rest q ce hl hc hv hf
  have hnL : nL = zML 220 := hnL
  refine vx_catch (own := "TollTagsLaw") (name := zXn 0) (E := zXn 0) (ce := ce) hown [] ⟨0, 19, 22, 13⟩ [] htb (fun z hz => by cases hz) (zinvc_ok zci_220_0 hd) (by decide) (hts _ zhl_0) (hts _ zhc_0) hc hv hf ?_
  refine lv_astore (i := 5) hx hb zdh_220_0_0 hl (by rw [hnL]; decide +kernel) rfl (fun ls2 _ => ?_)
  refine lv_iconst (v := 1) hx hb zdh_220_0_1 (by decide) ?_
  exact hE σ H locs hag hP hD hS 25 ls2 zdh_220_0_2 (Or.inr hri)
theorem zdh_221_0_0 : decode (zMB 221) 15 = .ok (.astore 5, 2) := by decide +kernel
theorem zdh_221_0_1 : decode (zMB 221) 17 = .ok (.iconst 1, 1) := by decide +kernel
theorem zdh_221_0_2 : decode (zMB 221) 18 = .ok (.ireturn, 1) := by decide +kernel
set_option maxRecDepth 20000 in
theorem zci_221_0 : ∀ pc, pc < (zMB 221).size → zinvc (zMB 221) ⟨0, 12, 15, 13⟩ pc = true := by decide +kernel
set_option maxRecDepth 20000 in
theorem zct_221_0 {Γ : ZG} {nm : String} (C : zCtx Γ (zMB 221) (zown (zMO 221)) nm) (hX : zX (gS Γ) (gA Γ) (gX Γ)) (hnL : Γ.2.2.2.2.2.2.2.2.2.2.2.1 = zML 221) (htb : Γ.2.2.2.2.2.2.2.2.2.1.exceptionTable.toList = tableOf (zMH 221)) (hri : Γ.2.2.2.2.2.2.2.2.1.sig.returnType = zMR 221) {pc idx : Nat} (hd : decode (zMB 221) pc = .ok (.invokevirtual idx, 3)) : zCat1 Γ (zMB 221) pc 0 1 := by
  obtain ⟨p, l, e, R, s, mi, args, below, meth, c, Q, nL, D, cA, X, A, c0, s0, n0, σ0⟩ := Γ
  obtain ⟨hx, hb, hml, hown, hts, -⟩ := C
  intro σ H locs h' hE hag hP hD hS ls lv rest q ce hl hc hv hf
  have hnL : nL = zML 221 := hnL
  refine vx_catch (own := "TollTagsLaw") (name := zXn 0) (E := zXn 0) (ce := ce) hown [] ⟨0, 12, 15, 13⟩ [⟨0, 12, 19, 23⟩] htb (fun z hz => by cases hz) (zinvc_ok zci_221_0 hd) (by decide) (hts _ zhl_0) (hts _ zhc_0) hc hv hf ?_
  refine lv_astore (i := 5) hx hb zdh_221_0_0 hl (by rw [hnL]; decide +kernel) rfl (fun ls2 _ => ?_)
  refine lv_iconst (v := 1) hx hb zdh_221_0_1 (by decide) ?_
  exact hE σ H locs hag hP hD hS 18 ls2 zdh_221_0_2 (Or.inr hri)
theorem zdh_221_1_0 : decode (zMB 221) 19 = .ok (.astore 5, 2) := by decide +kernel
theorem zdh_221_1_1 : decode (zMB 221) 21 = .ok (.iconst 2, 1) := by decide +kernel
theorem zdh_221_1_2 : decode (zMB 221) 22 = .ok (.ireturn, 1) := by decide +kernel
set_option maxRecDepth 20000 in
theorem zci_221_1 : ∀ pc, pc < (zMB 221).size → zinvc (zMB 221) ⟨0, 12, 19, 23⟩ pc = true := by decide +kernel
set_option maxRecDepth 20000 in
theorem zct_221_1 {Γ : ZG} {nm : String} (C : zCtx Γ (zMB 221) (zown (zMO 221)) nm) (hX : zX (gS Γ) (gA Γ) (gX Γ)) (hnL : Γ.2.2.2.2.2.2.2.2.2.2.2.1 = zML 221) (htb : Γ.2.2.2.2.2.2.2.2.2.1.exceptionTable.toList = tableOf (zMH 221)) (hri : Γ.2.2.2.2.2.2.2.2.1.sig.returnType = zMR 221) {pc idx : Nat} (hd : decode (zMB 221) pc = .ok (.invokevirtual idx, 3)) : zCat1 Γ (zMB 221) pc 1 2 := by
  obtain ⟨p, l, e, R, s, mi, args, below, meth, c, Q, nL, D, cA, X, A, c0, s0, n0, σ0⟩ := Γ
  obtain ⟨hx, hb, hml, hown, hts, -⟩ := C
  intro σ H locs h' hE hag hP hD hS ls lv rest q ce hl hc hv hf
  have hnL : nL = zML 221 := hnL
  obtain ⟨adV, -, -, -, -, -, -, hNc, -⟩ := hX
  refine vx_catch (own := "TollTagsLaw") (name := zXn 1) (E := zXn 1) (ce := ce) hown [⟨0, 12, 15, 13⟩] ⟨0, 12, 19, 23⟩ [] htb (fun z hz => by
    rw [List.mem_singleton] at hz
    subst hz
    exact Or.inr ⟨by decide, _, hts _ zhl_0, hNc⟩) (zinvc_ok zci_221_1 hd) (by decide) (hts _ zhl_1) (hts _ zhc_1) hc hv hf ?_
  refine lv_astore (i := 5) hx hb zdh_221_1_0 hl (by rw [hnL]; decide +kernel) rfl (fun ls2 _ => ?_)
  refine lv_iconst (v := 2) hx hb zdh_221_1_1 (by decide) ?_
  exact hE σ H locs hag hP hD hS 22 ls2 zdh_221_1_2 (Or.inr hri)
theorem zdh_222_0_0 : decode (zMB 222) 15 = .ok (.astore 5, 2) := by decide +kernel
theorem zdh_222_0_1 : decode (zMB 222) 17 = .ok (.iconst 1, 1) := by decide +kernel
theorem zdh_222_0_2 : decode (zMB 222) 18 = .ok (.ireturn, 1) := by decide +kernel
set_option maxRecDepth 20000 in
theorem zci_222_0 : ∀ pc, pc < (zMB 222).size → zinvc (zMB 222) ⟨0, 12, 15, 13⟩ pc = true := by decide +kernel
set_option maxRecDepth 20000 in
theorem zct_222_0 {Γ : ZG} {nm : String} (C : zCtx Γ (zMB 222) (zown (zMO 222)) nm) (hX : zX (gS Γ) (gA Γ) (gX Γ)) (hnL : Γ.2.2.2.2.2.2.2.2.2.2.2.1 = zML 222) (htb : Γ.2.2.2.2.2.2.2.2.2.1.exceptionTable.toList = tableOf (zMH 222)) (hri : Γ.2.2.2.2.2.2.2.2.1.sig.returnType = zMR 222) {pc idx : Nat} (hd : decode (zMB 222) pc = .ok (.invokevirtual idx, 3)) : zCat1 Γ (zMB 222) pc 0 1 := by
  obtain ⟨p, l, e, R, s, mi, args, below, meth, c, Q, nL, D, cA, X, A, c0, s0, n0, σ0⟩ := Γ
  obtain ⟨hx, hb, hml, hown, hts, -⟩ := C
  intro σ H locs h' hE hag hP hD hS ls lv rest q ce hl hc hv hf
  have hnL : nL = zML 222 := hnL
  refine vx_catch (own := "TollTagsLaw") (name := zXn 0) (E := zXn 0) (ce := ce) hown [] ⟨0, 12, 15, 13⟩ [] htb (fun z hz => by cases hz) (zinvc_ok zci_222_0 hd) (by decide) (hts _ zhl_0) (hts _ zhc_0) hc hv hf ?_
  refine lv_astore (i := 5) hx hb zdh_222_0_0 hl (by rw [hnL]; decide +kernel) rfl (fun ls2 _ => ?_)
  refine lv_iconst (v := 1) hx hb zdh_222_0_1 (by decide) ?_
  exact hE σ H locs hag hP hD hS 18 ls2 zdh_222_0_2 (Or.inr hri)
theorem zdh_223_0_0 : decode (zMB 223) 22 = .ok (.astore 5, 2) := by decide +kernel
theorem zdh_223_0_1 : decode (zMB 223) 24 = .ok (.iconst 1, 1) := by decide +kernel
theorem zdh_223_0_2 : decode (zMB 223) 25 = .ok (.ireturn, 1) := by decide +kernel
set_option maxRecDepth 20000 in
theorem zci_223_0 : ∀ pc, pc < (zMB 223).size → zinvc (zMB 223) ⟨0, 19, 22, 13⟩ pc = true := by decide +kernel
set_option maxRecDepth 20000 in
theorem zct_223_0 {Γ : ZG} {nm : String} (C : zCtx Γ (zMB 223) (zown (zMO 223)) nm) (hX : zX (gS Γ) (gA Γ) (gX Γ)) (hnL : Γ.2.2.2.2.2.2.2.2.2.2.2.1 = zML 223) (htb : Γ.2.2.2.2.2.2.2.2.2.1.exceptionTable.toList = tableOf (zMH 223)) (hri : Γ.2.2.2.2.2.2.2.2.1.sig.returnType = zMR 223) {pc idx : Nat} (hd : decode (zMB 223) pc = .ok (.invokevirtual idx, 3)) : zCat1 Γ (zMB 223) pc 0 1 := by
  obtain ⟨p, l, e, R, s, mi, args, below, meth, c, Q, nL, D, cA, X, A, c0, s0, n0, σ0⟩ := Γ
  obtain ⟨hx, hb, hml, hown, hts, -⟩ := C
  intro σ H locs h' hE hag hP hD hS ls lv rest q ce hl hc hv hf
  have hnL : nL = zML 223 := hnL
  refine vx_catch (own := "TollTagsLaw") (name := zXn 0) (E := zXn 0) (ce := ce) hown [] ⟨0, 19, 22, 13⟩ [] htb (fun z hz => by cases hz) (zinvc_ok zci_223_0 hd) (by decide) (hts _ zhl_0) (hts _ zhc_0) hc hv hf ?_
  refine lv_astore (i := 5) hx hb zdh_223_0_0 hl (by rw [hnL]; decide +kernel) rfl (fun ls2 _ => ?_)
  refine lv_iconst (v := 1) hx hb zdh_223_0_1 (by decide) ?_
  exact hE σ H locs hag hP hD hS 25 ls2 zdh_223_0_2 (Or.inr hri)
theorem zdh_224_0_0 : decode (zMB 224) 15 = .ok (.astore 5, 2) := by decide +kernel
theorem zdh_224_0_1 : decode (zMB 224) 17 = .ok (.iconst 1, 1) := by decide +kernel
theorem zdh_224_0_2 : decode (zMB 224) 18 = .ok (.ireturn, 1) := by decide +kernel
set_option maxRecDepth 20000 in
theorem zci_224_0 : ∀ pc, pc < (zMB 224).size → zinvc (zMB 224) ⟨0, 12, 15, 13⟩ pc = true := by decide +kernel
set_option maxRecDepth 20000 in
theorem zct_224_0 {Γ : ZG} {nm : String} (C : zCtx Γ (zMB 224) (zown (zMO 224)) nm) (hX : zX (gS Γ) (gA Γ) (gX Γ)) (hnL : Γ.2.2.2.2.2.2.2.2.2.2.2.1 = zML 224) (htb : Γ.2.2.2.2.2.2.2.2.2.1.exceptionTable.toList = tableOf (zMH 224)) (hri : Γ.2.2.2.2.2.2.2.2.1.sig.returnType = zMR 224) {pc idx : Nat} (hd : decode (zMB 224) pc = .ok (.invokevirtual idx, 3)) : zCat1 Γ (zMB 224) pc 0 1 := by
  obtain ⟨p, l, e, R, s, mi, args, below, meth, c, Q, nL, D, cA, X, A, c0, s0, n0, σ0⟩ := Γ
  obtain ⟨hx, hb, hml, hown, hts, -⟩ := C
  intro σ H locs h' hE hag hP hD hS ls lv rest q ce hl hc hv hf
  have hnL : nL = zML 224 := hnL
  refine vx_catch (own := "TollTagsLaw") (name := zXn 0) (E := zXn 0) (ce := ce) hown [] ⟨0, 12, 15, 13⟩ [⟨0, 12, 19, 23⟩] htb (fun z hz => by cases hz) (zinvc_ok zci_224_0 hd) (by decide) (hts _ zhl_0) (hts _ zhc_0) hc hv hf ?_
  refine lv_astore (i := 5) hx hb zdh_224_0_0 hl (by rw [hnL]; decide +kernel) rfl (fun ls2 _ => ?_)
  refine lv_iconst (v := 1) hx hb zdh_224_0_1 (by decide) ?_
  exact hE σ H locs hag hP hD hS 18 ls2 zdh_224_0_2 (Or.inr hri)
theorem zdh_224_1_0 : decode (zMB 224) 19 = .ok (.astore 5, 2) := by decide +kernel
theorem zdh_224_1_1 : decode (zMB 224) 21 = .ok (.iconst 2, 1) := by decide +kernel
theorem zdh_224_1_2 : decode (zMB 224) 22 = .ok (.ireturn, 1) := by decide +kernel
set_option maxRecDepth 20000 in
theorem zci_224_1 : ∀ pc, pc < (zMB 224).size → zinvc (zMB 224) ⟨0, 12, 19, 23⟩ pc = true := by decide +kernel
set_option maxRecDepth 20000 in
theorem zct_224_1 {Γ : ZG} {nm : String} (C : zCtx Γ (zMB 224) (zown (zMO 224)) nm) (hX : zX (gS Γ) (gA Γ) (gX Γ)) (hnL : Γ.2.2.2.2.2.2.2.2.2.2.2.1 = zML 224) (htb : Γ.2.2.2.2.2.2.2.2.2.1.exceptionTable.toList = tableOf (zMH 224)) (hri : Γ.2.2.2.2.2.2.2.2.1.sig.returnType = zMR 224) {pc idx : Nat} (hd : decode (zMB 224) pc = .ok (.invokevirtual idx, 3)) : zCat1 Γ (zMB 224) pc 1 2 := by
  obtain ⟨p, l, e, R, s, mi, args, below, meth, c, Q, nL, D, cA, X, A, c0, s0, n0, σ0⟩ := Γ
  obtain ⟨hx, hb, hml, hown, hts, -⟩ := C
  intro σ H locs h' hE hag hP hD hS ls lv rest q ce hl hc hv hf
  have hnL : nL = zML 224 := hnL
  obtain ⟨adV, -, -, -, -, -, -, hNc, -⟩ := hX
  refine vx_catch (own := "TollTagsLaw") (name := zXn 1) (E := zXn 1) (ce := ce) hown [⟨0, 12, 15, 13⟩] ⟨0, 12, 19, 23⟩ [] htb (fun z hz => by
    rw [List.mem_singleton] at hz
    subst hz
    exact Or.inr ⟨by decide, _, hts _ zhl_0, hNc⟩) (zinvc_ok zci_224_1 hd) (by decide) (hts _ zhl_1) (hts _ zhc_1) hc hv hf ?_
  refine lv_astore (i := 5) hx hb zdh_224_1_0 hl (by rw [hnL]; decide +kernel) rfl (fun ls2 _ => ?_)
  refine lv_iconst (v := 2) hx hb zdh_224_1_1 (by decide) ?_
  exact hE σ H locs hag hP hD hS 22 ls2 zdh_224_1_2 (Or.inr hri)
theorem zdh_225_0_0 : decode (zMB 225) 17 = .ok (.astore 6, 2) := by decide +kernel
theorem zdh_225_0_1 : decode (zMB 225) 19 = .ok (.iconst 1, 1) := by decide +kernel
theorem zdh_225_0_2 : decode (zMB 225) 20 = .ok (.ireturn, 1) := by decide +kernel
set_option maxRecDepth 20000 in
theorem zci_225_0 : ∀ pc, pc < (zMB 225).size → zinvc (zMB 225) ⟨0, 14, 17, 13⟩ pc = true := by decide +kernel
set_option maxRecDepth 20000 in
theorem zct_225_0 {Γ : ZG} {nm : String} (C : zCtx Γ (zMB 225) (zown (zMO 225)) nm) (hX : zX (gS Γ) (gA Γ) (gX Γ)) (hnL : Γ.2.2.2.2.2.2.2.2.2.2.2.1 = zML 225) (htb : Γ.2.2.2.2.2.2.2.2.2.1.exceptionTable.toList = tableOf (zMH 225)) (hri : Γ.2.2.2.2.2.2.2.2.1.sig.returnType = zMR 225) {pc idx : Nat} (hd : decode (zMB 225) pc = .ok (.invokevirtual idx, 3)) : zCat1 Γ (zMB 225) pc 0 1 := by
  obtain ⟨p, l, e, R, s, mi, args, below, meth, c, Q, nL, D, cA, X, A, c0, s0, n0, σ0⟩ := Γ
  obtain ⟨hx, hb, hml, hown, hts, -⟩ := C
  intro σ H locs h' hE hag hP hD hS ls lv rest q ce hl hc hv hf
  have hnL : nL = zML 225 := hnL
  refine vx_catch (own := "TollTagsLaw") (name := zXn 0) (E := zXn 0) (ce := ce) hown [] ⟨0, 14, 17, 13⟩ [⟨0, 14, 21, 23⟩] htb (fun z hz => by cases hz) (zinvc_ok zci_225_0 hd) (by decide) (hts _ zhl_0) (hts _ zhc_0) hc hv hf ?_
  refine lv_astore (i := 6) hx hb zdh_225_0_0 hl (by rw [hnL]; decide +kernel) rfl (fun ls2 _ => ?_)
  refine lv_iconst (v := 1) hx hb zdh_225_0_1 (by decide) ?_
  exact hE σ H locs hag hP hD hS 20 ls2 zdh_225_0_2 (Or.inr hri)
theorem zdh_225_1_0 : decode (zMB 225) 21 = .ok (.astore 6, 2) := by decide +kernel
theorem zdh_225_1_1 : decode (zMB 225) 23 = .ok (.iconst 2, 1) := by decide +kernel
theorem zdh_225_1_2 : decode (zMB 225) 24 = .ok (.ireturn, 1) := by decide +kernel
set_option maxRecDepth 20000 in
theorem zci_225_1 : ∀ pc, pc < (zMB 225).size → zinvc (zMB 225) ⟨0, 14, 21, 23⟩ pc = true := by decide +kernel
set_option maxRecDepth 20000 in
theorem zct_225_1 {Γ : ZG} {nm : String} (C : zCtx Γ (zMB 225) (zown (zMO 225)) nm) (hX : zX (gS Γ) (gA Γ) (gX Γ)) (hnL : Γ.2.2.2.2.2.2.2.2.2.2.2.1 = zML 225) (htb : Γ.2.2.2.2.2.2.2.2.2.1.exceptionTable.toList = tableOf (zMH 225)) (hri : Γ.2.2.2.2.2.2.2.2.1.sig.returnType = zMR 225) {pc idx : Nat} (hd : decode (zMB 225) pc = .ok (.invokevirtual idx, 3)) : zCat1 Γ (zMB 225) pc 1 2 := by
  obtain ⟨p, l, e, R, s, mi, args, below, meth, c, Q, nL, D, cA, X, A, c0, s0, n0, σ0⟩ := Γ
  obtain ⟨hx, hb, hml, hown, hts, -⟩ := C
  intro σ H locs h' hE hag hP hD hS ls lv rest q ce hl hc hv hf
  have hnL : nL = zML 225 := hnL
  obtain ⟨adV, -, -, -, -, -, -, hNc, -⟩ := hX
  refine vx_catch (own := "TollTagsLaw") (name := zXn 1) (E := zXn 1) (ce := ce) hown [⟨0, 14, 17, 13⟩] ⟨0, 14, 21, 23⟩ [] htb (fun z hz => by
    rw [List.mem_singleton] at hz
    subst hz
    exact Or.inr ⟨by decide, _, hts _ zhl_0, hNc⟩) (zinvc_ok zci_225_1 hd) (by decide) (hts _ zhl_1) (hts _ zhc_1) hc hv hf ?_
  refine lv_astore (i := 6) hx hb zdh_225_1_0 hl (by rw [hnL]; decide +kernel) rfl (fun ls2 _ => ?_)
  refine lv_iconst (v := 2) hx hb zdh_225_1_1 (by decide) ?_
  exact hE σ H locs hag hP hD hS 24 ls2 zdh_225_1_2 (Or.inr hri)
theorem zdh_226_0_0 : decode (zMB 226) 16 = .ok (.astore 6, 2) := by decide +kernel
theorem zdh_226_0_1 : decode (zMB 226) 18 = .ok (.iconst 1, 1) := by decide +kernel
theorem zdh_226_0_2 : decode (zMB 226) 19 = .ok (.ireturn, 1) := by decide +kernel
set_option maxRecDepth 20000 in
theorem zci_226_0 : ∀ pc, pc < (zMB 226).size → zinvc (zMB 226) ⟨0, 13, 16, 13⟩ pc = true := by decide +kernel
set_option maxRecDepth 20000 in
theorem zct_226_0 {Γ : ZG} {nm : String} (C : zCtx Γ (zMB 226) (zown (zMO 226)) nm) (hX : zX (gS Γ) (gA Γ) (gX Γ)) (hnL : Γ.2.2.2.2.2.2.2.2.2.2.2.1 = zML 226) (htb : Γ.2.2.2.2.2.2.2.2.2.1.exceptionTable.toList = tableOf (zMH 226)) (hri : Γ.2.2.2.2.2.2.2.2.1.sig.returnType = zMR 226) {pc idx : Nat} (hd : decode (zMB 226) pc = .ok (.invokevirtual idx, 3)) : zCat1 Γ (zMB 226) pc 0 1 := by
  obtain ⟨p, l, e, R, s, mi, args, below, meth, c, Q, nL, D, cA, X, A, c0, s0, n0, σ0⟩ := Γ
  obtain ⟨hx, hb, hml, hown, hts, -⟩ := C
  intro σ H locs h' hE hag hP hD hS ls lv rest q ce hl hc hv hf
  have hnL : nL = zML 226 := hnL
  refine vx_catch (own := "TollTagsLaw") (name := zXn 0) (E := zXn 0) (ce := ce) hown [] ⟨0, 13, 16, 13⟩ [⟨0, 13, 20, 23⟩] htb (fun z hz => by cases hz) (zinvc_ok zci_226_0 hd) (by decide) (hts _ zhl_0) (hts _ zhc_0) hc hv hf ?_
  refine lv_astore (i := 6) hx hb zdh_226_0_0 hl (by rw [hnL]; decide +kernel) rfl (fun ls2 _ => ?_)
  refine lv_iconst (v := 1) hx hb zdh_226_0_1 (by decide) ?_
  exact hE σ H locs hag hP hD hS 19 ls2 zdh_226_0_2 (Or.inr hri)
theorem zdh_226_1_0 : decode (zMB 226) 20 = .ok (.astore 6, 2) := by decide +kernel
theorem zdh_226_1_1 : decode (zMB 226) 22 = .ok (.iconst 2, 1) := by decide +kernel
theorem zdh_226_1_2 : decode (zMB 226) 23 = .ok (.ireturn, 1) := by decide +kernel
set_option maxRecDepth 20000 in
theorem zci_226_1 : ∀ pc, pc < (zMB 226).size → zinvc (zMB 226) ⟨0, 13, 20, 23⟩ pc = true := by decide +kernel
set_option maxRecDepth 20000 in
theorem zct_226_1 {Γ : ZG} {nm : String} (C : zCtx Γ (zMB 226) (zown (zMO 226)) nm) (hX : zX (gS Γ) (gA Γ) (gX Γ)) (hnL : Γ.2.2.2.2.2.2.2.2.2.2.2.1 = zML 226) (htb : Γ.2.2.2.2.2.2.2.2.2.1.exceptionTable.toList = tableOf (zMH 226)) (hri : Γ.2.2.2.2.2.2.2.2.1.sig.returnType = zMR 226) {pc idx : Nat} (hd : decode (zMB 226) pc = .ok (.invokevirtual idx, 3)) : zCat1 Γ (zMB 226) pc 1 2 := by
  obtain ⟨p, l, e, R, s, mi, args, below, meth, c, Q, nL, D, cA, X, A, c0, s0, n0, σ0⟩ := Γ
  obtain ⟨hx, hb, hml, hown, hts, -⟩ := C
  intro σ H locs h' hE hag hP hD hS ls lv rest q ce hl hc hv hf
  have hnL : nL = zML 226 := hnL
  obtain ⟨adV, -, -, -, -, -, -, hNc, -⟩ := hX
  refine vx_catch (own := "TollTagsLaw") (name := zXn 1) (E := zXn 1) (ce := ce) hown [⟨0, 13, 16, 13⟩] ⟨0, 13, 20, 23⟩ [] htb (fun z hz => by
    rw [List.mem_singleton] at hz
    subst hz
    exact Or.inr ⟨by decide, _, hts _ zhl_0, hNc⟩) (zinvc_ok zci_226_1 hd) (by decide) (hts _ zhl_1) (hts _ zhc_1) hc hv hf ?_
  refine lv_astore (i := 6) hx hb zdh_226_1_0 hl (by rw [hnL]; decide +kernel) rfl (fun ls2 _ => ?_)
  refine lv_iconst (v := 2) hx hb zdh_226_1_1 (by decide) ?_
  exact hE σ H locs hag hP hD hS 23 ls2 zdh_226_1_2 (Or.inr hri)
theorem zdh_227_0_0 : decode (zMB 227) 15 = .ok (.astore 5, 2) := by decide +kernel
theorem zdh_227_0_1 : decode (zMB 227) 17 = .ok (.iconst 1, 1) := by decide +kernel
theorem zdh_227_0_2 : decode (zMB 227) 18 = .ok (.ireturn, 1) := by decide +kernel
set_option maxRecDepth 20000 in
theorem zci_227_0 : ∀ pc, pc < (zMB 227).size → zinvc (zMB 227) ⟨0, 12, 15, 13⟩ pc = true := by decide +kernel
set_option maxRecDepth 20000 in
theorem zct_227_0 {Γ : ZG} {nm : String} (C : zCtx Γ (zMB 227) (zown (zMO 227)) nm) (hX : zX (gS Γ) (gA Γ) (gX Γ)) (hnL : Γ.2.2.2.2.2.2.2.2.2.2.2.1 = zML 227) (htb : Γ.2.2.2.2.2.2.2.2.2.1.exceptionTable.toList = tableOf (zMH 227)) (hri : Γ.2.2.2.2.2.2.2.2.1.sig.returnType = zMR 227) {pc idx : Nat} (hd : decode (zMB 227) pc = .ok (.invokevirtual idx, 3)) : zCat1 Γ (zMB 227) pc 0 1 := by
  obtain ⟨p, l, e, R, s, mi, args, below, meth, c, Q, nL, D, cA, X, A, c0, s0, n0, σ0⟩ := Γ
  obtain ⟨hx, hb, hml, hown, hts, -⟩ := C
  intro σ H locs h' hE hag hP hD hS ls lv rest q ce hl hc hv hf
  have hnL : nL = zML 227 := hnL
  refine vx_catch (own := "TollTagsLaw") (name := zXn 0) (E := zXn 0) (ce := ce) hown [] ⟨0, 12, 15, 13⟩ [⟨0, 12, 19, 23⟩] htb (fun z hz => by cases hz) (zinvc_ok zci_227_0 hd) (by decide) (hts _ zhl_0) (hts _ zhc_0) hc hv hf ?_
  refine lv_astore (i := 5) hx hb zdh_227_0_0 hl (by rw [hnL]; decide +kernel) rfl (fun ls2 _ => ?_)
  refine lv_iconst (v := 1) hx hb zdh_227_0_1 (by decide) ?_
  exact hE σ H locs hag hP hD hS 18 ls2 zdh_227_0_2 (Or.inr hri)
theorem zdh_227_1_0 : decode (zMB 227) 19 = .ok (.astore 5, 2) := by decide +kernel
theorem zdh_227_1_1 : decode (zMB 227) 21 = .ok (.iconst 2, 1) := by decide +kernel
theorem zdh_227_1_2 : decode (zMB 227) 22 = .ok (.ireturn, 1) := by decide +kernel
set_option maxRecDepth 20000 in
theorem zci_227_1 : ∀ pc, pc < (zMB 227).size → zinvc (zMB 227) ⟨0, 12, 19, 23⟩ pc = true := by decide +kernel
set_option maxRecDepth 20000 in
theorem zct_227_1 {Γ : ZG} {nm : String} (C : zCtx Γ (zMB 227) (zown (zMO 227)) nm) (hX : zX (gS Γ) (gA Γ) (gX Γ)) (hnL : Γ.2.2.2.2.2.2.2.2.2.2.2.1 = zML 227) (htb : Γ.2.2.2.2.2.2.2.2.2.1.exceptionTable.toList = tableOf (zMH 227)) (hri : Γ.2.2.2.2.2.2.2.2.1.sig.returnType = zMR 227) {pc idx : Nat} (hd : decode (zMB 227) pc = .ok (.invokevirtual idx, 3)) : zCat1 Γ (zMB 227) pc 1 2 := by
  obtain ⟨p, l, e, R, s, mi, args, below, meth, c, Q, nL, D, cA, X, A, c0, s0, n0, σ0⟩ := Γ
  obtain ⟨hx, hb, hml, hown, hts, -⟩ := C
  intro σ H locs h' hE hag hP hD hS ls lv rest q ce hl hc hv hf
  have hnL : nL = zML 227 := hnL
  obtain ⟨adV, -, -, -, -, -, -, hNc, -⟩ := hX
  refine vx_catch (own := "TollTagsLaw") (name := zXn 1) (E := zXn 1) (ce := ce) hown [⟨0, 12, 15, 13⟩] ⟨0, 12, 19, 23⟩ [] htb (fun z hz => by
    rw [List.mem_singleton] at hz
    subst hz
    exact Or.inr ⟨by decide, _, hts _ zhl_0, hNc⟩) (zinvc_ok zci_227_1 hd) (by decide) (hts _ zhl_1) (hts _ zhc_1) hc hv hf ?_
  refine lv_astore (i := 5) hx hb zdh_227_1_0 hl (by rw [hnL]; decide +kernel) rfl (fun ls2 _ => ?_)
  refine lv_iconst (v := 2) hx hb zdh_227_1_1 (by decide) ?_
  exact hE σ H locs hag hP hD hS 22 ls2 zdh_227_1_2 (Or.inr hri)
theorem zdh_228_0_0 : decode (zMB 228) 14 = .ok (.astore 5, 2) := by decide +kernel
theorem zdh_228_0_1 : decode (zMB 228) 16 = .ok (.iconst 1, 1) := by decide +kernel
theorem zdh_228_0_2 : decode (zMB 228) 17 = .ok (.ireturn, 1) := by decide +kernel
set_option maxRecDepth 20000 in
theorem zci_228_0 : ∀ pc, pc < (zMB 228).size → zinvc (zMB 228) ⟨0, 11, 14, 13⟩ pc = true := by decide +kernel
set_option maxRecDepth 20000 in
theorem zct_228_0 {Γ : ZG} {nm : String} (C : zCtx Γ (zMB 228) (zown (zMO 228)) nm) (hX : zX (gS Γ) (gA Γ) (gX Γ)) (hnL : Γ.2.2.2.2.2.2.2.2.2.2.2.1 = zML 228) (htb : Γ.2.2.2.2.2.2.2.2.2.1.exceptionTable.toList = tableOf (zMH 228)) (hri : Γ.2.2.2.2.2.2.2.2.1.sig.returnType = zMR 228) {pc idx : Nat} (hd : decode (zMB 228) pc = .ok (.invokevirtual idx, 3)) : zCat1 Γ (zMB 228) pc 0 1 := by
  obtain ⟨p, l, e, R, s, mi, args, below, meth, c, Q, nL, D, cA, X, A, c0, s0, n0, σ0⟩ := Γ
  obtain ⟨hx, hb, hml, hown, hts, -⟩ := C
  intro σ H locs h' hE hag hP hD hS ls lv rest q ce hl hc hv hf
  have hnL : nL = zML 228 := hnL
  refine vx_catch (own := "TollTagsLaw") (name := zXn 0) (E := zXn 0) (ce := ce) hown [] ⟨0, 11, 14, 13⟩ [⟨0, 11, 18, 23⟩] htb (fun z hz => by cases hz) (zinvc_ok zci_228_0 hd) (by decide) (hts _ zhl_0) (hts _ zhc_0) hc hv hf ?_
  refine lv_astore (i := 5) hx hb zdh_228_0_0 hl (by rw [hnL]; decide +kernel) rfl (fun ls2 _ => ?_)
  refine lv_iconst (v := 1) hx hb zdh_228_0_1 (by decide) ?_
  exact hE σ H locs hag hP hD hS 17 ls2 zdh_228_0_2 (Or.inr hri)
theorem zdh_228_1_0 : decode (zMB 228) 18 = .ok (.astore 5, 2) := by decide +kernel
theorem zdh_228_1_1 : decode (zMB 228) 20 = .ok (.iconst 2, 1) := by decide +kernel
theorem zdh_228_1_2 : decode (zMB 228) 21 = .ok (.ireturn, 1) := by decide +kernel
set_option maxRecDepth 20000 in
theorem zci_228_1 : ∀ pc, pc < (zMB 228).size → zinvc (zMB 228) ⟨0, 11, 18, 23⟩ pc = true := by decide +kernel
set_option maxRecDepth 20000 in
theorem zct_228_1 {Γ : ZG} {nm : String} (C : zCtx Γ (zMB 228) (zown (zMO 228)) nm) (hX : zX (gS Γ) (gA Γ) (gX Γ)) (hnL : Γ.2.2.2.2.2.2.2.2.2.2.2.1 = zML 228) (htb : Γ.2.2.2.2.2.2.2.2.2.1.exceptionTable.toList = tableOf (zMH 228)) (hri : Γ.2.2.2.2.2.2.2.2.1.sig.returnType = zMR 228) {pc idx : Nat} (hd : decode (zMB 228) pc = .ok (.invokevirtual idx, 3)) : zCat1 Γ (zMB 228) pc 1 2 := by
  obtain ⟨p, l, e, R, s, mi, args, below, meth, c, Q, nL, D, cA, X, A, c0, s0, n0, σ0⟩ := Γ
  obtain ⟨hx, hb, hml, hown, hts, -⟩ := C
  intro σ H locs h' hE hag hP hD hS ls lv rest q ce hl hc hv hf
  have hnL : nL = zML 228 := hnL
  obtain ⟨adV, -, -, -, -, -, -, hNc, -⟩ := hX
  refine vx_catch (own := "TollTagsLaw") (name := zXn 1) (E := zXn 1) (ce := ce) hown [⟨0, 11, 14, 13⟩] ⟨0, 11, 18, 23⟩ [] htb (fun z hz => by
    rw [List.mem_singleton] at hz
    subst hz
    exact Or.inr ⟨by decide, _, hts _ zhl_0, hNc⟩) (zinvc_ok zci_228_1 hd) (by decide) (hts _ zhl_1) (hts _ zhc_1) hc hv hf ?_
  refine lv_astore (i := 5) hx hb zdh_228_1_0 hl (by rw [hnL]; decide +kernel) rfl (fun ls2 _ => ?_)
  refine lv_iconst (v := 2) hx hb zdh_228_1_1 (by decide) ?_
  exact hE σ H locs hag hP hD hS 21 ls2 zdh_228_1_2 (Or.inr hri)
theorem zdh_229_0_0 : decode (zMB 229) 16 = .ok (.astore 6, 2) := by decide +kernel
theorem zdh_229_0_1 : decode (zMB 229) 18 = .ok (.iconst 1, 1) := by decide +kernel
theorem zdh_229_0_2 : decode (zMB 229) 19 = .ok (.ireturn, 1) := by decide +kernel
set_option maxRecDepth 20000 in
theorem zci_229_0 : ∀ pc, pc < (zMB 229).size → zinvc (zMB 229) ⟨0, 13, 16, 13⟩ pc = true := by decide +kernel
set_option maxRecDepth 20000 in
theorem zct_229_0 {Γ : ZG} {nm : String} (C : zCtx Γ (zMB 229) (zown (zMO 229)) nm) (hX : zX (gS Γ) (gA Γ) (gX Γ)) (hnL : Γ.2.2.2.2.2.2.2.2.2.2.2.1 = zML 229) (htb : Γ.2.2.2.2.2.2.2.2.2.1.exceptionTable.toList = tableOf (zMH 229)) (hri : Γ.2.2.2.2.2.2.2.2.1.sig.returnType = zMR 229) {pc idx : Nat} (hd : decode (zMB 229) pc = .ok (.invokevirtual idx, 3)) : zCat1 Γ (zMB 229) pc 0 1 := by
  obtain ⟨p, l, e, R, s, mi, args, below, meth, c, Q, nL, D, cA, X, A, c0, s0, n0, σ0⟩ := Γ
  obtain ⟨hx, hb, hml, hown, hts, -⟩ := C
  intro σ H locs h' hE hag hP hD hS ls lv rest q ce hl hc hv hf
  have hnL : nL = zML 229 := hnL
  refine vx_catch (own := "TollTagsLaw") (name := zXn 0) (E := zXn 0) (ce := ce) hown [] ⟨0, 13, 16, 13⟩ [] htb (fun z hz => by cases hz) (zinvc_ok zci_229_0 hd) (by decide) (hts _ zhl_0) (hts _ zhc_0) hc hv hf ?_
  refine lv_astore (i := 6) hx hb zdh_229_0_0 hl (by rw [hnL]; decide +kernel) rfl (fun ls2 _ => ?_)
  refine lv_iconst (v := 1) hx hb zdh_229_0_1 (by decide) ?_
  exact hE σ H locs hag hP hD hS 19 ls2 zdh_229_0_2 (Or.inr hri)
theorem zdh_230_1_0 : decode (zMB 230) 12 = .ok (.astore_n 3, 1) := by decide +kernel
theorem zdh_230_1_1 : decode (zMB 230) 13 = .ok (.iconst 1, 1) := by decide +kernel
theorem zdh_230_1_2 : decode (zMB 230) 14 = .ok (.ireturn, 1) := by decide +kernel
set_option maxRecDepth 20000 in
theorem zci_230_1 : ∀ pc, pc < (zMB 230).size → zinvc (zMB 230) ⟨0, 9, 12, 23⟩ pc = true := by decide +kernel
set_option maxRecDepth 20000 in
theorem zct_230_1 {Γ : ZG} {nm : String} (C : zCtx Γ (zMB 230) (zown (zMO 230)) nm) (hX : zX (gS Γ) (gA Γ) (gX Γ)) (hnL : Γ.2.2.2.2.2.2.2.2.2.2.2.1 = zML 230) (htb : Γ.2.2.2.2.2.2.2.2.2.1.exceptionTable.toList = tableOf (zMH 230)) (hri : Γ.2.2.2.2.2.2.2.2.1.sig.returnType = zMR 230) {pc idx : Nat} (hd : decode (zMB 230) pc = .ok (.invokevirtual idx, 3)) : zCat1 Γ (zMB 230) pc 1 1 := by
  obtain ⟨p, l, e, R, s, mi, args, below, meth, c, Q, nL, D, cA, X, A, c0, s0, n0, σ0⟩ := Γ
  obtain ⟨hx, hb, hml, hown, hts, -⟩ := C
  intro σ H locs h' hE hag hP hD hS ls lv rest q ce hl hc hv hf
  have hnL : nL = zML 230 := hnL
  refine vx_catch (own := "TollTagsLaw") (name := zXn 1) (E := zXn 1) (ce := ce) hown [] ⟨0, 9, 12, 23⟩ [] htb (fun z hz => by cases hz) (zinvc_ok zci_230_1 hd) (by decide) (hts _ zhl_1) (hts _ zhc_1) hc hv hf ?_
  refine lv_astore_n (i := 3) hx hb zdh_230_1_0 rfl hl (by rw [hnL]; decide +kernel) rfl (fun ls2 _ => ?_)
  refine lv_iconst (v := 1) hx hb zdh_230_1_1 (by decide) ?_
  exact hE σ H locs hag hP hD hS 14 ls2 zdh_230_1_2 (Or.inr hri)
theorem zdh_231_0_0 : decode (zMB 231) 15 = .ok (.astore 5, 2) := by decide +kernel
theorem zdh_231_0_1 : decode (zMB 231) 17 = .ok (.iconst 1, 1) := by decide +kernel
theorem zdh_231_0_2 : decode (zMB 231) 18 = .ok (.ireturn, 1) := by decide +kernel
set_option maxRecDepth 20000 in
theorem zci_231_0 : ∀ pc, pc < (zMB 231).size → zinvc (zMB 231) ⟨0, 12, 15, 13⟩ pc = true := by decide +kernel
set_option maxRecDepth 20000 in
theorem zct_231_0 {Γ : ZG} {nm : String} (C : zCtx Γ (zMB 231) (zown (zMO 231)) nm) (hX : zX (gS Γ) (gA Γ) (gX Γ)) (hnL : Γ.2.2.2.2.2.2.2.2.2.2.2.1 = zML 231) (htb : Γ.2.2.2.2.2.2.2.2.2.1.exceptionTable.toList = tableOf (zMH 231)) (hri : Γ.2.2.2.2.2.2.2.2.1.sig.returnType = zMR 231) {pc idx : Nat} (hd : decode (zMB 231) pc = .ok (.invokevirtual idx, 3)) : zCat1 Γ (zMB 231) pc 0 1 := by
  obtain ⟨p, l, e, R, s, mi, args, below, meth, c, Q, nL, D, cA, X, A, c0, s0, n0, σ0⟩ := Γ
  obtain ⟨hx, hb, hml, hown, hts, -⟩ := C
  intro σ H locs h' hE hag hP hD hS ls lv rest q ce hl hc hv hf
  have hnL : nL = zML 231 := hnL
  refine vx_catch (own := "TollTagsLaw") (name := zXn 0) (E := zXn 0) (ce := ce) hown [] ⟨0, 12, 15, 13⟩ [⟨0, 12, 19, 23⟩] htb (fun z hz => by cases hz) (zinvc_ok zci_231_0 hd) (by decide) (hts _ zhl_0) (hts _ zhc_0) hc hv hf ?_
  refine lv_astore (i := 5) hx hb zdh_231_0_0 hl (by rw [hnL]; decide +kernel) rfl (fun ls2 _ => ?_)
  refine lv_iconst (v := 1) hx hb zdh_231_0_1 (by decide) ?_
  exact hE σ H locs hag hP hD hS 18 ls2 zdh_231_0_2 (Or.inr hri)
theorem zdh_231_1_0 : decode (zMB 231) 19 = .ok (.astore 5, 2) := by decide +kernel
theorem zdh_231_1_1 : decode (zMB 231) 21 = .ok (.iconst 2, 1) := by decide +kernel
theorem zdh_231_1_2 : decode (zMB 231) 22 = .ok (.ireturn, 1) := by decide +kernel
set_option maxRecDepth 20000 in
theorem zci_231_1 : ∀ pc, pc < (zMB 231).size → zinvc (zMB 231) ⟨0, 12, 19, 23⟩ pc = true := by decide +kernel
set_option maxRecDepth 20000 in
theorem zct_231_1 {Γ : ZG} {nm : String} (C : zCtx Γ (zMB 231) (zown (zMO 231)) nm) (hX : zX (gS Γ) (gA Γ) (gX Γ)) (hnL : Γ.2.2.2.2.2.2.2.2.2.2.2.1 = zML 231) (htb : Γ.2.2.2.2.2.2.2.2.2.1.exceptionTable.toList = tableOf (zMH 231)) (hri : Γ.2.2.2.2.2.2.2.2.1.sig.returnType = zMR 231) {pc idx : Nat} (hd : decode (zMB 231) pc = .ok (.invokevirtual idx, 3)) : zCat1 Γ (zMB 231) pc 1 2 := by
  obtain ⟨p, l, e, R, s, mi, args, below, meth, c, Q, nL, D, cA, X, A, c0, s0, n0, σ0⟩ := Γ
  obtain ⟨hx, hb, hml, hown, hts, -⟩ := C
  intro σ H locs h' hE hag hP hD hS ls lv rest q ce hl hc hv hf
  have hnL : nL = zML 231 := hnL
  obtain ⟨adV, -, -, -, -, -, -, hNc, -⟩ := hX
  refine vx_catch (own := "TollTagsLaw") (name := zXn 1) (E := zXn 1) (ce := ce) hown [⟨0, 12, 15, 13⟩] ⟨0, 12, 19, 23⟩ [] htb (fun z hz => by
    rw [List.mem_singleton] at hz
    subst hz
    exact Or.inr ⟨by decide, _, hts _ zhl_0, hNc⟩) (zinvc_ok zci_231_1 hd) (by decide) (hts _ zhl_1) (hts _ zhc_1) hc hv hf ?_
  refine lv_astore (i := 5) hx hb zdh_231_1_0 hl (by rw [hnL]; decide +kernel) rfl (fun ls2 _ => ?_)
  refine lv_iconst (v := 2) hx hb zdh_231_1_1 (by decide) ?_
  exact hE σ H locs hag hP hD hS 22 ls2 zdh_231_1_2 (Or.inr hri)
theorem zdh_232_0_0 : decode (zMB 232) 12 = .ok (.astore_n 3, 1) := by decide +kernel
theorem zdh_232_0_1 : decode (zMB 232) 13 = .ok (.iconst 1, 1) := by decide +kernel
theorem zdh_232_0_2 : decode (zMB 232) 14 = .ok (.ireturn, 1) := by decide +kernel
set_option maxRecDepth 20000 in
theorem zci_232_0 : ∀ pc, pc < (zMB 232).size → zinvc (zMB 232) ⟨0, 9, 12, 13⟩ pc = true := by decide +kernel
set_option maxRecDepth 20000 in
theorem zct_232_0 {Γ : ZG} {nm : String} (C : zCtx Γ (zMB 232) (zown (zMO 232)) nm) (hX : zX (gS Γ) (gA Γ) (gX Γ)) (hnL : Γ.2.2.2.2.2.2.2.2.2.2.2.1 = zML 232) (htb : Γ.2.2.2.2.2.2.2.2.2.1.exceptionTable.toList = tableOf (zMH 232)) (hri : Γ.2.2.2.2.2.2.2.2.1.sig.returnType = zMR 232) {pc idx : Nat} (hd : decode (zMB 232) pc = .ok (.invokevirtual idx, 3)) : zCat1 Γ (zMB 232) pc 0 1 := by
  obtain ⟨p, l, e, R, s, mi, args, below, meth, c, Q, nL, D, cA, X, A, c0, s0, n0, σ0⟩ := Γ
  obtain ⟨hx, hb, hml, hown, hts, -⟩ := C
  intro σ H locs h' hE hag hP hD hS ls lv rest q ce hl hc hv hf
  have hnL : nL = zML 232 := hnL
  refine vx_catch (own := "TollTagsLaw") (name := zXn 0) (E := zXn 0) (ce := ce) hown [] ⟨0, 9, 12, 13⟩ [] htb (fun z hz => by cases hz) (zinvc_ok zci_232_0 hd) (by decide) (hts _ zhl_0) (hts _ zhc_0) hc hv hf ?_
  refine lv_astore_n (i := 3) hx hb zdh_232_0_0 rfl hl (by rw [hnL]; decide +kernel) rfl (fun ls2 _ => ?_)
  refine lv_iconst (v := 1) hx hb zdh_232_0_1 (by decide) ?_
  exact hE σ H locs hag hP hD hS 14 ls2 zdh_232_0_2 (Or.inr hri)
theorem zcd_all : ∀ m, m < 239 → zCode m ∧ zbp m 0 = 0 := by
  intro m hm
  match m, hm with
  | 0, _ => exact zcd_0
  | 1, _ => exact zcd_1
  | 2, _ => exact zcd_2
  | 3, _ => exact zcd_3
  | 4, _ => exact zcd_4
  | 5, _ => exact zcd_5
  | 6, _ => exact zcd_6
  | 7, _ => exact zcd_7
  | 8, _ => exact zcd_8
  | 9, _ => exact zcd_9
  | 10, _ => exact zcd_10
  | 11, _ => exact zcd_11
  | 12, _ => exact zcd_12
  | 13, _ => exact zcd_13
  | 14, _ => exact zcd_14
  | 15, _ => exact zcd_15
  | 16, _ => exact zcd_16
  | 17, _ => exact zcd_17
  | 18, _ => exact zcd_18
  | 19, _ => exact zcd_19
  | 20, _ => exact zcd_20
  | 21, _ => exact zcd_21
  | 22, _ => exact zcd_22
  | 23, _ => exact zcd_23
  | 24, _ => exact zcd_24
  | 25, _ => exact zcd_25
  | 26, _ => exact zcd_26
  | 27, _ => exact zcd_27
  | 28, _ => exact zcd_28
  | 29, _ => exact zcd_29
  | 30, _ => exact zcd_30
  | 31, _ => exact zcd_31
  | 32, _ => exact zcd_32
  | 33, _ => exact zcd_33
  | 34, _ => exact zcd_34
  | 35, _ => exact zcd_35
  | 36, _ => exact zcd_36
  | 37, _ => exact zcd_37
  | 38, _ => exact zcd_38
  | 39, _ => exact zcd_39
  | 40, _ => exact zcd_40
  | 41, _ => exact zcd_41
  | 42, _ => exact zcd_42
  | 43, _ => exact zcd_43
  | 44, _ => exact zcd_44
  | 45, _ => exact zcd_45
  | 46, _ => exact zcd_46
  | 47, _ => exact zcd_47
  | 48, _ => exact zcd_48
  | 49, _ => exact zcd_49
  | 50, _ => exact zcd_50
  | 51, _ => exact zcd_51
  | 52, _ => exact zcd_52
  | 53, _ => exact zcd_53
  | 54, _ => exact zcd_54
  | 55, _ => exact zcd_55
  | 56, _ => exact zcd_56
  | 57, _ => exact zcd_57
  | 58, _ => exact zcd_58
  | 59, _ => exact zcd_59
  | 60, _ => exact zcd_60
  | 61, _ => exact zcd_61
  | 62, _ => exact zcd_62
  | 63, _ => exact zcd_63
  | 64, _ => exact zcd_64
  | 65, _ => exact zcd_65
  | 66, _ => exact zcd_66
  | 67, _ => exact zcd_67
  | 68, _ => exact zcd_68
  | 69, _ => exact zcd_69
  | 70, _ => exact zcd_70
  | 71, _ => exact zcd_71
  | 72, _ => exact zcd_72
  | 73, _ => exact zcd_73
  | 74, _ => exact zcd_74
  | 75, _ => exact zcd_75
  | 76, _ => exact zcd_76
  | 77, _ => exact zcd_77
  | 78, _ => exact zcd_78
  | 79, _ => exact zcd_79
  | 80, _ => exact zcd_80
  | 81, _ => exact zcd_81
  | 82, _ => exact zcd_82
  | 83, _ => exact zcd_83
  | 84, _ => exact zcd_84
  | 85, _ => exact zcd_85
  | 86, _ => exact zcd_86
  | 87, _ => exact zcd_87
  | 88, _ => exact zcd_88
  | 89, _ => exact zcd_89
  | 90, _ => exact zcd_90
  | 91, _ => exact zcd_91
  | 92, _ => exact zcd_92
  | 93, _ => exact zcd_93
  | 94, _ => exact zcd_94
  | 95, _ => exact zcd_95
  | 96, _ => exact zcd_96
  | 97, _ => exact zcd_97
  | 98, _ => exact zcd_98
  | 99, _ => exact zcd_99
  | 100, _ => exact zcd_100
  | 101, _ => exact zcd_101
  | 102, _ => exact zcd_102
  | 103, _ => exact zcd_103
  | 104, _ => exact zcd_104
  | 105, _ => exact zcd_105
  | 106, _ => exact zcd_106
  | 107, _ => exact zcd_107
  | 108, _ => exact zcd_108
  | 109, _ => exact zcd_109
  | 110, _ => exact zcd_110
  | 111, _ => exact zcd_111
  | 112, _ => exact zcd_112
  | 113, _ => exact zcd_113
  | 114, _ => exact zcd_114
  | 115, _ => exact zcd_115
  | 116, _ => exact zcd_116
  | 117, _ => exact zcd_117
  | 118, _ => exact zcd_118
  | 119, _ => exact zcd_119
  | 120, _ => exact zcd_120
  | 121, _ => exact zcd_121
  | 122, _ => exact zcd_122
  | 123, _ => exact zcd_123
  | 124, _ => exact zcd_124
  | 125, _ => exact zcd_125
  | 126, _ => exact zcd_126
  | 127, _ => exact zcd_127
  | 128, _ => exact zcd_128
  | 129, _ => exact zcd_129
  | 130, _ => exact zcd_130
  | 131, _ => exact zcd_131
  | 132, _ => exact zcd_132
  | 133, _ => exact zcd_133
  | 134, _ => exact zcd_134
  | 135, _ => exact zcd_135
  | 136, _ => exact zcd_136
  | 137, _ => exact zcd_137
  | 138, _ => exact zcd_138
  | 139, _ => exact zcd_139
  | 140, _ => exact zcd_140
  | 141, _ => exact zcd_141
  | 142, _ => exact zcd_142
  | 143, _ => exact zcd_143
  | 144, _ => exact zcd_144
  | 145, _ => exact zcd_145
  | 146, _ => exact zcd_146
  | 147, _ => exact zcd_147
  | 148, _ => exact zcd_148
  | 149, _ => exact zcd_149
  | 150, _ => exact zcd_150
  | 151, _ => exact zcd_151
  | 152, _ => exact zcd_152
  | 153, _ => exact zcd_153
  | 154, _ => exact zcd_154
  | 155, _ => exact zcd_155
  | 156, _ => exact zcd_156
  | 157, _ => exact zcd_157
  | 158, _ => exact zcd_158
  | 159, _ => exact zcd_159
  | 160, _ => exact zcd_160
  | 161, _ => exact zcd_161
  | 162, _ => exact zcd_162
  | 163, _ => exact zcd_163
  | 164, _ => exact zcd_164
  | 165, _ => exact zcd_165
  | 166, _ => exact zcd_166
  | 167, _ => exact zcd_167
  | 168, _ => exact zcd_168
  | 169, _ => exact zcd_169
  | 170, _ => exact zcd_170
  | 171, _ => exact zcd_171
  | 172, _ => exact zcd_172
  | 173, _ => exact zcd_173
  | 174, _ => exact zcd_174
  | 175, _ => exact zcd_175
  | 176, _ => exact zcd_176
  | 177, _ => exact zcd_177
  | 178, _ => exact zcd_178
  | 179, _ => exact zcd_179
  | 180, _ => exact zcd_180
  | 181, _ => exact zcd_181
  | 182, _ => exact zcd_182
  | 183, _ => exact zcd_183
  | 184, _ => exact zcd_184
  | 185, _ => exact zcd_185
  | 186, _ => exact zcd_186
  | 187, _ => exact zcd_187
  | 188, _ => exact zcd_188
  | 189, _ => exact zcd_189
  | 190, _ => exact zcd_190
  | 191, _ => exact zcd_191
  | 192, _ => exact zcd_192
  | 193, _ => exact zcd_193
  | 194, _ => exact zcd_194
  | 195, _ => exact zcd_195
  | 196, _ => exact zcd_196
  | 197, _ => exact zcd_197
  | 198, _ => exact zcd_198
  | 199, _ => exact zcd_199
  | 200, _ => exact zcd_200
  | 201, _ => exact zcd_201
  | 202, _ => exact zcd_202
  | 203, _ => exact zcd_203
  | 204, _ => exact zcd_204
  | 205, _ => exact zcd_205
  | 206, _ => exact zcd_206
  | 207, _ => exact zcd_207
  | 208, _ => exact zcd_208
  | 209, _ => exact zcd_209
  | 210, _ => exact zcd_210
  | 211, _ => exact zcd_211
  | 212, _ => exact zcd_212
  | 213, _ => exact zcd_213
  | 214, _ => exact zcd_214
  | 215, _ => exact zcd_215
  | 216, _ => exact zcd_216
  | 217, _ => exact zcd_217
  | 218, _ => exact zcd_218
  | 219, _ => exact zcd_219
  | 220, _ => exact zcd_220
  | 221, _ => exact zcd_221
  | 222, _ => exact zcd_222
  | 223, _ => exact zcd_223
  | 224, _ => exact zcd_224
  | 225, _ => exact zcd_225
  | 226, _ => exact zcd_226
  | 227, _ => exact zcd_227
  | 228, _ => exact zcd_228
  | 229, _ => exact zcd_229
  | 230, _ => exact zcd_230
  | 231, _ => exact zcd_231
  | 232, _ => exact zcd_232
  | 233, _ => exact zcd_233
  | 234, _ => exact zcd_234
  | 235, _ => exact zcd_235
  | 236, _ => exact zcd_236
  | 237, _ => exact zcd_237
  | 238, _ => exact zcd_238
  | n + 239, h => exact absurd h (by omega)
theorem zcat_all {Γ : ZG} {m : Nat} {nm : String} (C : zCtx Γ (zMB m) (zown (zMO m)) nm) (hX : zX (gS Γ) (gA Γ) (gX Γ)) (hnL : Γ.2.2.2.2.2.2.2.2.2.2.2.1 = zML m) (htb : Γ.2.2.2.2.2.2.2.2.2.1.exceptionTable.toList = tableOf (zMH m)) (hri : Γ.2.2.2.2.2.2.2.2.1.sig.returnType = zMR m) {pc idx : Nat} (hd : decode (zMB m) pc = .ok (.invokevirtual idx, 3)) : zCat Γ (zMB m) pc (zH m) := by
  have key : ∀ x r, zH m x = some r → zCat1 Γ (zMB m) pc x r := by
    intro x r h
    have h := zH_mem h
    have h : (m, x, r) ∈ ([(214, 0, 1), (215, 0, 1), (216, 1, 1), (217, 0, 1), (218, 0, 1), (219, 0, 1), (220, 0, 1), (221, 0, 1), (221, 1, 2), (222, 0, 1), (223, 0, 1), (224, 0, 1), (224, 1, 2), (225, 0, 1), (225, 1, 2), (226, 0, 1), (226, 1, 2), (227, 0, 1), (227, 1, 2), (228, 0, 1), (228, 1, 2), (229, 0, 1), (230, 1, 1), (231, 0, 1), (231, 1, 2), (232, 0, 1)] : List (Nat × Nat × Int32)) := h
    simp only [List.mem_cons, List.not_mem_nil, or_false, Prod.mk.injEq] at h
    rcases h with ⟨rfl, rfl, rfl⟩ | ⟨rfl, rfl, rfl⟩ | ⟨rfl, rfl, rfl⟩ | ⟨rfl, rfl, rfl⟩ | ⟨rfl, rfl, rfl⟩ | ⟨rfl, rfl, rfl⟩ | ⟨rfl, rfl, rfl⟩ | ⟨rfl, rfl, rfl⟩ | ⟨rfl, rfl, rfl⟩ | ⟨rfl, rfl, rfl⟩ | ⟨rfl, rfl, rfl⟩ | ⟨rfl, rfl, rfl⟩ | ⟨rfl, rfl, rfl⟩ | ⟨rfl, rfl, rfl⟩ | ⟨rfl, rfl, rfl⟩ | ⟨rfl, rfl, rfl⟩ | ⟨rfl, rfl, rfl⟩ | ⟨rfl, rfl, rfl⟩ | ⟨rfl, rfl, rfl⟩ | ⟨rfl, rfl, rfl⟩ | ⟨rfl, rfl, rfl⟩ | ⟨rfl, rfl, rfl⟩ | ⟨rfl, rfl, rfl⟩ | ⟨rfl, rfl, rfl⟩ | ⟨rfl, rfl, rfl⟩ | ⟨rfl, rfl, rfl⟩
    · exact zct_214_0 C hX hnL htb hri hd
    · exact zct_215_0 C hX hnL htb hri hd
    · exact zct_216_1 C hX hnL htb hri hd
    · exact zct_217_0 C hX hnL htb hri hd
    · exact zct_218_0 C hX hnL htb hri hd
    · exact zct_219_0 C hX hnL htb hri hd
    · exact zct_220_0 C hX hnL htb hri hd
    · exact zct_221_0 C hX hnL htb hri hd
    · exact zct_221_1 C hX hnL htb hri hd
    · exact zct_222_0 C hX hnL htb hri hd
    · exact zct_223_0 C hX hnL htb hri hd
    · exact zct_224_0 C hX hnL htb hri hd
    · exact zct_224_1 C hX hnL htb hri hd
    · exact zct_225_0 C hX hnL htb hri hd
    · exact zct_225_1 C hX hnL htb hri hd
    · exact zct_226_0 C hX hnL htb hri hd
    · exact zct_226_1 C hX hnL htb hri hd
    · exact zct_227_0 C hX hnL htb hri hd
    · exact zct_227_1 C hX hnL htb hri hd
    · exact zct_228_0 C hX hnL htb hri hd
    · exact zct_228_1 C hX hnL htb hri hd
    · exact zct_229_0 C hX hnL htb hri hd
    · exact zct_230_1 C hX hnL htb hri hd
    · exact zct_231_0 C hX hnL htb hri hd
    · exact zct_231_1 C hX hnL htb hri hd
    · exact zct_232_0 C hX hnL htb hri hd
  obtain ⟨p, l, e, R, s, mi, args, below, meth, c, Q, nL, D, cA, X, A, c0, s0, n0, σ0⟩ := Γ
  exact key
theorem zAll_ok (d : Nat) (F : Cal) (xs : Nat → Int32) (L : Nat) : zAll d F xs L :=
  ⟨zcd_all, fun Γ m hm C hX hnL htb hri => ⟨fun pc idx hd => zcat_all C hX hnL htb hri hd, zsw_all C⟩⟩
theorem zSnd_all (xs : Nat → Int32) (L : Nat) : ∀ d, zSnd (zev xs L d) d
  | 0 => fun m as h r h' hr => by cases hr
  | d + 1 => zSnd_step (zAll_ok d _ xs L) (zSnd_all xs L d)
