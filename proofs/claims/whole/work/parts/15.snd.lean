/-! SOUNDNESS, 10: contracts of all methods, depth by depth. -/
theorem zMetH {l : Launch} {y : MethodName} {ws ws' : List Cond} {rm : Room} {Pc : Array Value → State → Prop} {Qc : Array Value → State → Outcome → State → Prop} {mc ms : Nat} {free : Addr → Prop} {cc : ByteArray} {maxL : Nat} {ret : Option FieldType} {hh : List (Nat × Nat × Nat × Nat)}
    (hy : plainFor y = true) (hw : ws = Cond.codeWith y cc maxL ret hh :: ws')
    (body : ∀ p e s m args below meth c s₁, BodyLoose p l y (headSpec ws rm) cc maxL ret e s m args below meth c s₁ → c.maxLocals = maxL → Pc args s →
      W p l e (headSpec ws rm).room s m args below meth c s.heap [] 0 0 (MQ below Qc args s mc ms free) (entryFrame m args maxL)) : Met l y ws rm Pc Qc mc ms free := by
  refine MetFree.of_bodySF (code := cc) (maxLocals := maxL) (ret := ret) hy ?_ ?_
  · intro args s m h hn
    obtain ⟨m9, meth, c, hn9, h1, h2, h3, h4, -, h5, h6, -⟩ := Cond.codeWith_spec (atoms_spec (ws := ws) h _ (by rw [hw]; exact List.mem_cons_self))
    cases hn.symm.trans hn9
    exact ⟨meth, c, h1, h2, h3, h4, h5, h6⟩
  · intro p e s m args below meth c s₁ B hml hP _
    have hh0 : s₁.heap = s.heap := by rw [B.state]; rfl
    obtain ⟨t, a1, o, b1, b2, b3⟩ := body p e s m args below meth c s₁ B hml hP s₁ hh0 (Stand.of_body B)
    exact ⟨t, o, a1, b1, b2, ⟨b3.1, b3.2⟩⟩
theorem zMetX {l : Launch} {y : MethodName} {ws ws' : List Cond} {rm : Room} {Pc : Array Value → State → Prop} {Qc : Array Value → State → Outcome → State → Prop} {XC : String → State → State → Prop} {mc ms : Nat} {free : Addr → Prop} {cc : ByteArray} {maxL : Nat} {ret : Option FieldType}
    (hy : plainFor y = true) (hw : ws = Cond.code y cc maxL ret :: ws')
    (body : ∀ p e s m args below meth c s₁, BodyLoose p l y (headSpec ws rm) cc maxL ret e s m args below meth c s₁ → c.maxLocals = maxL → (∀ x ∈ c.exceptionTable.toList, False) → Pc args s →
      W p l e (headSpec ws rm).room s m args below meth c s.heap [] 0 0 (vx_MQ below Qc XC args s mc ms free) (entryFrame m args maxL)) : vx_Met l y ws rm Pc Qc XC mc ms free := by
  refine MetFree.of_bodySF (code := cc) (maxLocals := maxL) (ret := ret) hy ?_ ?_
  · intro args s m h hn
    obtain ⟨meth, c, h1, h2, h3, h4, h5, h6, -, -⟩ := Cond.code_spec hn (atoms_spec (ws := ws) h _ (by rw [hw]; exact List.mem_cons_self))
    exact ⟨meth, c, h1, h2, h3, h4, h5, h6⟩
  · intro p e s m args below meth c s₁ B hml hP _
    have hh0 : s₁.heap = s.heap := by rw [B.state]; rfl
    have ht : ∀ x ∈ c.exceptionTable.toList, False := by
      obtain ⟨meth9, c9, h1, h2, -, -, -, -, h7, -⟩ := Cond.code_spec B.named (atoms_spec (ws := ws) B.pre _ (by rw [hw]; exact List.mem_cons_self))
      cases Option.some.inj (h1.symm.trans B.method)
      cases Option.some.inj (h2.symm.trans (Stand.of_body B).code)
      intro x hx
      rw [Array.isEmpty_iff.mp h7] at hx
      cases hx
    obtain ⟨t, a1, o, b1, b2, b3⟩ := body p e s m args below meth c s₁ B hml ht hP s₁ hh0 (Stand.of_body B)
    exact ⟨t, o, a1, b1, b2, b3⟩
theorem zargs_map {σ X : Nat → Nat} : ∀ (as : List Value) (k : Nat), lv_args k (as.map (zcv σ X)) = zlo X σ (lv_args k as)
  | [], _ => rfl
  | v :: as, k => by
    show (k, zcv σ X v) :: lv_args _ (as.map (zcv σ X)) = (k, zcv σ X v) :: zlo X σ (lv_args _ as)
    rw [zcv_cat, zargs_map as]
theorem zsl_len : ∀ (as : List Value), (lg_sl as).length = (as.map fun v => v.category).sum
  | [] => rfl
  | v :: as => by
    have ih := zsl_len as
    unfold lg_sl at ih ⊢
    rw [List.flatMap_cons, List.length_append, ih, List.map_cons, List.sum_cons]
    congr 1
    rcases lv_cat v with h | h
    · rw [h]; rfl
    · rw [h]; rfl
/-- the entry of a method's frame -/
theorem zEnter {p : Program} {l : Launch} {e : Env} {R : Room} {s : State} {mi : MethodId} {args : Array Value} {below : List Frame} {meth : Method} {c : Code} {Q : State → Prop} {D : va_G} {cA : Nat → ClassId} {X σ : Nat → Nat} {m d n : Nat} {as : List Value} {h h' : AH} {r : Ret} {E : Evn}
    (hFr : zFr (p, l, e, R, s, mi, args, below, meth, c, Q, zML m, D, cA, X, va_A (zws cA X σ h) s.heap.size, hc h, hs h, hn h, σ) m d E) (hm : zCode m) (h0 : zbp m 0 = 0) (hPF : zPF E.1) (hr : zrun E (zC m) n 0 (lv_args 0 as) h = some (r, h')) (has : Sok (hn h) as) (hh : Hok h) (hlen : (as.map fun v => v.category).sum ≤ zML m)
    (hav : args = (as.map (zcv σ X)).toArray) (hP : va_P D zcls (zws cA X σ h) s.heap) (hD : va_D (fun _ => True) (zws cA X σ h))
    (hE : zEnd (p, l, e, R, s, mi, args, below, meth, c, Q, zML m, D, cA, X, va_A (zws cA X σ h) s.heap.size, hc h, hs h, hn h, σ) (zMB m) r h') (gc : hc h' - hc h ≤ R.cells) (gs : hs h' - hs h ≤ R.slots) :
    W p l e R s mi args below meth c s.heap [] 0 0 Q (entryFrame mi args (zML m)) := by
  have K := zrun_S hFr hm hPF n 0 (lv_args 0 as) h r h' hr (Lok.args as 0 has) hh (Nat.le_refl _) (Nat.le_refl _) hE gc gs
  have hl0 : (lg_sl (as.map (zcv σ X))).length ≤ zML m := by
    rw [zsl_len, List.map_map]
    rw [show ((fun v => v.category) ∘ zcv σ X) = fun v => v.category from funext fun v => zcv_cat σ X v]
    exact hlen
  have hl := lv_entry (as.map (zcv σ X)) hl0
  rw [zargs_map] at hl
  have K2 := K σ s.heap [] _ ⟨Nat.le_refl _, fun _ _ => rfl⟩ hP hD.self va_S.rf hl
  rw [Nat.sub_self, Nat.sub_self, h0] at K2
  have he := lg_entry_eq mi (as.map (zcv σ X)) (zML m)
  rw [← hav] at he
  rw [he]
  exact K2
/-- a return's end -/
theorem zEnd_ret {p : Program} {l : Launch} {e : Env} {R : Room} {s : State} {mi : MethodId} {args : Array Value} {below : List Frame} {meth : Method} {c : Code} {D : va_G} {cA : Nat → ClassId} {X σ : Nat → Nat} {nL : Nat} {cc : ByteArray} {h h' : AH} {A : Nat → Prop} {v : Option Value} (hx : p.tables.exec = Jvm.exec) (hb : c.code = cc) (hlocks : meth.locks = false) :
    zEnd (p, l, e, R, s, mi, args, below, meth, c, MQ below (zPostR D cA X σ h h' A v) args s (hc h' - hc h) (hs h' - hs h) A, nL, D, cA, X, A, hc h, hs h, hn h, σ) cc (.inr v) h' := by
  intro σ' H locs hag hP hD hS
  have hq : ∀ (w : Option Value), w = v.map (zcv σ' X) → ∀ t : State, t.heap = H → s.WarmedH t.vm → zPostR D cA X σ h h' A v args s (.returned w) t := fun w hw t ht _ => ⟨⟨σ', hag.2, by rw [hw], by rw [ht]; exact hP, hD⟩, hS.F ht⟩
  cases v with
  | none => exact fun pc ls hdg hri => W.vret hx hb hri (hq _ rfl) hS.2.2 hdg (hlocks := hlocks)
  | some v =>
    cases v with
    | int v =>
      intro pc ls hdg hv
      rcases hv with ⟨rfl | rfl, hri⟩ | hri
      · exact W.zret hx hb hri rfl (hq _ rfl) hS.2.2 hdg (hlocks := hlocks)
      · exact W.zret hx hb hri rfl (hq _ rfl) hS.2.2 hdg (hlocks := hlocks)
      · exact W.iret hx hb hri (hq _ rfl) hS.2.2 hdg (hlocks := hlocks)
    | long v => exact fun pc ls hdg hri => W.lret hx hb hri (hq _ rfl) hS.2.2 hdg (hlocks := hlocks)
    | ref v => exact fun pc ls rt hdg hri hrt => W.aret hx hb hri hrt (Or.inr ⟨_, rfl⟩) (hq _ rfl) hS.2.2 hdg (hlocks := hlocks)
    | null => exact fun pc ls rt hdg hri hrt => W.aret hx hb hri hrt (Or.inl rfl) (hq _ rfl) hS.2.2 hdg (hlocks := hlocks)
    | float f => trivial
    | double f => trivial
    | retAddr f => trivial
/-- a throw's end -/
theorem zEnd_thr {p : Program} {l : Launch} {e : Env} {R : Room} {s : State} {mi : MethodId} {args : Array Value} {below : List Frame} {meth : Method} {c : Code} {D : va_G} {cA : Nat → ClassId} {X σ : Nat → Nat} {nL : Nat} {cc : ByteArray} {h h' : AH} {A : Nat → Prop} {x : Nat} (hx : p.tables.exec = Jvm.exec) (hb : c.code = cc) (hlocks : meth.locks = false) (hT : l.stackTraces = false) (htab : ∀ x ∈ c.exceptionTable.toList, False) (hX : zX s A X) (hR : 20 ≤ R.frames ∧ 260 ≤ R.locals) (hc1 : hc h' - hc h ≤ R.cells) (hs1 : hs h' - hs h ≤ R.slots) :
    zEnd (p, l, e, R, s, mi, args, below, meth, c, vx_MQ below zNo (zPostX D cA X σ h h' A x) args s (hc h' - hc h) (hs h' - hs h) A, nL, D, cA, X, A, hc h, hs h, hn h, σ) cc (.inl x) h' := by
  intro σ' H locs hag hP hD hS
  refine ⟨fun pc ls rest q ce g1 g2 g3 => ?_, fun h0 own pc ik ic ls rest e0 k1 k2 hown hls hr4 d0 d3 d4 d7 hw => ?_⟩
  · exact vx_out (fun z hz => (htab z hz).elim) hlocks g1 g2 g3 (fun t ht _ => ⟨σ', hag.2, ⟨rfl, by rw [ht]; exact hP, hD⟩, hS.F ht⟩) hS.2.2 (Nat.le_refl _) (Nat.le_refl _)
  · subst e0
    obtain ⟨adV, -, -, -, -, hU, hN, -⟩ := hX
    have c1 : hc h0 + 1 - hc h ≤ R.cells := hc1
    have s1 : hs h0 + 6 - hs h ≤ R.slots := hs1
    have h8 : (rest.map fun v => v.category).sum ≤ 8 := zsum4 (n := 4) _ hr4
    have hwd : ∀ w ∈ vx_at0 own ic (zXn x) ["java/lang/RuntimeException", "java/lang/Exception"], w.before args s = true := fun w hw2 => (hw w (List.mem_cons_of_mem _ (List.mem_cons_of_mem _ hw2))).1
    refine vx_throw0 (own := own) (cls := zXn x) (names := ["java/lang/RuntimeException", "java/lang/Exception"]) (ik := ik) (ic := ic) hx hb hT hown ?_ ?_ (hw _ List.mem_cons_self).1 (hw _ (List.mem_cons_of_mem _ List.mem_cons_self)).1 hwd (fun w hw2 => (hw w hw2).2) hU hN hS hls d0 d3 d4 d7 (fun z hz => (htab z hz).elim) (by show 2 + 3 < R.frames; omega) (by show _ + (13 * (2 + 1) + 42) ≤ R.locals; omega) (by omega) (by omega) hlocks (fun t hal hz hk => ?_) hS.2.2 ?_ ?_
    · unfold zXn; split <;> decide +kernel
    · decide +kernel
    · refine ⟨σ', hag.2, ⟨rfl, hP.kept (fun k q hq => hk q.1 ((hP k q hq).lt)), hD⟩, Nat.le_trans hS.1 hz, fun q g1 g2 => (hk q (Nat.lt_of_lt_of_le g1 hS.1)).trans (hS.2.1 q g1 g2)⟩
    · show hc h0 - hc h + 1 ≤ hc h0 + 1 - hc h
      omega
    · show hs h0 - hs h + 6 ≤ hs h0 + 6 - hs h
      omega
/-- what the code of the claim has, by program -/
def zAll (d : Nat) (F : Cal) (xs : Nat → Int32) (L : Nat) : Prop := (∀ m, m < 239 → zCode m ∧ zbp m 0 = 0) ∧
  ∀ (Γ : ZG) (m : Nat), m < 239 → zCtx Γ (zMB m) (zown (zMO m)) (zMY m).name → zX (gS Γ) (gA Γ) (gX Γ) → Γ.2.2.2.2.2.2.2.2.2.2.2.1 = zML m → Γ.2.2.2.2.2.2.2.2.2.1.exceptionTable.toList = tableOf (zMH m) → Γ.2.2.2.2.2.2.2.2.1.sig.returnType = zMR m → (∀ pc idx, decode (zMB m) pc = .ok (.invokevirtual idx, 3) → zCat Γ (zMB m) pc (zH m)) ∧ (∀ pc a, (m, pc, a) ∈ zSWl → ∀ v b rest, ((∃ q ∈ (zSW a).1, q.1 = v ∧ q.2 = b) ∨ ((∀ q ∈ (zSW a).1, q.1 ≠ v) ∧ b = (zSW a).2)) → zRow Γ pc (zbp m b) (.int v :: rest) rest)
theorem zFr_of {xs : Nat → Int32} {L d m mc ms : Nat} {p : Program} {l : Launch} {e : Env} {s s₁ : State} {mi : MethodId} {args : Array Value} {below : List Frame} {meth : Method} {c : Code} {Q : State → Prop} {D : va_G} {cA : Nat → ClassId} {X σ : Nat → Nat} {h : AH} {as : List Value} {sz : Nat} (hAll : zAll d (zev xs L d) xs L) (hS : zSnd (zev xs L d) d) (hm : m < 239) (hT : l.stackTraces = false)
    (B : BodyLoose p l (zMY m) (headSpec (zW m) (zrm (d + 1) mc ms)) (zMB m) (zML m) (zMR m) e s mi args below meth c s₁) (hml : c.maxLocals = zML m) (htb : c.exceptionTable.toList = tableOf (zMH m)) (hv : zPre D cA X σ h as sz args s) :
    zFr (p, l, e, zrm (d + 1) mc ms, s, mi, args, below, meth, c, Q, zML m, D, cA, X, va_A (zws cA X σ h) s.heap.size, hc h, hs h, hn h, σ) m d (zev xs L d, zH m, xs, L) := by
  obtain ⟨h0, hsz, hP, hK, hD0, hNB, hX⟩ := hv
  have hts := atoms_spec (ws := zW m) B.pre
  have hown : s.vm.findClass (zMY m).cls = some mi.cls := findClass_of_methodNamed B.named
  obtain ⟨-, -, -, -, -, ho⟩ := zMk_all m hm
  rw [← ho] at hown
  rw [← hsz] at hX
  have hC : zCtx (p, l, e, zrm (d + 1) mc ms, s, mi, args, below, meth, c, Q, zML m, D, cA, X, va_A (zws cA X σ h) s.heap.size, hc h, hs h, hn h, σ) (zMB m) (zown (zMO m)) (zMY m).name := by
    refine ⟨B.exec, B.bytes, hml, hown, fun w hw => ?_, hK, fun q hq => Or.inr hq, B.notSynchronized, ?_, ?_, (name_of_methodNamed B.named B.method).1⟩
    · rcases zBIG_or hw with g | g
      · exact hts w (List.mem_cons_of_mem _ g)
      · exact va_Nw.use (zNw_on (List.mem_filter.mp g).2) (hNB w g)
    · show 8 ≤ d + 1 + 24; omega
    · show 200 ≤ 60 * (d + 1) + 300; omega
  obtain ⟨a1, a2⟩ := hAll.2 _ m hm hC hX rfl htb B.returns
  exact ⟨hC, hX, hS, hT, ⟨by show d + 25 ≤ d + 1 + 24; omega, by show 60 * d + 360 ≤ 60 * (d + 1) + 300; omega⟩, ⟨by show 20 ≤ d + 1 + 24; omega, by show 260 ≤ 60 * (d + 1) + 300; omega⟩, rfl, B.returns, a1, fun z => absurd z (by omega), a2⟩
theorem zSnd_step {xs : Nat → Int32} {L d : Nat} (hAll : zAll d (zev xs L d) xs L) (hS : zSnd (zev xs L d) d) : zSnd (zev xs L (d + 1)) (d + 1) := by
  intro m as h r h' hr hm hs9 hh
  obtain ⟨q1, q2, q3⟩ := zev_P (d + 1) m as h r h' hr hs9 hh
  refine ⟨q1, q2, q3, fun l D cA X σ sz hT => ?_⟩
  unfold zev at hr
  split at hr
  case isFalse => cases hr
  rename_i hlen
  obtain ⟨n, hn⟩ := zlim_to hr
  obtain ⟨m1, m2, m3, m4, m5, m6⟩ := zMk_all m hm
  obtain ⟨hcd, h0⟩ := hAll.1 m hm
  refine ⟨fun v hv => ?_, fun x hx hH => ?_⟩
  · subst hv
    by_cases hH : zMH m = []
    · refine va_MetF m5 (zW_code hH) ?_
      intro p e s mi args below meth c s₁ B hml hv
      have htb : c.exceptionTable.toList = tableOf (zMH m) := by
        obtain ⟨meth9, c9, h1, h2, -, -, -, -, h7, -⟩ := Cond.code_spec B.named (atoms_spec (ws := zW m) B.pre _ (by rw [zW_code hH]; exact List.mem_cons_self))
        cases Option.some.inj (h1.symm.trans B.method)
        cases Option.some.inj (h2.symm.trans (Stand.of_body B).code)
        rw [Array.isEmpty_iff.mp h7, hH]
        rfl
      have hFr := zFr_of (Q := MQ below (zPostR D cA X σ h h' (va_A (zws cA X σ h) s.heap.size) v) args s (hc h' - hc h) (hs h' - hs h) (va_A (zws cA X σ h) s.heap.size)) hAll hS hm hT B hml htb hv
      obtain ⟨hav, hsz, hP, hK, hD0, hNB, hX⟩ := hv
      subst hsz
      exact zEnter hFr hcd h0 (zev_P d) hn hs9 hh hlen hav hP hD0 (zEnd_ret B.exec B.bytes B.notSynchronized) (Nat.le_refl _) (Nat.le_refl _)
    · refine zMetH m5 (zW_with hH) ?_
      intro p e s mi args below meth c s₁ B hml hv
      have htb : c.exceptionTable.toList = tableOf (zMH m) := vx_table (x := zMY m) B (atoms_spec (ws := zW m) B.pre _ (by rw [zW_with hH]; exact List.mem_cons_self))
      have hFr := zFr_of (Q := MQ below (zPostR D cA X σ h h' (va_A (zws cA X σ h) s.heap.size) v) args s (hc h' - hc h) (hs h' - hs h) (va_A (zws cA X σ h) s.heap.size)) hAll hS hm hT B hml htb hv
      obtain ⟨hav, hsz, hP, hK, hD0, hNB, hX⟩ := hv
      subst hsz
      exact zEnter hFr hcd h0 (zev_P d) hn hs9 hh hlen hav hP hD0 (zEnd_ret B.exec B.bytes B.notSynchronized) (Nat.le_refl _) (Nat.le_refl _)
  · subst hx
    refine zMetX m5 (zW_code hH) ?_
    intro p e s mi args below meth c s₁ B hml htab hv
    have htb : c.exceptionTable.toList = tableOf (zMH m) := by
      rw [hH]
      exact List.eq_nil_iff_forall_not_mem.mpr htab
    have hFr := zFr_of (Q := vx_MQ below zNo (zPostX D cA X σ h h' (va_A (zws cA X σ h) s.heap.size) x) args s (hc h' - hc h) (hs h' - hs h) (va_A (zws cA X σ h) s.heap.size)) hAll hS hm hT B hml htb hv
    have hX1 := hFr.2.1
    obtain ⟨hav, hsz, hP, hK, hD0, hNB, hX⟩ := hv
    subst hsz
    exact zEnter hFr hcd h0 (zev_P d) hn hs9 hh hlen hav hP hD0 (zEnd_thr B.exec B.bytes B.notSynchronized hT htab hX1 ⟨by show 20 ≤ d + 1 + 24; omega, by show 260 ≤ 60 * (d + 1) + 300; omega⟩ (Nat.le_refl _) (Nat.le_refl _)) (Nat.le_refl _) (Nat.le_refl _)
