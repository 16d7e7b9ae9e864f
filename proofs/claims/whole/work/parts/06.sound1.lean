/-! SOUNDNESS OF THE CORE MACHINE, 1: the picture of a heap, and what a stretch owes. -/
def zcv (σ X : Nat → Nat) : Value → Value
  | .ref i => .ref (σ i)
  | .float f => .ref (X f.toNat)
  | v => v
def zfv (σ : Nat → Nat) (h : AH) (i c k : Nat) : Value := if zfk c k = 1 then .long (hL h i k) else if zfk c k = 2 then va_rf ((hR h i k).map σ) else .int (hI h i k)
def zfs (σ : Nat → Nat) (h : AH) (i c : Nat) : List Value := (List.range (znf c)).map (zfv σ h i c)
def zent (cA : Nat → ClassId) (X σ : Nat → Nat) (h : AH) (i : Nat) : va_E :=
  if (hK h i).1 = 0 then .inl (cA 0, (hK h i).2, .inl (hI h i))
  else if (hK h i).1 = 1 then .inl (cA 1, (hK h i).2, .inl (hI h i))
  else if (hK h i).1 = 2 then .inl (cA 2, (hK h i).2, .inr (.inl (hL h i)))
  else if (hK h i).1 = 3 then .inl (cA 3, (hK h i).2, .inr (.inr (.inr (.inr (fun k => (hR h i k).map σ)))))
  else if (hK h i).1 = 4 then .inl (cA 4, (hK h i).2, .inr (.inr (.inr (.inr (fun k => (hR h i k).map X)))))
  else .inr ((hK h i).1 - 10, zfs σ h i ((hK h i).1 - 10))
def zws (cA : Nat → ClassId) (X σ : Nat → Nat) (h : AH) : va_W := (List.range (hn h)).map (fun i => (σ i, zent cA X σ h i))
def zlo (X σ : Nat → Nat) (lo : LV) : List (Nat × Value) := lo.map (fun q => (q.1, zcv σ X q.2))
def ztys (cA : Nat → ClassId) : List (ClassId × FieldType) := [(cA 0, .int), (cA 1, .boolean), (cA 2, .long), (cA 3, .object "TollTags$Tariff"), (cA 4, .object "java/lang/String")]
def Vok (n : Nat) : Value → Prop
  | .ref i => i < n
  | _ => True
def Lok (n : Nat) (lo : LV) : Prop := ∀ q ∈ lo, Vok n q.2
def Sok (n : Nat) (st : List Value) : Prop := ∀ v ∈ st, Vok n v
def Hok (h : AH) : Prop := (∀ a, hn h ≤ a → (∀ k, hI h a k = 0) ∧ (∀ k, hL h a k = 0) ∧ ∀ k, hR h a k = none) ∧ ∀ a k j, (hK h a).1 ≠ 4 → hR h a k = some j → j < hn h
def zho (o : Out) : AH := match o with
  | .inl x => x.2.2
  | .inr x => x.2
def zle (h h' : AH) : Prop := hn h ≤ hn h' ∧ hc h ≤ hc h' ∧ hs h ≤ hs h'
def zrok (n : Nat) : Ret → Prop
  | .inr (some v) => Vok n v
  | _ => True
def zvo (o : Out) : Prop := match o with
  | .inl x => Lok (hn x.2.2) x.2.1 ∧ Hok x.2.2
  | .inr x => zrok (hn x.2) x.1 ∧ Hok x.2
/-- a method's frame: the machine's words of it, its own locals' number, the classes, the arrays' classes, the strings, the part of the heap that it may write, what was made before it -/
abbrev ZG : Type := Program × Launch × Env × Room × State × MethodId × Array Value × List Frame × Method × Code × (State → Prop) × Nat × va_G × (Nat → ClassId) × (Nat → Nat) × (Nat → Prop) × Nat × Nat × Nat × (Nat → Nat)
def zWd (Γ : ZG) (σ : Nat → Nat) (h : AH) (H : Heap) (locs : List Loc) : Prop := match Γ with
  | (_, _, _, _, s, _, _, _, _, _, _, _, D, cA, X, A, _, _) => va_P D zcls (zws cA X σ h) H ∧ va_D A (zws cA X σ h) ∧ va_S A s.heap H locs
def zGo (Γ : ZG) (H : Heap) (locs : List Loc) (h : AH) (g : MethodId → JFrame) : Prop := match Γ with
  | (p, l, e, R, s, m, args, below, meth, c, Q, _, _, _, _, _, c0, s0, n0, σ0) => W p l e R s m args below meth c H locs (hc h - c0) (hs h - s0) Q (g m)
/-- the map of the objects goes on from the frame's own -/
def zAgr (n0 : Nat) (σ0 : Nat → Nat) (h : AH) (σ : Nat → Nat) : Prop := n0 ≤ hn h ∧ ∀ j, j < n0 → σ j = σ0 j
def zSat (Γ : ZG) (pc : Nat) (lo : LV) (st : List Value) (h : AH) : Prop := match Γ with
  | (p, l, e, R, s, m, args, below, meth, c, Q, nL, D, cA, X, A, c0, s0, n0, σ0) => ∀ (σ : Nat → Nat) (H : Heap) (locs : List Loc) (ls : Array Slot), zAgr n0 σ0 h σ → va_P D zcls (zws cA X σ h) H → va_D A (zws cA X σ h) → va_S A s.heap H locs → lv_has ls nL (zlo X σ lo) → W p l e R s m args below meth c H locs (hc h - c0) (hs h - s0) Q (F0 m pc ls (st.map (zcv σ X)))
/-- what the end of a method owes -/
def zEnd (Γ : ZG) (cc : ByteArray) (r : Ret) (h : AH) : Prop := match Γ with
  | (p, l, e, R, s, m, args, below, meth, c, Q, _, D, cA, X, A, c0, s0, n0, σ0) => ∀ (σ : Nat → Nat) (H : Heap) (locs : List Loc), zAgr n0 σ0 h σ → va_P D zcls (zws cA X σ h) H → va_D A (zws cA X σ h) → va_S A s.heap H locs → match r with
    | .inr none => ∀ (pc : Nat) (ls : Array Slot), decode cc pc = .ok (.return_, 1) → meth.sig.returnType = none → W p l e R s m args below meth c H locs (hc h - c0) (hs h - s0) Q (F0 m pc ls [])
    | .inr (some (.int v)) => ∀ (pc : Nat) (ls : Array Slot), decode cc pc = .ok (.ireturn, 1) → (((v = 0 ∨ v = 1) ∧ meth.sig.returnType = some .boolean) ∨ meth.sig.returnType = some .int) → W p l e R s m args below meth c H locs (hc h - c0) (hs h - s0) Q (F0 m pc ls [.int v])
    | .inr (some (.long v)) => ∀ (pc : Nat) (ls : Array Slot), decode cc pc = .ok (.lreturn, 1) → meth.sig.returnType = some .long → W p l e R s m args below meth c H locs (hc h - c0) (hs h - s0) Q (F0 m pc ls [.long v])
    | .inr (some (.ref v)) => ∀ (pc : Nat) (ls : Array Slot) (rt : FieldType), decode cc pc = .ok (.areturn, 1) → meth.sig.returnType = some rt → ((∃ n, rt = .object n) ∨ ∃ t, rt = .array t) → W p l e R s m args below meth c H locs (hc h - c0) (hs h - s0) Q (F0 m pc ls [.ref (σ v)])
    | .inr (some .null) => ∀ (pc : Nat) (ls : Array Slot) (rt : FieldType), decode cc pc = .ok (.areturn, 1) → meth.sig.returnType = some rt → ((∃ n, rt = .object n) ∨ ∃ t, rt = .array t) → W p l e R s m args below meth c H locs (hc h - c0) (hs h - s0) Q (F0 m pc ls [.null])
    | .inr (some _) => True
    | .inl x => (∀ (pc : Nat) (ls : Array Slot) (rest : List Value) (q : Addr) (ce : Cell), H[q]? = some ce → ce.vm = .none → s.vm.findClass (zXn x) = some ce.cls → vx_W p l e R s m args below meth c H locs (hc h - c0) (hs h - s0) Q (F0 m pc ls rest) q) ∧
      (∀ (h0 : AH) (own : String) (pc ik ic : Nat) (ls : Array Slot) (rest : List Value), h = zexc h0 → c0 ≤ hc h0 → s0 ≤ hs h0 → s.vm.findClass own = some m.cls → ls.size = c.maxLocals → rest.length ≤ 4 → decode cc pc = .ok (.new ik, 3) → decode cc (pc + 3) = .ok (.dup, 1) → decode cc (pc + 4) = .ok (.invokespecial ic, 3) → decode cc (pc + 7) = .ok (.athrow, 1) →
        (∀ w ∈ Cond.classLink own ik (zXn x) :: Cond.initialized (zXn x) :: vx_at0 own ic (zXn x) ["java/lang/RuntimeException", "java/lang/Exception"], w.before args s = true ∧ vx_ot w = true) → W p l e R s m args below meth c H locs (hc h0 - c0) (hs h0 - s0) Q (F0 m pc ls rest))
def zFin (Γ : ZG) (cc : ByteArray) (bp : Nat → Nat) (o : Out) : Prop := match o with
  | .inl x => zSat Γ (bp x.1) x.2.1 [] x.2.2
  | .inr x => zEnd Γ cc x.1 x.2
def zOk (Γ : ZG) (cc : ByteArray) (bp : Nat → Nat) (pc : Nat) (k : Kt) : Prop := match Γ with
  | (_, _, _, R, _, _, _, _, _, _, _, _, _, _, _, _, c0, s0, n0, σ0) => ∀ (lo : LV) (st : List Value) (h : AH) (o : Out), k lo st h = some o → Lok (hn h) lo → Sok (hn h) st → Hok h → c0 ≤ hc h → s0 ≤ hs h →
    zle h (zho o) ∧ zvo o ∧ (zFin Γ cc bp o → hc (zho o) - c0 ≤ R.cells → hs (zho o) - s0 ≤ R.slots → zSat Γ pc lo st h)
/-- what the frame's own words are -/
def zCtx (Γ : ZG) (cc : ByteArray) (own nm : String) : Prop := match Γ with
  | (p, _, _, R, s, m, args, _, meth, c, _, nL, D, cA, _, A, _, _) => p.tables.exec = Jvm.exec ∧ c.code = cc ∧ c.maxLocals = nL ∧ s.vm.findClass own = some m.cls ∧ (∀ w ∈ zBIG, w.before args s = true) ∧ va_K D zcls (ztys cA) s ∧ (∀ q, s.heap.size ≤ q → A q) ∧ meth.locks = false ∧ 8 ≤ R.frames ∧ 200 ≤ R.locals ∧ meth.name = nm
theorem zle.rf {h : AH} : zle h h := ⟨Nat.le_refl _, Nat.le_refl _, Nat.le_refl _⟩
theorem zle.tr {a b c : AH} (h1 : zle a b) (h2 : zle b c) : zle a c := ⟨Nat.le_trans h1.1 h2.1, Nat.le_trans h1.2.1 h2.2.1, Nat.le_trans h1.2.2 h2.2.2⟩
/-- one step, then the rest -/
theorem zOk.to {Γ : ZG} {cc : ByteArray} {bp : Nat → Nat} {pc pc' : Nat} {k k' : Kt} (hk : zOk Γ cc bp pc' k)
    (hs : ∀ lo st h o, k' lo st h = some o → Lok (hn h) lo → Sok (hn h) st → Hok h → ∃ lo' st' h', k lo' st' h' = some o ∧ Lok (hn h') lo' ∧ Sok (hn h') st' ∧ Hok h' ∧ zle h h' ∧ (hc h' - Γ.2.2.2.2.2.2.2.2.2.2.2.2.2.2.2.2.1 ≤ Γ.2.2.2.1.cells → hs h' - Γ.2.2.2.2.2.2.2.2.2.2.2.2.2.2.2.2.2.1 ≤ Γ.2.2.2.1.slots → Γ.2.2.2.2.2.2.2.2.2.2.2.2.2.2.2.2.1 ≤ hc h → Γ.2.2.2.2.2.2.2.2.2.2.2.2.2.2.2.2.2.1 ≤ hs h → zSat Γ pc' lo' st' h' → zSat Γ pc lo st h)) : zOk Γ cc bp pc k' := by
  obtain ⟨p, l, e, R, s, m, args, below, meth, c, Q, nL, D, cA, X, A, c0, s0, n0, σ0⟩ := Γ
  intro lo st h o ho h1 h2 h3 h4 h5
  obtain ⟨lo', st', h', g1, g2, g3, g4, g5, g6⟩ := hs lo st h o ho h1 h2 h3
  obtain ⟨a1, a2, a3⟩ := hk lo' st' h' o g1 g2 g3 g4 (Nat.le_trans h4 g5.2.1) (Nat.le_trans h5 g5.2.2)
  refine ⟨g5.tr a1, a2, fun f1 f2 f3 => g6 ?_ ?_ h4 h5 (a3 f1 f2 f3)⟩
  · exact Nat.le_trans (Nat.sub_le_sub_right a1.2.1 c0) f2
  · exact Nat.le_trans (Nat.sub_le_sub_right a1.2.2 s0) f3
/-- a step that leaves the heap -/
theorem zOk.st {Γ : ZG} {cc : ByteArray} {bp : Nat → Nat} {pc pc' : Nat} {k k' : Kt} (hk : zOk Γ cc bp pc' k)
    (hs : ∀ lo st h o, k' lo st h = some o → Lok (hn h) lo → Sok (hn h) st → Hok h → ∃ lo' st', k lo' st' h = some o ∧ Lok (hn h) lo' ∧ Sok (hn h) st' ∧ (zSat Γ pc' lo' st' h → zSat Γ pc lo st h)) : zOk Γ cc bp pc k' :=
  hk.to (fun lo st h o ho h1 h2 h3 => by
    obtain ⟨lo', st', g1, g2, g3, g4⟩ := hs lo st h o ho h1 h2 h3
    exact ⟨lo', st', h, g1, g2, g3, h3, zle.rf, fun _ _ _ _ => g4⟩)
theorem Sok.tl {n : Nat} {v : Value} {st : List Value} (h : Sok n (v :: st)) : Sok n st := fun w hw => h w (List.mem_cons_of_mem _ hw)
theorem Sok.hd {n : Nat} {v : Value} {st : List Value} (h : Sok n (v :: st)) : Vok n v := h v List.mem_cons_self
theorem Sok.cons {n : Nat} {v : Value} {st : List Value} (h1 : Vok n v) (h : Sok n st) : Sok n (v :: st) := fun w hw => (List.mem_cons.mp hw).elim (fun q => q ▸ h1) (h w)
theorem lget_mem {lo : LV} {i : Nat} {v : Value} (h : lget lo i = some v) : (i, v) ∈ lo := by
  unfold lget at h
  cases hf : lo.find? (fun q => q.1 == i) with
  | none => rw [hf] at h; cases h
  | some q =>
    rw [hf] at h
    have h1 : q.2 = v := Option.some.inj h
    have h2 := List.find?_some hf
    have h3 : q.1 = i := by simpa using h2
    have h4 := List.mem_of_find?_eq_some hf
    obtain ⟨a, b⟩ := q
    subst h1; subst h3
    exact h4
theorem lget_lv {X σ : Nat → Nat} {lo : LV} {i nL : Nat} {v : Value} {ls : Array Slot} (hl : lv_has ls nL (zlo X σ lo)) (h : lget lo i = some v) : ls[i]? = some (.val (zcv σ X v)) :=
  hl.2.2 (i, zcv σ X v) (List.mem_map.mpr ⟨(i, v), lget_mem h, rfl⟩)
theorem lget_at {X σ : Nat → Nat} {lo : LV} {i : Nat} {v : Value} (h : lget lo i = some v) : ∃ k : Nat, (zlo X σ lo)[k]? = some (i, zcv σ X v) := by
  have hm : (i, zcv σ X v) ∈ zlo X σ lo := List.mem_map.mpr ⟨(i, v), lget_mem h, rfl⟩
  exact List.getElem?_of_mem hm
theorem zcv_cat (σ X : Nat → Nat) (v : Value) : (zcv σ X v).category = v.category := by cases v <;> rfl
theorem zlo_set1 {X σ : Nat → Nat} {lo : LV} {i : Nat} {v : Value} : (i, zcv σ X v) :: (zlo X σ lo).filter (fun q => !(q.1 == i) && !(q.1 + 1 == i && q.2.category == 2)) = zlo X σ (lset1 lo i v) := by
  unfold zlo lset1
  rw [List.map_cons, List.filter_map]
  congr 2
  apply List.filter_congr
  intro q _
  simp [zcv_cat]
theorem zlo_set2 {X σ : Nat → Nat} {lo : LV} {i : Nat} {v : Value} : (i, zcv σ X v) :: (zlo X σ lo).filter (fun q => !(q.1 == i) && (!(q.1 == i + 1) && !(q.1 + 1 == i && q.2.category == 2))) = zlo X σ (lset2 lo i v) := by
  unfold zlo lset2
  rw [List.map_cons, List.filter_map]
  congr 2
  apply List.filter_congr
  intro q _
  simp [zcv_cat]
theorem Lok.set1 {n i : Nat} {lo : LV} {v : Value} (h : Lok n lo) (hv : Vok n v) : Lok n (lset1 lo i v) := fun q hq => (List.mem_cons.mp hq).elim (fun z => by rw [z]; exact hv) (fun z => h q (List.mem_filter.mp z).1)
theorem Lok.set2 {n i : Nat} {lo : LV} {v : Value} (h : Lok n lo) (hv : Vok n v) : Lok n (lset2 lo i v) := fun q hq => (List.mem_cons.mp hq).elim (fun z => by rw [z]; exact hv) (fun z => h q (List.mem_filter.mp z).1)
theorem Lok.get {n i : Nat} {lo : LV} {v : Value} (h : Lok n lo) (hv : lget lo i = some v) : Vok n v := h _ (lget_mem hv)
theorem lcan_mem {lo : LV} {k : Nat} {q : Nat × Value} (h : q ∈ lcan lo k) : q ∈ lo := by
  obtain ⟨i, -, hi⟩ := List.mem_filterMap.mp h
  cases hg : lget lo i with
  | none => rw [hg] at hi; cases hi
  | some v =>
    rw [hg] at hi
    have h1 : (i, v) = q := Option.some.inj hi
    rw [← h1]
    exact lget_mem hg
theorem Lok.can {n k : Nat} {lo : LV} (h : Lok n lo) : Lok n (lcan lo k) := fun q hq => h q (lcan_mem hq)
theorem lv_can {X σ : Nat → Nat} {lo : LV} {k nL : Nat} {ls : Array Slot} (h : lv_has ls nL (zlo X σ lo)) : lv_has ls nL (zlo X σ (lcan lo k)) :=
  ⟨h.1, h.2.1, fun q hq => by
    obtain ⟨x, hx, rfl⟩ := List.mem_map.mp hq
    exact h.2.2 _ (List.mem_map.mpr ⟨x, lcan_mem hx, rfl⟩)⟩
/-! what a change of the heap does to its picture -/
theorem zws_get {cA : Nat → ClassId} {X σ : Nat → Nat} {h : AH} {i : Nat} (hi : i < hn h) : (zws cA X σ h)[i]? = some (σ i, zent cA X σ h i) := by
  unfold zws
  rw [List.getElem?_map, List.getElem?_range hi]
  rfl
theorem zws_set {cA : Nat → ClassId} {X σ : Nat → Nat} {h h' : AH} {i : Nat} {e : va_E} (hn' : hn h' = hn h) (hne : ∀ j, j ≠ i → zent cA X σ h' j = zent cA X σ h j) (he : zent cA X σ h' i = e) : (zws cA X σ h).set i (σ i, e) = zws cA X σ h' := by
  apply List.ext_getElem?
  intro k
  unfold zws
  rw [hn']
  by_cases hki : k = i
  · subst hki
    by_cases hk : k < hn h
    · rw [List.getElem?_set_self (by simpa using hk), List.getElem?_map, List.getElem?_range hk]
      simp [he]
    · rw [List.getElem?_eq_none (by simpa using Nat.le_of_not_lt hk), List.getElem?_eq_none (by simpa using Nat.le_of_not_lt hk)]
  · rw [List.getElem?_set_ne (Ne.symm hki), List.getElem?_map, List.getElem?_map]
    by_cases hk : k < hn h
    · rw [List.getElem?_range hk]
      simp [hne k hki]
    · rw [List.getElem?_eq_none (by simpa using Nat.le_of_not_lt hk)]
      rfl
theorem setI_ne {h : AH} {a k j : Nat} {v : Int32} (hj : j ≠ a) : hI (setI h a k v) j = hI h j := by funext q; simp [hI, setI, zup, hj]
theorem setI_eq {h : AH} {a k : Nat} {v : Int32} : hI (setI h a k v) a = upd (hI h a) k v := by funext q; simp [hI, setI, zup, upd]
theorem setL_ne {h : AH} {a k j : Nat} {v : Int64} (hj : j ≠ a) : hL (setL h a k v) j = hL h j := by funext q; simp [hL, setL, zup, hj]
theorem setL_eq {h : AH} {a k : Nat} {v : Int64} : hL (setL h a k v) a = vp_updL (hL h a) k v := by funext q; simp [hL, setL, zup, vp_updL]
theorem setR_ne {h : AH} {a k j : Nat} {v : Option Nat} (hj : j ≠ a) : hR (setR h a k v) j = hR h j := by funext q; simp [hR, setR, zup, hj]
theorem setR_eq {h : AH} {a k : Nat} {v : Option Nat} : hR (setR h a k v) a = va_up (hR h a) k v := by funext q; simp [hR, setR, zup, va_up]
theorem zent_congr {cA : Nat → ClassId} {X σ : Nat → Nat} {h h' : AH} {j : Nat} (h1 : hI h' j = hI h j) (h2 : hL h' j = hL h j) (h3 : hR h' j = hR h j) (h4 : hK h' j = hK h j) : zent cA X σ h' j = zent cA X σ h j := by
  unfold zent zfs zfv
  rw [h1, h2, h3, h4]
theorem zent_setI {cA : Nat → ClassId} {X σ : Nat → Nat} {h : AH} {a k j : Nat} {v : Int32} (hj : j ≠ a) : zent cA X σ (setI h a k v) j = zent cA X σ h j := zent_congr (setI_ne hj) rfl rfl rfl
theorem zent_setL {cA : Nat → ClassId} {X σ : Nat → Nat} {h : AH} {a k j : Nat} {v : Int64} (hj : j ≠ a) : zent cA X σ (setL h a k v) j = zent cA X σ h j := zent_congr rfl (setL_ne hj) rfl rfl
theorem zent_setR {cA : Nat → ClassId} {X σ : Nat → Nat} {h : AH} {a k j : Nat} {v : Option Nat} (hj : j ≠ a) : zent cA X σ (setR h a k v) j = zent cA X σ h j := zent_congr rfl rfl (setR_ne hj) rfl
theorem zmap_set {α : Type} {n k : Nat} {f g : Nat → α} {x : α} (hk : g k = x) (hne : ∀ j, j ≠ k → g j = f j) : ((List.range n).map f).set k x = (List.range n).map g := by
  apply List.ext_getElem?
  intro j
  by_cases hj : j = k
  · subst hj
    by_cases hjn : j < n
    · rw [List.getElem?_set_self (by simpa using hjn), List.getElem?_map, List.getElem?_range hjn, ← hk]
      rfl
    · rw [List.getElem?_eq_none (by simpa using Nat.le_of_not_lt hjn), List.getElem?_eq_none (by simpa using Nat.le_of_not_lt hjn)]
  · rw [List.getElem?_set_ne (Ne.symm hj), List.getElem?_map, List.getElem?_map]
    by_cases hjn : j < n
    · rw [List.getElem?_range hjn]
      simp [hne j hj]
    · rw [List.getElem?_eq_none (by simpa using Nat.le_of_not_lt hjn)]
      rfl
theorem zfs_get {σ : Nat → Nat} {h : AH} {i c k : Nat} (hk : k < znf c) : (zfs σ h i c)[k]? = some (zfv σ h i c k) := by
  unfold zfs
  rw [List.getElem?_map, List.getElem?_range hk]
  rfl
theorem zfs_len {σ : Nat → Nat} {h : AH} {i c : Nat} : (zfs σ h i c).length = znf c := by simp [zfs]
theorem zfs_setI {σ : Nat → Nat} {h : AH} {a c k : Nat} {v : Int32} (hf : zfk c k ≠ 1 ∧ zfk c k ≠ 2) : (zfs σ h a c).set k (.int v) = zfs σ (setI h a k v) a c := by
  refine zmap_set ?_ (fun j hj => ?_)
  · show zfv σ (setI h a k v) a c k = _
    unfold zfv
    rw [if_neg hf.1, if_neg hf.2, setI_eq]
    simp [upd]
  · show zfv σ (setI h a k v) a c j = zfv σ h a c j
    unfold zfv
    rw [setI_eq]
    simp only [upd, if_neg hj]
    rfl
theorem zfs_setL {σ : Nat → Nat} {h : AH} {a c k : Nat} {v : Int64} (hf : zfk c k = 1) : (zfs σ h a c).set k (.long v) = zfs σ (setL h a k v) a c := by
  refine zmap_set ?_ (fun j hj => ?_)
  · show zfv σ (setL h a k v) a c k = _
    unfold zfv
    rw [if_pos hf, setL_eq]
    simp [vp_updL]
  · show zfv σ (setL h a k v) a c j = zfv σ h a c j
    unfold zfv
    rw [setL_eq]
    simp only [vp_updL, if_neg hj]
    rfl
theorem zfs_setR {σ : Nat → Nat} {h : AH} {a c k : Nat} {v : Option Nat} (hf : zfk c k = 2) : (zfs σ h a c).set k (va_rf (v.map σ)) = zfs σ (setR h a k v) a c := by
  refine zmap_set ?_ (fun j hj => ?_)
  · show zfv σ (setR h a k v) a c k = _
    unfold zfv
    rw [if_neg (by rw [hf]; decide), if_pos hf, setR_eq]
    simp [va_up]
  · show zfv σ (setR h a k v) a c j = zfv σ h a c j
    unfold zfv
    rw [setR_eq]
    simp only [va_up, if_neg hj]
    rfl
theorem zent_obj {cA : Nat → ClassId} {X σ : Nat → Nat} {h : AH} {i c : Nat} (hk : hK h i = (10 + c, 0)) : zent cA X σ h i = .inr (c, zfs σ h i c) := by
  unfold zent
  rw [hk]
  simp only [if_neg (show ¬ 10 + c = 0 by omega), if_neg (show ¬ 10 + c = 1 by omega), if_neg (show ¬ 10 + c = 2 by omega), if_neg (show ¬ 10 + c = 3 by omega), if_neg (show ¬ 10 + c = 4 by omega), Nat.add_sub_cancel_left]
theorem zent_0 {cA : Nat → ClassId} {X σ : Nat → Nat} {h : AH} {i : Nat} (hk : (hK h i).1 = 0) : zent cA X σ h i = .inl (cA 0, (hK h i).2, .inl (hI h i)) := by
  unfold zent; rw [if_pos hk]
theorem zent_1 {cA : Nat → ClassId} {X σ : Nat → Nat} {h : AH} {i : Nat} (hk : (hK h i).1 = 1) : zent cA X σ h i = .inl (cA 1, (hK h i).2, .inl (hI h i)) := by
  unfold zent; rw [hk]; rfl
theorem zent_2 {cA : Nat → ClassId} {X σ : Nat → Nat} {h : AH} {i : Nat} (hk : (hK h i).1 = 2) : zent cA X σ h i = .inl (cA 2, (hK h i).2, .inr (.inl (hL h i))) := by
  unfold zent; rw [hk]; rfl
theorem zent_3 {cA : Nat → ClassId} {X σ : Nat → Nat} {h : AH} {i : Nat} (hk : (hK h i).1 = 3) : zent cA X σ h i = .inl (cA 3, (hK h i).2, .inr (.inr (.inr (.inr (fun k => (hR h i k).map σ))))) := by
  unfold zent; rw [hk]; rfl
theorem zent_4 {cA : Nat → ClassId} {X σ : Nat → Nat} {h : AH} {i : Nat} (hk : (hK h i).1 = 4) : zent cA X σ h i = .inl (cA 4, (hK h i).2, .inr (.inr (.inr (.inr (fun k => (hR h i k).map X))))) := by
  unfold zent; rw [hk]; rfl
