/-! SOUNDNESS, 6: contracts, calls. -/
def zW (m : Nat) : List Cond := zMW m :: zGB
def zrm (d mc ms : Nat) : Room := { frames := d + 24, cells := mc, slots := ms, locals := 60 * d + 300 }
def zB (D : va_G) (cA : Nat → ClassId) (X σ : Nat → Nat) (h : AH) (sz : Nat) : State → Prop := fun U => U.heap.size = sz ∧ va_P D zcls (zws cA X σ h) U.heap ∧ va_K D zcls (ztys cA) U ∧ va_D (fun _ => True) (zws cA X σ h) ∧ (∀ w ∈ zNB, va_Nw w U) ∧ zX U (va_A (zws cA X σ h) sz) X
def zPre (D : va_G) (cA : Nat → ClassId) (X σ : Nat → Nat) (h : AH) (as : List Value) (sz : Nat) : Array Value → State → Prop := va_Pc (as.map (zcv σ X)) (zB D cA X σ h sz)
def zAg (n : Nat) (σ σ' : Nat → Nat) : Prop := ∀ j, j < n → σ' j = σ j
def zPostR (D : va_G) (cA : Nat → ClassId) (X σ : Nat → Nat) (h h' : AH) (A : Nat → Prop) (v : Option Value) : Array Value → State → Outcome → State → Prop := fun _ st oc t =>
  (∃ σ' : Nat → Nat, zAg (hn h) σ σ' ∧ oc = .returned (v.map (zcv σ' X)) ∧ va_P D zcls (zws cA X σ' h') t.heap ∧ va_D A (zws cA X σ' h')) ∧ va_F A st t
def zPostX (D : va_G) (cA : Nat → ClassId) (X σ : Nat → Nat) (h h' : AH) (A : Nat → Prop) (x : Nat) : String → State → State → Prop :=
  vx_X (fun σ' : Nat → Nat => zAg (hn h) σ σ') (fun E σ' t => E = zXn x ∧ va_P D zcls (zws cA X σ' h') t.heap ∧ va_D A (zws cA X σ' h')) A
def zNo : Array Value → State → Outcome → State → Prop := va_Qi (S := Unit) (fun _ _ => False) (fun _ _ => True) (fun _ => False)
/-- what is known of a call of method m at depth d, on these arguments and this heap, with this answer -/
def zCon (d m : Nat) (as : List Value) (h : AH) (r : Ret) (h' : AH) : Prop := ∀ (l : Launch) (D : va_G) (cA : Nat → ClassId) (X σ : Nat → Nat) (sz : Nat), l.stackTraces = false →
  (∀ v, r = .inr v → Met l (zMY m) (zW m) (zrm d (hc h' - hc h) (hs h' - hs h)) (zPre D cA X σ h as sz) (zPostR D cA X σ h h' (va_A (zws cA X σ h) sz) v) (hc h' - hc h) (hs h' - hs h) (va_A (zws cA X σ h) sz)) ∧
  (∀ x, r = .inl x → zMH m = [] → vx_Met l (zMY m) (zW m) (zrm d (hc h' - hc h) (hs h' - hs h)) (zPre D cA X σ h as sz) zNo (zPostX D cA X σ h h' (va_A (zws cA X σ h) sz) x) (hc h' - hc h) (hs h' - hs h) (va_A (zws cA X σ h) sz))
/-- callees at depth d are as the machine has them -/
def zSnd (F : Cal) (d : Nat) : Prop := ∀ (m : Nat) (as : List Value) (h : AH) (r : Ret) (h' : AH), F m as h = some (r, h') → m < 239 → Sok (hn h) as → Hok h → zle h h' ∧ Hok h' ∧ zrok (hn h') r ∧ zCon d m as h r h'
theorem zGood (m : Nat) (h : zMok m) : GoodIn zBIG (zW m) := by
  intro w hw
  rcases List.mem_cons.mp hw with rfl | hw
  · exact ⟨zGB_in h.1, good_of_word (List.mem_filter.mp h.1).2⟩
  · exact ⟨zGB_in hw, good_of_word (List.mem_filter.mp hw).2⟩
theorem zNw_on {w : Cond} (h : zNw w = true) : w.onTables = true := by cases w <;> first | rfl | cases h
theorem zX.go {s U : State} {A B : Nat → Prop} {X : Nat → Nat} {H : Heap} (h : zX s A X) (hW : s.WarmedH U.vm) (hH : U.heap = H) (hS : ∀ q : Nat, q < s.heap.size → ¬ A q → H[q]? = s.heap[q]?) (hAB : ∀ q, B q → A q) : zX U B X := by
  obtain ⟨adV, h1, h2, h3, h4, h5, h6, h7, h8, h9⟩ := h
  subst hH
  exact ⟨adV, fun j hj => (h1 j hj).warm hW, ((h2.kept hS).narrow hAB).moved hW.alike, h3.moved hW.alike, h4.moved hW.alike, ((h5.kept hS).narrow hAB).moved hW.alike, ((h6.kept hS).narrow hAB).moved hW.alike, h7.moved hW.alike, ((h8.kept hS).narrow hAB).moved hW.alike, ((h9.kept hS).narrow hAB).moved hW.alike⟩
theorem zX.same {s U : State} {A : Nat → Prop} {X : Nat → Nat} (h : zX s A X) (hv : U.vm = s.vm) (hH : U.heap = s.heap) : zX U A X := by
  obtain ⟨adV, h1, h2, h3, h4, h5, h6, h7, h8, h9⟩ := h
  have hal : s.vm.Alike U.vm := by rw [hv]; exact Vm.Alike.refl _
  refine ⟨adV, fun j hj => (h1 j hj).same hv, ?_, h3.moved hal, h4.moved hal, ?_, ?_, h7.moved hal, ?_, ?_⟩
  · rw [hH]; exact h2.moved hal
  · rw [hH]; exact h5.moved hal
  · rw [hH]; exact h6.moved hal
  · rw [hH]; exact h8.moved hal
  · rw [hH]; exact h9.moved hal
theorem zPre_blind {D : va_G} {cA : Nat → ClassId} {X σ : Nat → Nat} {h : AH} {as : List Value} {sz : Nat} : FrameBlind (zPre D cA X σ h as sz) := by
  intro a U g mk ⟨h0, h1, h2, h3, h4, h5, h6⟩
  exact ⟨h0, h1, h2, va_K.moved (u := U) (U := U.calling g mk a) (Vm.Alike.refl U.vm) h3, h4, fun w hw => va_Nw.same (u := U) (U := U.calling g mk a) (zNw_on (List.mem_filter.mp hw).2) rfl (h5 w hw), h6.same rfl rfl⟩
/-- what a caller has to bring -/
theorem zPre_at {Γ : ZG} {cc : ByteArray} {own nm : String} {σ : Nat → Nat} {h : AH} {as : List Value}
    (p : Program) (l : Launch) (e : Env) (R : Room) (s : State) (m : MethodId) (args : Array Value) (below : List Frame) (meth : Method) (c : Code) (Q : State → Prop) (nL : Nat) (D : va_G) (cA : Nat → ClassId) (X : Nat → Nat) (A : Nat → Prop) (c0 s0 n0 : Nat) (σ0 : Nat → Nat)
    (hΓ : Γ = (p, l, e, R, s, m, args, below, meth, c, Q, nL, D, cA, X, A, c0, s0, n0, σ0)) (C : zCtx Γ cc own nm) (hX : zX s A X) {H : Heap} {locs : List Loc} (hP : va_P D zcls (zws cA X σ h) H) (hD : va_D A (zws cA X σ h)) (hS : va_S A s.heap H locs) :
    (∀ q, va_A (zws cA X σ h) H.size q → A q) ∧ ∀ U : State, U.heap = H → s.WarmedH U.vm → zPre D cA X σ h as H.size (as.map (zcv σ X)).toArray U := by
  subst hΓ
  obtain ⟨hx, hb, hml, hown, hts, hK0, hA, -⟩ := C
  have hF : ∀ q, va_A (zws cA X σ h) H.size q → A q := by
    intro q hq
    rcases hq with ⟨k, e, hk⟩ | hq
    · exact hD.2 k _ hk
    · exact hA q (Nat.le_trans hS.1 hq)
  refine ⟨hF, fun U hU hW => ⟨rfl, by rw [hU], by rw [hU]; exact hP, hK0.moved hW.alike, hD.weaken (fun _ _ _ _ => trivial), fun w hw => ?_, hX.go hW hU hS.2.1 hF⟩⟩
  have hw2 := List.mem_filter.mp hw
  exact zNw_warm hW hw2.2 (va_Nw.of (zNw_on hw2.2) (hts w (zBIG_in hw2.1 (by rw [hw2.2]; simp))))
/-- behind a call that returned -/
theorem zret_go {Γ : ZG} {pc : Nat} {lo : LV} {h h' : AH} {v : Option Value} {σ : Nat → Nat}
    (p : Program) (l : Launch) (e : Env) (R : Room) (s : State) (m : MethodId) (args : Array Value) (below : List Frame) (meth : Method) (c : Code) (Q : State → Prop) (nL : Nat) (D : va_G) (cA : Nat → ClassId) (X : Nat → Nat) (A : Nat → Prop) (c0 s0 n0 : Nat) (σ0 : Nat → Nat)
    (hΓ : Γ = (p, l, e, R, s, m, args, below, meth, c, Q, nL, D, cA, X, A, c0, s0, n0, σ0)) {a : Array Value} {st0 : List Value} {H : Heap} {locs : List Loc} {ls : Array Slot} {rest : List Value}
    (h1 : Lok (hn h) lo) (h2 : Sok (hn h) rest) (hle : zle h h') (g4 : c0 ≤ hc h) (g5 : s0 ≤ hs h) (hF : ∀ q, va_A (zws cA X σ h) H.size q → A q)
    (hr : va_Run p l e R s m args below meth c H locs (hc h - c0) (hs h - s0) (hc h' - hc h) (hs h' - hs h) (F0 m pc ls st0) (rest.map (zcv σ X)) (zPostR D cA X σ h h' (va_A (zws cA X σ h) H.size) v a) (va_A (zws cA X σ h) H.size))
    (hag0 : zAgr n0 σ0 h σ) (hS : va_S A s.heap H locs) (hl : lv_has ls nL (zlo X σ lo)) (K : zSat Γ (pc + 3) lo (v.toList ++ rest) h') : W p l e R s m args below meth c H locs (hc h - c0) (hs h - s0) Q (F0 m pc ls st0) := by
  subst hΓ
  intro T hT XT
  obtain ⟨w, st₀, t, T', L, q0, X', hL, e1, e2, ⟨⟨σ', hag, hv, hP', hD'⟩, hz, hk⟩, st⟩ := hr T hT XT
  cases hv
  rw [q0] at hz hk
  have hS' : va_S A s.heap T'.heap (locs ++ L) := ⟨Nat.le_trans hS.1 (by rw [e1]; exact hz), fun q h1 h2 => by rw [e1, hk q (Nat.lt_of_lt_of_le h1 hS.1) (fun z => h2 (hF q z))]; exact hS.2.1 q h1 h2, fun q hq => by
      rcases List.mem_append.mp hq with h | h
      · exact hS.2.2 q h
      · exact hF _ (hL q h)⟩
  have K2 := K σ' T'.heap (locs ++ L) ls ⟨Nat.le_trans hag0.1 hle.1, fun j hj => (hag j (Nat.lt_of_lt_of_le hj hag0.1)).trans (hag0.2 j hj)⟩ (by rw [e1]; exact hP') (hD'.weaken (fun _ q _ hq => hF _ hq)) hS' (by rw [zlo_agr hag h1]; exact hl)
  rw [List.map_append, zst_agr hag h2] at K2
  obtain ⟨k1, k2, k3⟩ := hle
  rw [show hc h' - c0 = hc h - c0 + (hc h' - hc h) by omega, show hs h' - s0 = hs h - s0 + (hs h' - hs h) by omega] at K2
  obtain ⟨t2, a1, b1⟩ := K2 T' rfl X'
  refine ⟨t2, st t2 ?_, b1⟩
  have e3 : (v.map (zcv σ' X)).toList = v.toList.map (zcv σ' X) := by cases v <;> rfl
  rw [e3]
  exact a1
/-- where a call stands in the code, and by which way it goes: 0 by the receiver, 1 static, 2 a constructor, 3 to 5 the same of a nest mate, 6 static with handlers -/
def zSite (cc : ByteArray) (own : String) (pc idx m n vc kind : Nat) : Prop :=
  (kind = 0 ∧ decode cc pc = .ok (.invokevirtual idx, 3) ∧ Cond.methodLink own idx (zMY m) ∈ zBIG ∧ Cond.instanceMethod (zMY m) ∈ zBIG ∧ Cond.selects (zMY m).cls (zMY m) (zMY m) ∈ zBIG ∧ zMH m = [] ∧ 1 ≤ n ∧ (parseMethodDescriptor (zMY m).desc).map (fun d => d.parameters.length) = some (n - 1) ∧ (∃ q, zcls[vc]? = some q ∧ q.1 = (zMY m).cls)) ∨
  (kind = 1 ∧ decode cc pc = .ok (.invokestatic idx, 3) ∧ Cond.methodLink own idx (zMY m) ∈ zBIG ∧ Cond.static (zMY m) ∈ zBIG ∧ zMH m = [] ∧ (parseMethodDescriptor (zMY m).desc).map (fun d => d.parameters.length) = some n) ∨
  (kind = 2 ∧ decode cc pc = .ok (.invokespecial idx, 3) ∧ Cond.methodLink own idx (zMY m) ∈ zBIG ∧ Cond.instanceMethod (zMY m) ∈ zBIG ∧ (zMY m).name = "<init>" ∧ zMR m = none ∧ zMH m = [] ∧ 1 ≤ n ∧ (parseMethodDescriptor (zMY m).desc).map (fun d => d.parameters.length) = some (n - 1)) ∨
  (kind = 3 ∧ decode cc pc = .ok (.invokevirtual idx, 3) ∧ Cond.methodLinkNest own idx (zMY m) "TollTags" ∈ zBIG ∧ Cond.instanceMethod (zMY m) ∈ zBIG ∧ Cond.selects (zMY m).cls (zMY m) (zMY m) ∈ zBIG ∧ zMH m = [] ∧ 1 ≤ n ∧ (parseMethodDescriptor (zMY m).desc).map (fun d => d.parameters.length) = some (n - 1) ∧ (∃ q, zcls[vc]? = some q ∧ q.1 = (zMY m).cls)) ∨
  (kind = 4 ∧ decode cc pc = .ok (.invokestatic idx, 3) ∧ Cond.methodLinkNest own idx (zMY m) "TollTags" ∈ zBIG ∧ Cond.static (zMY m) ∈ zBIG ∧ zMH m = [] ∧ (parseMethodDescriptor (zMY m).desc).map (fun d => d.parameters.length) = some n) ∨
  (kind = 5 ∧ decode cc pc = .ok (.invokespecial idx, 3) ∧ Cond.methodLinkNest own idx (zMY m) "TollTags" ∈ zBIG ∧ Cond.instanceMethod (zMY m) ∈ zBIG ∧ (zMY m).name = "<init>" ∧ zMR m = none ∧ zMH m = [] ∧ 1 ≤ n ∧ (parseMethodDescriptor (zMY m).desc).map (fun d => d.parameters.length) = some (n - 1)) ∨
  (kind = 6 ∧ decode cc pc = .ok (.invokestatic idx, 3) ∧ Cond.methodLink own idx (zMY m) ∈ zBIG ∧ Cond.static (zMY m) ∈ zBIG ∧ zMH m ≠ [] ∧ (parseMethodDescriptor (zMY m).desc).map (fun d => d.parameters.length) = some n)
theorem zSite_0 {cc : ByteArray} {own : String} {pc idx m n vc : Nat} (h : zSite cc own pc idx m n vc 0) : decode cc pc = .ok (.invokevirtual idx, 3) := by
  rcases h with ⟨-, h, -⟩ | ⟨h, -⟩ | ⟨h, -⟩ | ⟨h, -⟩ | ⟨h, -⟩ | ⟨h, -⟩ | ⟨h, -⟩
  · exact h
  all_goals cases h
theorem zrcv_ref {h : AH} {c : Nat} {as : List Value} (h1 : zrcv h c as = true) : ∃ a t, as = .ref a :: t ∧ hK h a = (10 + c, 0) := by
  unfold zrcv at h1
  split at h1
  · exact ⟨_, _, rfl, of_decide_eq_true h1⟩
  · cases h1
theorem zW_code {m : Nat} (h : zMH m = []) : zW m = .code (zMY m) (zMB m) (zML m) (zMR m) :: zGB := by
  unfold zW zMW
  rw [if_pos h]
theorem zW_with {m : Nat} (h : zMH m ≠ []) : zW m = .codeWith (zMY m) (zMB m) (zML m) (zMR m) (zMH m) :: zGB := by
  unfold zW zMW
  rw [if_neg h]
theorem zstk {st : List Value} {n : Nat} {f : Value → Value} : st.map f = ((st.take n).reverse.map f).reverse ++ (st.drop n).map f := by
  rw [← List.map_reverse, List.reverse_reverse, ← List.map_append, List.take_append_drop]
/-- the run of a call, from the callee's contract -/
theorem zrun_of {Γ : ZG} {cc : ByteArray} {own nm : String} {pc idx m n vc kind d mc ms : Nat} {σ : Nat → Nat} {h : AH} {st : List Value} {Qc : Array Value → State → Outcome → State → Prop} {free : Nat → Prop}
    (p : Program) (l : Launch) (e : Env) (R : Room) (s : State) (mi : MethodId) (args : Array Value) (below : List Frame) (meth : Method) (c : Code) (Q : State → Prop) (nL : Nat) (D : va_G) (cA : Nat → ClassId) (X : Nat → Nat) (A : Nat → Prop) (c0 s0 n0 : Nat) (σ0 : Nat → Nat)
    (hΓ : Γ = (p, l, e, R, s, mi, args, below, meth, c, Q, nL, D, cA, X, A, c0, s0, n0, σ0)) (C : zCtx Γ cc own nm) (hX : zX s A X) (hm : zMok m) (site : zSite cc own pc idx m n vc kind)
    (hR : d + 25 ≤ R.frames ∧ 60 * d + 360 ≤ R.locals) (hst : n ≤ st.length ∧ zbelow n st ≤ 8) (hrc : (kind = 0 ∨ kind = 2 ∨ kind = 3 ∨ kind = 5) → zrcv h vc (st.take n).reverse = true) (hrf : Sok (hn h) st) {H : Heap} {locs : List Loc} {ls : Array Slot} {lv : List (Nat × Value)} {cells slots : Nat} (hP : va_P D zcls (zws cA X σ h) H) (hD : va_D A (zws cA X σ h)) (hS : va_S A s.heap H locs)
    (hl : lv_has ls nL lv) (hcs : cells + mc ≤ R.cells ∧ slots + ms ≤ R.slots)
    (hM : Met l (zMY m) (zW m) (zrm d mc ms) (zPre D cA X σ h (st.take n).reverse H.size) Qc mc ms free) :
    va_Run p l e R s mi args below meth c H locs cells slots mc ms (F0 mi pc ls (st.map (zcv σ X))) ((st.drop n).map (zcv σ X)) (Qc (((st.take n).reverse).map (zcv σ X)).toArray) free := by
  subst hΓ
  have hpre := (zPre_at (as := (st.take n).reverse) p l e R s mi args below meth c Q nL D cA X A c0 s0 n0 σ0 rfl C hX hP hD hS).2
  obtain ⟨hx, hb, hml, hown, hts, hK0, hA, -⟩ := C
  have hw8 : ((((st.drop n).map (zcv σ X))).map fun v => v.category).sum ≤ 8 := by
    rw [List.map_map, show ((fun v => v.category) ∘ zcv σ X) = fun v => v.category from funext fun v => zcv_cat σ X v]
    exact hst.2
  have hlen : (st.take n).reverse.length = n := by rw [List.length_reverse, List.length_take]; omega
  obtain ⟨m1, m2, m3, m4, m5⟩ := hm
  have hRR : (zrm d mc ms).frames + 1 ≤ R.frames ∧ 8 + (zML m + 11) + (zrm d mc ms).locals ≤ R.locals := ⟨hR.1, by show 8 + (zML m + 11) + (60 * d + 300) ≤ R.locals; omega⟩
  have hF : CallFix p mi c cc nL s args zBIG own := ⟨hx, hb, hml, hown, hts⟩
  have hG := zGood m ⟨m1, m2, m3, m4, m5⟩
  rcases site with ⟨rfl, d1, w1, w2, w3, w4, n1, n2, q, q1, q2⟩ | ⟨rfl, d1, w1, w2, w4, n2⟩ | ⟨rfl, d1, w1, w2, w3, w4, w5, n1, n2⟩ | ⟨rfl, d1, w1, w2, w3, w4, n1, n2, q, q1, q2⟩ | ⟨rfl, d1, w1, w2, w4, n2⟩ | ⟨rfl, d1, w1, w2, w3, w4, w5, n1, n2⟩ | ⟨rfl, d1, w1, w2, w4, n2⟩
  · obtain ⟨a, t, ht, hka⟩ := zrcv_ref (hrc (Or.inl rfl))
    have han : a < hn h := by
      have : Value.ref a ∈ st := List.mem_of_mem_take (List.mem_reverse.mp (by rw [ht]; exact List.mem_cons_self))
      exact hrf _ this
    have he := (zws_get (cA := cA) (X := X) (σ := σ) han).trans (congrArg (fun z => some (σ a, z)) (zent_obj hka))
    have hrecv := va_recv hK0 hP q1 he
    rw [q2] at hrecv
    have hstk := zstk (st := st) (n := n) (f := zcv σ X)
    rw [ht] at hpre hM hstk hlen ⊢
    refine va_runV (index := idx) (bytes := zMB m) (maxL := zML m) (ret := zMR m) (n := n - 1) hF hM ⟨callB_of (ws' := zGB) (n - 1) hts hG (zW_code w4) rfl rfl (hts _ m2) (hts _ w1) ⟨m3.1, m3.2, n2⟩ hRR, hts _ w2, hts _ w3⟩ ⟨zPre_blind, hrecv, hpre⟩ rfl (by simp only [List.length_map, List.length_cons] at hlen ⊢; omega) hl.1 ?_ (lv_room hw8) d1 hcs
    show st.map (zcv σ X) = _
    rw [hstk]
    simp
    rfl
  · refine va_runS (index := idx) (bytes := zMB m) (maxL := zML m) (ret := zMR m) (n := n) hF hM ⟨callB_of (ws' := zGB) n hts hG (zW_code w4) rfl rfl (hts _ m2) (hts _ w1) ⟨m3.1, m3.2, n2⟩ hRR, hts _ w2⟩ ⟨zPre_blind, hpre⟩ rfl (by rw [List.length_map]; exact hlen) hl.1 zstk (lv_room hw8) d1 hcs
  · have hcode := zW_code w5
    rw [w4] at hcode
    obtain ⟨a, t, ht, -⟩ := zrcv_ref (hrc (Or.inr (Or.inl rfl)))
    have hstk := zstk (st := st) (n := n) (f := zcv σ X)
    rw [ht] at hpre hM hstk hlen ⊢
    refine va_runI (index := idx) (bytes := zMB m) (maxL := zML m) (n := n - 1) hF hM ⟨callB_of (ws' := zGB) (n - 1) hts hG hcode rfl rfl (hts _ m2) (hts _ w1) ⟨m3.1, m3.2, n2⟩ hRR, w3, hts _ w2⟩ ⟨zPre_blind, hpre⟩ rfl (by simp only [List.length_map, List.length_cons] at hlen ⊢; omega) hl.1 ?_ (lv_room hw8) d1 hcs
    show st.map (zcv σ X) = _
    rw [hstk]
    simp
    rfl
  · obtain ⟨a, t, ht, hka⟩ := zrcv_ref (hrc (Or.inr (Or.inr (Or.inl rfl))))
    have han : a < hn h := by
      have : Value.ref a ∈ st := List.mem_of_mem_take (List.mem_reverse.mp (by rw [ht]; exact List.mem_cons_self))
      exact hrf _ this
    have he := (zws_get (cA := cA) (X := X) (σ := σ) han).trans (congrArg (fun z => some (σ a, z)) (zent_obj hka))
    have hrecv := va_recv hK0 hP q1 he
    rw [q2] at hrecv
    have hstk := zstk (st := st) (n := n) (f := zcv σ X)
    rw [ht] at hpre hM hstk hlen ⊢
    refine va_runVN (index := idx) (bytes := zMB m) (maxL := zML m) (ret := zMR m) (n := n - 1) hF hM ⟨va_cnB (ws' := zGB) (n - 1) hts hG (zW_code w4) rfl rfl (va_Nw.of rfl (hts _ w1)) (hts _ m2) ⟨m3.1, m3.2, n2⟩ hRR, hts _ w2, hts _ w3⟩ ⟨zPre_blind, hrecv, hpre⟩ rfl (by simp only [List.length_map, List.length_cons] at hlen ⊢; omega) hl.1 ?_ (lv_room hw8) d1 hcs
    show st.map (zcv σ X) = _
    rw [hstk]
    simp
    rfl
  · refine va_runSN (index := idx) (bytes := zMB m) (maxL := zML m) (ret := zMR m) (n := n) hF hM ⟨va_cnB (ws' := zGB) n hts hG (zW_code w4) rfl rfl (va_Nw.of rfl (hts _ w1)) (hts _ m2) ⟨m3.1, m3.2, n2⟩ hRR, hts _ w2, trivial⟩ ⟨zPre_blind, hpre⟩ rfl (by rw [List.length_map]; exact hlen) hl.1 zstk (lv_room hw8) d1 hcs
  · have hcode := zW_code w5
    rw [w4] at hcode
    obtain ⟨a, t, ht, -⟩ := zrcv_ref (hrc (Or.inr (Or.inr (Or.inr rfl))))
    have hstk := zstk (st := st) (n := n) (f := zcv σ X)
    rw [ht] at hpre hM hstk hlen ⊢
    refine va_runIN (index := idx) (bytes := zMB m) (maxL := zML m) (n := n - 1) hF hM ⟨va_cnB (ws' := zGB) (n - 1) hts hG hcode rfl rfl (va_Nw.of rfl (hts _ w1)) (hts _ m2) ⟨m3.1, m3.2, n2⟩ hRR, w3, hts _ w2⟩ ⟨zPre_blind, hpre⟩ rfl (by simp only [List.length_map, List.length_cons] at hlen ⊢; omega) hl.1 ?_ (lv_room hw8) d1 hcs
    show st.map (zcv σ X) = _
    rw [hstk]
    simp
    rfl
  · refine vx_runSW (index := idx) (bytes := zMB m) (maxL := zML m) (ret := zMR m) (hh := zMH m) (n := n) hF hM (vx_cwSW (ws' := zGB) n hts (fun w hw => ?_) (zW_with w4) rfl rfl ⟨m3.1, m3.2, n2⟩ hRR) ⟨zPre_blind, hpre⟩ rfl (by rw [List.length_map]; exact hlen) hl.1 zstk (lv_room hw8) d1 hcs
    unfold va_wsS at hw
    rcases List.mem_append.mp hw with hw | hw
    · simp only [List.mem_cons, List.not_mem_nil, or_false] at hw
      rcases hw with rfl | rfl | rfl
      · exact ⟨w1, Or.inl rfl⟩
      · exact ⟨w2, Or.inl rfl⟩
      · exact ⟨m2, Or.inl rfl⟩
    · exact hG w hw
/-- a call that must return -/
theorem S_calln {Γ : ZG} {cc : ByteArray} {bp : Nat → Nat} {pc : Nat} {k : Kt} {J : Nat → Kt} {E : Evn} {i : MI} {own nm : String} {g : Kt → LV → List Value → AH → Option Value → Option Out} {idx kind d : Nat} (C : zCtx Γ cc own nm) (hX : zX (gS Γ) (gA Γ) (gX Γ)) (hF : zSnd E.1 d) (hT : Γ.2.1.stackTraces = false)
    (hm : zMok i.2.2.1) (hm2 : i.2.2.1 < 239) (site : zSite cc own pc idx i.2.2.1 i.2.2.2.1 (i.2.2.2.2.1 % 100) kind) (hv : i.2.2.2.2.1 % 100 = 99 → ¬ (kind = 0 ∨ kind = 2 ∨ kind = 3 ∨ kind = 5)) (hR : d + 25 ≤ Γ.2.2.2.1.frames ∧ 60 * d + 360 ≤ Γ.2.2.2.1.locals)
    (hg : ∀ lo st h v o, g k lo st h v = some o → k lo (v.toList ++ st) h = some o) (hk : zOk Γ cc bp (pc + 3) k) : zOk Γ cc bp pc (z_calln g E k J i) :=
  hk.to (fun lo st h o ho h1 h2 h3 => by
    unfold z_calln at ho
    split at ho
    · rename_i hz
      split at ho
      · rename_i v h' hcall
        obtain ⟨q1, q2, q3, q4⟩ := hF _ _ _ _ _ hcall hm2 (fun v hv => h2 v (List.mem_of_mem_take (List.mem_reverse.mp hv))) h3
        have hrest : Sok (hn h) (st.drop i.2.2.2.1) := fun v hv => h2 v (List.mem_of_mem_drop hv)
        refine ⟨lo, _, h', hg _ _ _ _ _ ho, h1.up q1.1, fun w hw => ?_, q2, q1, fun f1 f2 g4 g5 K => ?_⟩
        · rcases List.mem_append.mp hw with hw | hw
          · cases v with
            | none => cases hw
            | some v => rw [List.mem_singleton.mp hw]; exact q3
          · exact (hrest.up q1.1) w hw
        · obtain ⟨p, l, e, R, s, m, args, below, meth, c, Q, nL, D, cA, X, A, c0, s0, n0, σ0⟩ := Γ
          intro σ H locs ls hag hP hD hS hl
          dsimp only at f1 f2 g4 g5 hT hR
          obtain ⟨k1, k2, k3⟩ := q1
          have hF1 := (zPre_at (as := []) p l e R s m args below meth c Q nL D cA X A c0 s0 n0 σ0 rfl C hX hP hD hS).1
          have hM := (q4 l D cA X σ H.size hT).1 v rfl
          have hrun := zrun_of p l e R s m args below meth c Q nL D cA X A c0 s0 n0 σ0 rfl C hX hm site hR ⟨hz.1, hz.2.1⟩ (fun hk2 => hz.2.2.elim (fun z => absurd hk2 (hv z)) id) h2 (cells := hc h - c0) (slots := hs h - s0) hP hD hS hl ⟨by omega, by omega⟩ hM
          exact zret_go p l e R s m args below meth c Q nL D cA X A c0 s0 n0 σ0 rfl h1 hrest ⟨k1, k2, k3⟩ g4 g5 hF1 hrun hag hS hl K
      · cases ho
    · cases ho)
/-- what a handler of this frame does with a thrown x at pc -/
def zCat (Γ : ZG) (cc : ByteArray) (pc : Nat) (hd : Nat → Option Int32) : Prop := match Γ with
  | (p, l, e, R, s, m, args, below, meth, c, Q, nL, D, cA, X, A, c0, s0, n0, σ0) => ∀ (x : Nat) (r : Int32), hd x = some r → ∀ (σ : Nat → Nat) (H : Heap) (locs : List Loc) (h' : AH), zEnd Γ cc (.inr (some (.int r))) h' → zAgr n0 σ0 h' σ → va_P D zcls (zws cA X σ h') H → va_D A (zws cA X σ h') → va_S A s.heap H locs → ∀ (ls : Array Slot) (lv : List (Nat × Value)) (rest : List Value) (q : Addr) (ce : Cell), lv_has ls nL lv → H[q]? = some ce → ce.vm = .none → s.vm.findClass (zXn x) = some ce.cls → vx_W p l e R s m args below meth c H locs (hc h' - c0) (hs h' - s0) Q (F0 m pc ls rest) q
theorem S_call {Γ : ZG} {cc : ByteArray} {bp : Nat → Nat} {pc : Nat} {k : Kt} {J : Nat → Kt} {E : Evn} {i : MI} {own nm : String} {g : Kt → LV → List Value → AH → Option Value → Option Out} {idx d : Nat} (C : zCtx Γ cc own nm) (hX : zX (gS Γ) (gA Γ) (gX Γ)) (hF : zSnd E.1 d) (hT : Γ.2.1.stackTraces = false)
    (hm : zMok i.2.2.1) (hm2 : i.2.2.1 < 239) (site : zSite cc own pc idx i.2.2.1 i.2.2.2.1 (i.2.2.2.2.1 % 100) 0) (hR : d + 25 ≤ Γ.2.2.2.1.frames ∧ 60 * d + 360 ≤ Γ.2.2.2.1.locals) (hcat : zCat Γ cc pc E.2.1)
    (hg : ∀ lo st h v o, g k lo st h v = some o → k lo (v.toList ++ st) h = some o) (hk : zOk Γ cc bp (pc + 3) k) : zOk Γ cc bp pc (z_call g E k J i) := by
  have hN := S_calln (J := J) C hX hF hT hm hm2 site (fun hv => by
    rcases site with ⟨-, -, -, -, -, -, -, -, q, q1, -⟩ | ⟨h0, -⟩ | ⟨h0, -⟩ | ⟨h0, -⟩ | ⟨h0, -⟩ | ⟨h0, -⟩ | ⟨h0, -⟩
    · rw [hv] at q1; cases q1
    all_goals cases h0) hR hg hk
  obtain ⟨p, l, e, R, s, m, args, below, meth, c, Q, nL, D, cA, X, A, c0, s0, n0, σ0⟩ := Γ
  intro lo st h o ho h1 h2 h3 h4 h5
  unfold z_call at ho
  split at ho
  · rename_i hz
    split at ho
    · rename_i v h' hcall
      refine hN lo st h o ?_ h1 h2 h3 h4 h5
      unfold z_calln
      rw [if_pos ⟨hz.1, zsum4 (n := 4) _ (by rw [List.length_drop]; omega), Or.inr hz.2.2⟩, hcall]
      exact ho
    · rename_i x h' hcall
      obtain ⟨q1, q2, q3, q4⟩ := hF _ _ _ _ _ hcall hm2 (fun v hv => h2 v (List.mem_of_mem_take (List.mem_reverse.mp hv))) h3
      have hsat : ∀ (hx0 : ∀ (σ : Nat → Nat) (H : Heap) (locs : List Loc) (ls : Array Slot) (lv : List (Nat × Value)) (rest : List Value) (q : Addr) (ce : Cell), zAgr n0 σ0 h' σ → va_P D zcls (zws cA X σ h') H → va_D A (zws cA X σ h') → va_S A s.heap H locs → lv_has ls nL lv → H[q]? = some ce → ce.vm = .none → s.vm.findClass (zXn x) = some ce.cls → vx_W p l e R s m args below meth c H locs (hc h' - c0) (hs h' - s0) Q (F0 m pc ls rest) q),
          hc h' - c0 ≤ R.cells → hs h' - s0 ≤ R.slots → zSat (p, l, e, R, s, m, args, below, meth, c, Q, nL, D, cA, X, A, c0, s0, n0, σ0) pc lo st h := by
        intro hx0 f2 f3 σ H locs ls hag hP hD hS hl
        dsimp only at hT hR
        obtain ⟨k1, k2, k3⟩ := q1
        have hF1 := (zPre_at (as := (st.take i.2.2.2.1).reverse) p l e R s m args below meth c Q nL D cA X A c0 s0 n0 σ0 rfl C hX hP hD hS).1
        have hpre := (zPre_at (as := (st.take i.2.2.2.1).reverse) p l e R s m args below meth c Q nL D cA X A c0 s0 n0 σ0 rfl C hX hP hD hS).2
        obtain ⟨hx, hb, hml, hown, hts, hK0, hA, -⟩ := C
        rcases site with ⟨-, d1, w1, w2, w3, w4, n1, n2, q, r1, r2⟩ | ⟨h0, -⟩ | ⟨h0, -⟩ | ⟨h0, -⟩ | ⟨h0, -⟩ | ⟨h0, -⟩ | ⟨h0, -⟩
        · have hM := (q4 l D cA X σ H.size hT).2 x rfl w4
          have hw8 : ((((st.drop i.2.2.2.1).map (zcv σ X))).map fun v => v.category).sum ≤ 8 := zsum4 (n := 4) _ (by rw [List.length_map, List.length_drop]; omega)
          have hlen : (st.take i.2.2.2.1).reverse.length = i.2.2.2.1 := by rw [List.length_reverse, List.length_take]; omega
          have hG := zGood i.2.2.1 hm
          obtain ⟨m1, m2, m3, m4, m5⟩ := hm
          have hRR : (zrm d (hc h' - hc h) (hs h' - hs h)).frames + 1 ≤ R.frames ∧ 8 + (zML i.2.2.1 + 11) + (zrm d (hc h' - hc h) (hs h' - hs h)).locals ≤ R.locals := ⟨hR.1, by show 8 + (zML i.2.2.1 + 11) + (60 * d + 300) ≤ R.locals; omega⟩
          have hFx : CallFix p m c cc nL s args zBIG own := ⟨hx, hb, hml, hown, hts⟩
          obtain ⟨a, t, ht, hka⟩ := zrcv_ref hz.2.2
          have han : a < hn h := by
            have : Value.ref a ∈ st := List.mem_of_mem_take (List.mem_reverse.mp (by rw [ht]; exact List.mem_cons_self))
            exact h2 _ this
          have he := (zws_get (cA := cA) (X := X) (σ := σ) han).trans (congrArg (fun z => some (σ a, z)) (zent_obj hka))
          have hrecv := va_recv hK0 hP r1 he
          rw [r2] at hrecv
          have hstk := zstk (st := st) (n := i.2.2.2.1) (f := zcv σ X)
          rw [ht] at hpre hM hstk hlen
          have hrun := vx_runV (meth := meth) (below := below) (e := e) (index := idx) (bytes := zMB i.2.2.1) (maxL := zML i.2.2.1) (ret := zMR i.2.2.1) (n := i.2.2.2.1 - 1) (g := F0 m pc ls (st.map (zcv σ X))) (rest := (st.drop i.2.2.2.1).map (zcv σ X)) (cells := hc h - c0) (slots := hs h - s0) (locs := locs) hFx hM ⟨callB_of (ws' := zGB) (i.2.2.2.1 - 1) hts hG (zW_code w4) rfl rfl (hts _ m2) (hts _ w1) ⟨m3.1, m3.2, n2⟩ hRR, hts _ w2, hts _ w3⟩ ⟨zPre_blind, hrecv, hpre⟩ rfl (by simp only [List.length_map, List.length_cons] at hlen ⊢; omega) hl.1 (by
            show st.map (zcv σ X) = _
            rw [hstk]
            simp
            rfl) (lv_room hw8) d1 ⟨by omega, by omega⟩
          refine vx_calli hrun hS (fun _ _ hq => hq.elim) (fun q hq => hF1 q hq) (fun q _ hq => hF1 q hq) (fun E2 ce q9 σ' t H1 locs1 hH1 hal hag2 hBX hz1 hk1 hS1 hq9 hcv hcl => ?_) (fun r u t H1 locs1 _ _ hpo _ _ _ _ => hpo.elim)
          obtain ⟨rfl, hP1, hD1⟩ := hBX
          rw [hH1] at hP1
          rw [show hc h - c0 + (hc h' - hc h) = hc h' - c0 by omega, show hs h - s0 + (hs h' - hs h) = hs h' - s0 by omega]
          exact hx0 σ' H1 locs1 ls _ _ q9 ce ⟨Nat.le_trans hag.1 k1, fun j hj => (hag2 j (Nat.lt_of_lt_of_le hj hag.1)).trans (hag.2 j hj)⟩ hP1 (hD1.weaken (fun _ q _ hq => hF1 _ hq)) hS1 hl hq9 hcv hcl
        all_goals cases h0
      unfold zthr at ho
      cases hh : E.2.1 x with
      | none =>
        rw [hh] at ho
        cases ho
        refine ⟨q1, ⟨trivial, q2⟩, fun f1 f2 f3 => hsat (fun σ H locs ls lv rest q ce hag hP hD hS _ g1 g2 g3 => (f1 σ H locs hag hP hD hS).1 pc ls rest q ce g1 g2 g3) f2 f3⟩
      | some r =>
        rw [hh] at ho
        cases ho
        refine ⟨q1, ⟨trivial, q2⟩, fun f1 f2 f3 => hsat (fun σ H locs ls lv rest q ce hag hP hD hS hl g1 g2 g3 => hcat x r hh σ H locs h' f1 hag hP hD hS ls lv rest q ce hl g1 g2 g3) f2 f3⟩
    · cases ho
  · cases ho
theorem zgi_ok {k : Kt} : ∀ lo st h v o, zgi k lo st h v = some o → k lo (v.toList ++ st) h = some o := by
  intro lo st h v o ho
  unfold zgi at ho
  split at ho
  · exact ho
  · cases ho
theorem zgl_ok {k : Kt} : ∀ lo st h v o, zgl k lo st h v = some o → k lo (v.toList ++ st) h = some o := by
  intro lo st h v o ho
  unfold zgl at ho
  split at ho
  · exact ho
  · cases ho
theorem zgv_ok {k : Kt} : ∀ lo st h v o, zgv k lo st h v = some o → k lo (v.toList ++ st) h = some o := by
  intro lo st h v o ho
  unfold zgv at ho
  split at ho
  · exact ho
  · cases ho
theorem zgr_ok {k : Kt} : ∀ lo st h v o, zgr k lo st h v = some o → k lo (v.toList ++ st) h = some o := by
  intro lo st h v o ho
  unfold zgr at ho
  split at ho
  · exact ho
  · exact ho
  · cases ho
