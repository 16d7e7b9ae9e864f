/-! THE LAW'S FRAME: from the core machine's answer to the law's end. -/
def zh0 : AH := (fun _ _ => 0, fun _ _ => 0, fun _ _ => none, fun _ => (0, 0), 0, 0, 0)
theorem zh0_ok : Hok zh0 := ⟨fun _ _ => ⟨fun _ => rfl, fun _ => rfl, fun _ => rfl⟩, fun _ _ _ _ h => by cases h⟩
theorem zInst : ∀ a, a < 13 → Cond.instantiable (zown a) (znf a) ∈ zBIG := by
  intro a ha
  have h : ∀ a, a < 13 → ∃ q ∈ zNwT, q.2.2 = a := by decide +kernel
  obtain ⟨q, hq, rfl⟩ := h a ha
  exact (zNwT_ok q hq).2.1
theorem zKn_all {s : State} {args : Array Value} (hts : ∀ w ∈ zBIG, w.before args s = true) : ∃ D : va_G, ∀ (c : Nat) (q : vw_C), zcls[c]? = some q → u_Kn s q.1 q.2.1 q.2.2 (D.1 c) (D.2 c) := by
  have h0 : ∀ c : Nat, ∃ r : ClassId × (Nat → Nat), ∀ q, zcls[c]? = some q → u_Kn s q.1 q.2.1 q.2.2 r.1 r.2 := by
    intro c
    cases hq : zcls[c]? with
    | none => exact ⟨(0, fun _ => 0), fun q h => by cases h⟩
    | some q =>
      have hc : c < 13 := (List.getElem?_eq_some_iff.mp hq).1
      obtain ⟨q2, hok⟩ := zCok_all c hc
      obtain ⟨e1, e2, e3, -⟩ := hok
      cases hq.symm.trans e1
      have hi := zInst c hc
      rw [← zcn_get hq] at hi
      obtain ⟨cC, iS, hk⟩ := u_known hts e3 (hts _ hi)
      exact ⟨(cC, iS), fun q' h => by cases h; exact hk⟩
  obtain ⟨f, hf⟩ := Classical.axiomOfChoice h0
  exact ⟨(fun c => (f c).1, fun c => (f c).2), fun c q h => hf c q h⟩
theorem zArr_all {s : State} {args : Array Value} (hts : ∀ w ∈ zBIG, w.before args s = true) (hT : va_AO "TollTags$Tariff" s) (hS : va_AO "java/lang/String" s) : ∃ cA : Nat → ClassId, ∀ (k : Nat) (q : ClassId × FieldType), (ztys cA)[k]? = some q → ArrOfT s q.1 q.2 ∧ va_RA s q.1 q.2 := by
  have hp : ∀ ty : FieldType, (ty = .int ∨ ty = .boolean ∨ ty = .long) → Cond.arrayClass ty ∈ zBIG → ∃ c : ClassId, ArrOfT s c ty ∧ va_RA s c ty := by
    intro ty hty hw
    obtain ⟨c, k, comp, h1, h2, h3⟩ := Cond.arrayClass_spec (hts _ hw)
    refine ⟨c, fun n z => ⟨fun k h => (by cases h), k, h2, comp, h3⟩, ?_⟩
    rcases hty with rfl | rfl | rfl <;> exact h1
  have hr : ∀ C : String, va_AO C s → ∃ c : ClassId, ArrOfT s c (.object C) ∧ va_RA s c (.object C) := by
    intro C h
    obtain ⟨comp, c, k, h1, h2, h3, h4, h5⟩ := Cond.arrayOver_spec h
    exact ⟨c, fun n z => ⟨fun k h => (by cases h), k, h3, comp, h4⟩, k, comp, h3, h4, h1, h5⟩
  obtain ⟨c0, a0⟩ := hp .int (Or.inl rfl) zw_ai
  obtain ⟨c1, a1⟩ := hp .boolean (Or.inr (Or.inl rfl)) zw_az
  obtain ⟨c2, a2⟩ := hp .long (Or.inr (Or.inr rfl)) zw_al
  obtain ⟨c3, a3⟩ := hr _ hT
  obtain ⟨c4, a4⟩ := hr _ hS
  refine ⟨fun i => [c0, c1, c2, c3, c4].getD i c0, fun k q h => ?_⟩
  match k, h with
  | 0, h => cases h; exact a0
  | 1, h => cases h; exact a1
  | 2, h => cases h; exact a2
  | 3, h => cases h; exact a3
  | 4, h => cases h; exact a4
  | n + 5, h => cases h
theorem zlaw_end {p : Program} {l : Launch} {e : Env} {s : State} {m : MethodId} {below : List Frame} {meth : Method} {c : Code} {b : Nat} (hx : p.tables.exec = Jvm.exec) (hb : c.code = code) (hr : meth.sig.returnType = ret) (hlocks : meth.locks = false) {pc : Nat} {H : Heap} {ls : Array Slot} {locs : List Loc} {k n : Nat} (hdg : decode code pc = .ok (.ireturn, 1)) (h1 : k ≤ 601024) (h2 : n ≤ 7293034) (hl : ∀ q ∈ locs, s.heap.size ≤ q.base) : W p l e room_1 s m #[Value.ref b] below meth c H locs k n (lw_Z below #[Value.ref b] s) (F0 m pc ls [.int 1]) := by
  refine va_forget hl ?_
  refine W.widen h1 h2 ?_
  exact lw_ret hx hb hr hlocks hdg
theorem law_core {p : Program} {e : Env} {s : State} {m : MethodId} {below : List Frame} {meth : Method} {c : Code} (l : Launch) (hT : l.stackTraces = false) {b L : Nat} {xs : Nat → Int32} (C0 : lw_At p s m meth c b L xs) {X : Nat → Nat} (hX : zX s (fun q => s.heap.size ≤ q) X) (hb99 : X 99 = b) {d : Nat} (hd : d ≤ 60) {h' : AH} (hz : zev xs L (d + 1) 239 [.float 99] zh0 = some (.inr (some (.int 1)), h')) (gc : hc h' ≤ 601024) (gs : hs h' ≤ 7293034) :
    W p l e room_1 s m #[Value.ref b] below meth c s.heap [] 0 0 (lw_Z below #[Value.ref b] s) (entryFrame m ([Value.ref b] : List Value).toArray 8) := by
  obtain ⟨hx, hb, hr, hml, hown, hts, hsc, hbl, hlocks, hgv, hname⟩ := C0
  have htb : ∀ w ∈ zBIG, w.before #[Value.ref b] s = true := fun w hw => hts w (List.mem_filter.mp hw).1
  obtain ⟨D, hD1⟩ := zKn_all htb
  have hX0 := hX
  obtain ⟨adV, -, -, hA1, hA2, -⟩ := hX0
  obtain ⟨cA, hcA⟩ := zArr_all htb hA1 hA2
  have hC : zCtx (p, l, e, room_1, s, m, #[Value.ref b], below, meth, c, lw_Z below #[Value.ref b] s, zML 239, D, cA, X, (fun q => s.heap.size ≤ q), 0, 0, 0, fun _ => 0) (zMB 239) (zown (zMO 239)) (zMY 239).name :=
    ⟨hx, hb, hml, hown, htb, ⟨hD1, hcA⟩, fun q h => h, hlocks, by show 8 ≤ 2048; omega, by show 200 ≤ 84000; omega, hname⟩
  have hFr : zFr (p, l, e, room_1, s, m, #[Value.ref b], below, meth, c, lw_Z below #[Value.ref b] s, zML 239, D, cA, X, (fun q => s.heap.size ≤ q), 0, 0, 0, fun _ => 0) 239 d (zev xs L d, zH 239, xs, L) := by
    refine ⟨hC, hX, zSnd_all xs L d, hT, ⟨by show d + 25 ≤ 2048; omega, by show 60 * d + 360 ≤ 84000; omega⟩, ⟨by show 20 ≤ 2048; omega, by show 260 ≤ 84000; omega⟩, rfl, hr, fun pc idx _ => ?_, fun _ => ?_, zsw_all hC⟩
    · intro x r h
      have h : zH 239 x = some r := h
      rw [zH_none (m := 239) rfl] at h
      cases h
    · refine ⟨?_, ?_, ?_⟩
      · show va_X (X 99) L xs s s.heap
        rw [hb99]; exact hsc
      · show X 99 < s.heap.size
        rw [hb99]; exact hbl
      · show ¬ s.heap.size ≤ X 99
        rw [hb99]; omega
  unfold zev at hz
  split at hz
  case isFalse => cases hz
  rename_i hlen
  obtain ⟨n, hn⟩ := zlim_to hz
  have hcd := zcd_239
  have hE : zEnd (p, l, e, room_1, s, m, #[Value.ref b], below, meth, c, lw_Z below #[Value.ref b] s, zML 239, D, cA, X, (fun q => s.heap.size ≤ q), 0, 0, 0, fun _ => 0) (zMB 239) (.inr (some (.int 1))) h' := by
    intro σ H locs _ _ _ hS pc ls hdg _
    exact zlaw_end hx hb hr hlocks hdg (by omega) (by omega) (fun q hq => hS.2.2 q hq)
  have K := zrun_S hFr hcd.1 (zev_P d) n 0 (lv_args 0 [.float 99]) zh0 _ h' hn (Lok.args [.float 99] 0 (fun v hv => by rw [List.mem_singleton.mp hv]; trivial)) zh0_ok (Nat.zero_le _) (Nat.zero_le _) hE (by show hc h' - 0 ≤ 601024; omega) (by show hs h' - 0 ≤ 7293034; omega)
  have hl := lv_entry ([.ref b]) (n := 8) (Nat.le_of_ble_eq_true rfl)
  have hl2 : lv_has (lg_sl ([.ref b]) ++ List.replicate (8 - (lg_sl ([.ref b])).length) Slot.unset).toArray (zML 239) (zlo X (fun _ => 0) (lv_args 0 [.float 99])) := by
    have e1 : zlo X (fun _ => 0) (lv_args 0 [.float 99]) = [(0, .ref b)] := by rw [← hb99]; rfl
    rw [e1]
    exact hl
  have hw0 : zws cA X (fun _ => 0) zh0 = [] := rfl
  have hP0 : va_P D zcls (zws cA X (fun _ => 0) zh0) s.heap := by
    rw [hw0]
    intro k q h
    cases h
  have hD0 : va_D (fun q => s.heap.size ≤ q) (zws cA X (fun _ => 0) zh0) := by
    rw [hw0]
    exact ⟨fun i j p q h _ _ => (by cases h), fun k q h => (by cases h)⟩
  have K2 := K (fun _ => 0) s.heap [] _ ⟨Nat.le_refl _, fun _ _ => rfl⟩ hP0 hD0 va_S.rf hl2
  rw [hcd.2] at K2
  rw [lg_entry_eq]
  exact K2
