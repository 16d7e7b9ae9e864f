/-! SOUNDNESS, 2: the instructions of stack and locals. -/
def zRow (Γ : ZG) (pc pc' : Nat) (st st' : List Value) : Prop := match Γ with
  | (p, l, e, R, s, m, args, below, meth, c, Q, _, _, _, _, _, _, _) => ∀ (H : Heap) (locs : List Loc) (cells slots : Nat) (ls : Array Slot), W p l e R s m args below meth c H locs cells slots Q (F0 m pc' ls st') → W p l e R s m args below meth c H locs cells slots Q (F0 m pc ls st)
theorem zOk.row {Γ : ZG} {cc : ByteArray} {bp : Nat → Nat} {pc pc' : Nat} {k k' : Kt} (hk : zOk Γ cc bp pc' k)
    (hs : ∀ lo st h o, k' lo st h = some o → Sok (hn h) st → ∃ st', k lo st' h = some o ∧ Sok (hn h) st' ∧ ∀ σ X, zRow Γ pc pc' (st.map (zcv σ X)) (st'.map (zcv σ X))) : zOk Γ cc bp pc k' :=
  hk.st (fun lo st h o ho h1 h2 h3 => by
    obtain ⟨st', g1, g2, g3⟩ := hs lo st h o ho h2
    refine ⟨lo, st', g1, h1, g2, ?_⟩
    obtain ⟨p, l, e, R, s, m, args, below, meth, c, Q, nL, D, cA, X, A, c0, s0, n0, σ0⟩ := Γ
    intro K σ H locs ls hag hP hD hS hl
    exact g3 σ X H locs _ _ ls (K σ H locs ls hag hP hD hS hl))
def zBr (Γ : ZG) (pc pc' tgt : Nat) (b : Bool) (st st' : List Value) : Prop := match Γ with
  | (p, l, e, R, s, m, args, below, meth, c, Q, _, _, _, _, _, _, _) => ∀ (H : Heap) (locs : List Loc) (cells slots : Nat) (ls : Array Slot), (b = true → W p l e R s m args below meth c H locs cells slots Q (F0 m tgt ls st')) → (b = false → W p l e R s m args below meth c H locs cells slots Q (F0 m pc' ls st')) → W p l e R s m args below meth c H locs cells slots Q (F0 m pc ls st)
theorem zOk.br {Γ : ZG} {cc : ByteArray} {bp : Nat → Nat} {pc pc' tgt : Nat} {k k2 k' : Kt} (hk : zOk Γ cc bp pc' k) (hj : zOk Γ cc bp tgt k2)
    (hs : ∀ lo st h o, k' lo st h = some o → Sok (hn h) st → ∃ (st' : List Value) (b : Bool), (b = true → k2 lo st' h = some o) ∧ (b = false → k lo st' h = some o) ∧ Sok (hn h) st' ∧ ∀ σ X, zBr Γ pc pc' tgt b (st.map (zcv σ X)) (st'.map (zcv σ X))) : zOk Γ cc bp pc k' := by
  obtain ⟨p, l, e, R, s, m, args, below, meth, c, Q, nL, D, cA, X, A, c0, s0, n0, σ0⟩ := Γ
  intro lo st h o ho h1 h2 h3 h4 h5
  obtain ⟨st', b, g1, g2, g3, g4⟩ := hs lo st h o ho h2
  cases b with
  | true =>
    obtain ⟨a1, a2, a3⟩ := hj lo st' h o (g1 rfl) h1 g3 h3 h4 h5
    exact ⟨a1, a2, fun f1 f2 f3 σ H locs ls hag hP hD hS hl => g4 σ X H locs _ _ ls (fun _ => a3 f1 f2 f3 σ H locs ls hag hP hD hS hl) (fun q => by cases q)⟩
  | false =>
    obtain ⟨a1, a2, a3⟩ := hk lo st' h o (g2 rfl) h1 g3 h3 h4 h5
    exact ⟨a1, a2, fun f1 f2 f3 σ H locs ls hag hP hD hS hl => g4 σ X H locs _ _ ls (fun q => by cases q) (fun _ => a3 f1 f2 f3 σ H locs ls hag hP hD hS hl)⟩
section S
variable {Γ : ZG} {cc : ByteArray} {bp : Nat → Nat} {pc pc' tgt : Nat} {k : Kt} {J : Nat → Kt} {E : Evn} {i : MI} {own nm : String}
theorem S_const (hk : zOk Γ cc bp pc' k) (row : ∀ rest, zRow Γ pc pc' rest (.int i.2.2.2.2.2 :: rest)) : zOk Γ cc bp pc (z_const E k J i) :=
  hk.row (fun lo st h o ho h2 => ⟨_, ho, Sok.cons trivial h2, fun σ X => row _⟩)
theorem S_lcx (hk : zOk Γ cc bp pc' k) (row : ∀ rest, zRow Γ pc pc' rest (.long i.2.2.2.2.2.toInt64 :: rest)) : zOk Γ cc bp pc (z_lcx E k J i) :=
  hk.row (fun lo st h o ho h2 => ⟨_, ho, Sok.cons trivial h2, fun σ X => row _⟩)
theorem S_lcn (hk : zOk Γ cc bp pc' k) (row : ∀ rest, zRow Γ pc pc' rest (.long (Int64.ofNat i.2.2.1) :: rest)) : zOk Γ cc bp pc (z_lcn E k J i) :=
  hk.row (fun lo st h o ho h2 => ⟨_, ho, Sok.cons trivial h2, fun σ X => row _⟩)
theorem S_null (hk : zOk Γ cc bp pc' k) (row : ∀ rest, zRow Γ pc pc' rest (.null :: rest)) : zOk Γ cc bp pc (z_null E k J i) :=
  hk.row (fun lo st h o ho h2 => ⟨_, ho, Sok.cons trivial h2, fun σ X => row _⟩)
theorem S_op1 {f : Int32 → Int32} (hk : zOk Γ cc bp pc' k) (row : ∀ x rest, zRow Γ pc pc' (.int x :: rest) (.int (f x) :: rest)) : zOk Γ cc bp pc (zop1 f E k J i) :=
  hk.row (fun lo st h o ho h2 => by
    unfold zop1 at ho
    split at ho
    · exact ⟨_, ho, Sok.cons trivial h2.tl, fun σ X => row _ _⟩
    · cases ho)
theorem S_op2 {f : Int32 → Int32 → Int32} (hk : zOk Γ cc bp pc' k) (row : ∀ x y rest, zRow Γ pc pc' (.int y :: .int x :: rest) (.int (f x y) :: rest)) : zOk Γ cc bp pc (zop2 f E k J i) :=
  hk.row (fun lo st h o ho h2 => by
    unfold zop2 at ho
    split at ho
    · exact ⟨_, ho, Sok.cons trivial h2.tl.tl, fun σ X => row _ _ _⟩
    · cases ho)
theorem S_dv2 {f : Int32 → Int32 → Int32} (hk : zOk Γ cc bp pc' k) (row : ∀ x y rest, ¬ y = 0 → zRow Γ pc pc' (.int y :: .int x :: rest) (.int (f x y) :: rest)) : zOk Γ cc bp pc (zdv2 f E k J i) :=
  hk.row (fun lo st h o ho h2 => by
    unfold zdv2 at ho
    split at ho
    · split at ho
      · cases ho
      · rename_i q
        exact ⟨_, ho, Sok.cons trivial h2.tl.tl, fun σ X => row _ _ _ q⟩
    · cases ho)
theorem S_ol2 {f : Int64 → Int64 → Int64} (hk : zOk Γ cc bp pc' k) (row : ∀ x y rest, zRow Γ pc pc' (.long y :: .long x :: rest) (.long (f x y) :: rest)) : zOk Γ cc bp pc (zol2 f E k J i) :=
  hk.row (fun lo st h o ho h2 => by
    unfold zol2 at ho
    split at ho
    · exact ⟨_, ho, Sok.cons trivial h2.tl.tl, fun σ X => row _ _ _⟩
    · cases ho)
theorem S_dl2 {f : Int64 → Int64 → Int64} (hk : zOk Γ cc bp pc' k) (row : ∀ x y rest, ¬ y = 0 → zRow Γ pc pc' (.long y :: .long x :: rest) (.long (f x y) :: rest)) : zOk Γ cc bp pc (zdl2 f E k J i) :=
  hk.row (fun lo st h o ho h2 => by
    unfold zdl2 at ho
    split at ho
    · split at ho
      · cases ho
      · rename_i q
        exact ⟨_, ho, Sok.cons trivial h2.tl.tl, fun σ X => row _ _ _ q⟩
    · cases ho)
theorem S_ls2 {f : Int64 → Int32 → Int64} (hk : zOk Γ cc bp pc' k) (row : ∀ x y rest, zRow Γ pc pc' (.int y :: .long x :: rest) (.long (f x y) :: rest)) : zOk Γ cc bp pc (zls2 f E k J i) :=
  hk.row (fun lo st h o ho h2 => by
    unfold zls2 at ho
    split at ho
    · exact ⟨_, ho, Sok.cons trivial h2.tl.tl, fun σ X => row _ _ _⟩
    · cases ho)
theorem S_i2l (hk : zOk Γ cc bp pc' k) (row : ∀ x rest, zRow Γ pc pc' (.int x :: rest) (.long x.toInt64 :: rest)) : zOk Γ cc bp pc (z_i2l E k J i) :=
  hk.row (fun lo st h o ho h2 => by
    unfold z_i2l at ho
    split at ho
    · exact ⟨_, ho, Sok.cons trivial h2.tl, fun σ X => row _ _⟩
    · cases ho)
theorem S_l2i (hk : zOk Γ cc bp pc' k) (row : ∀ x rest, zRow Γ pc pc' (.long x :: rest) (.int x.toInt32 :: rest)) : zOk Γ cc bp pc (z_l2i E k J i) :=
  hk.row (fun lo st h o ho h2 => by
    unfold z_l2i at ho
    split at ho
    · exact ⟨_, ho, Sok.cons trivial h2.tl, fun σ X => row _ _⟩
    · cases ho)
theorem S_lcmp (hk : zOk Γ cc bp pc' k) (row : ∀ x y rest, zRow Γ pc pc' (.long y :: .long x :: rest) (.int (lg_cmp x y) :: rest)) : zOk Γ cc bp pc (z_lcmp E k J i) :=
  hk.row (fun lo st h o ho h2 => by
    unfold z_lcmp at ho
    split at ho
    · exact ⟨_, ho, Sok.cons trivial h2.tl.tl, fun σ X => row _ _ _⟩
    · cases ho)
theorem S_dup (hk : zOk Γ cc bp pc' k) (row : ∀ v rest, v.category = 1 → zRow Γ pc pc' (v :: rest) (v :: v :: rest)) : zOk Γ cc bp pc (z_dup E k J i) :=
  hk.row (fun lo st h o ho h2 => by
    unfold z_dup at ho
    split at ho
    · exact ⟨_, ho, Sok.cons trivial h2, fun σ X => row _ _ rfl⟩
    · exact ⟨_, ho, Sok.cons h2.hd h2, fun σ X => row _ _ rfl⟩
    · cases ho)
theorem S_dupx1 (hk : zOk Γ cc bp pc' k) (row : ∀ v w rest, v.category = 1 → w.category = 1 → zRow Γ pc pc' (v :: w :: rest) (v :: w :: v :: rest)) : zOk Γ cc bp pc (z_dupx1 E k J i) :=
  hk.row (fun lo st h o ho h2 => by
    unfold z_dupx1 at ho
    split at ho
    · exact ⟨_, ho, Sok.cons trivial (Sok.cons h2.tl.hd (Sok.cons trivial h2.tl.tl)), fun σ X => row _ _ _ rfl rfl⟩
    · cases ho)
theorem S_dup2 (hk : zOk Γ cc bp pc' k) (row : ∀ v w rest, v.category = 1 → w.category = 1 → zRow Γ pc pc' (v :: w :: rest) (v :: w :: v :: w :: rest)) : zOk Γ cc bp pc (z_dup2 E k J i) :=
  hk.row (fun lo st h o ho h2 => by
    unfold z_dup2 at ho
    split at ho
    · exact ⟨_, ho, Sok.cons trivial (Sok.cons h2.tl.hd h2), fun σ X => row _ _ _ rfl rfl⟩
    · cases ho)
theorem S_pop (hk : zOk Γ cc bp pc' k) (row : ∀ v rest, v.category = 1 → zRow Γ pc pc' (v :: rest) rest) : zOk Γ cc bp pc (z_pop E k J i) :=
  hk.row (fun lo st h o ho h2 => by
    unfold z_pop at ho
    split at ho
    · exact ⟨_, ho, h2.tl, fun σ X => row _ _ rfl⟩
    · cases ho)
theorem S_goto (hj : zOk Γ cc bp tgt (J i.2.2.1)) (row : ∀ rest, zRow Γ pc tgt rest rest) : zOk Γ cc bp pc (z_goto E k J i) :=
  hj.row (fun lo st h o ho h2 => ⟨_, ho, h2, fun σ X => row _⟩)
theorem S_fall (hj : zOk Γ cc bp pc (J i.2.2.1)) : zOk Γ cc bp pc (z_goto E k J i) := hj
theorem S_if1 {P : Int32 → Bool} (hk : zOk Γ cc bp pc' k) (hj : zOk Γ cc bp tgt (J i.2.2.1)) (row : ∀ x rest, zBr Γ pc pc' tgt (P x) (.int x :: rest) rest) : zOk Γ cc bp pc (zif1 P E k J i) :=
  hk.br hj (fun lo st h o ho h2 => by
    unfold zif1 at ho
    split at ho
    · rename_i x rest
      refine ⟨rest, P x, fun q => ?_, fun q => ?_, h2.tl, fun σ X => row _ _⟩
      · rw [if_pos q] at ho; exact ho
      · rw [if_neg (by rw [q]; decide)] at ho; exact ho
    · cases ho)
theorem S_if2 {P : Int32 → Int32 → Bool} (hk : zOk Γ cc bp pc' k) (hj : zOk Γ cc bp tgt (J i.2.2.1)) (row : ∀ x y rest, zBr Γ pc pc' tgt (P x y) (.int y :: .int x :: rest) rest) : zOk Γ cc bp pc (zif2 P E k J i) :=
  hk.br hj (fun lo st h o ho h2 => by
    unfold zif2 at ho
    split at ho
    · rename_i y x rest
      refine ⟨rest, P x y, fun q => ?_, fun q => ?_, h2.tl.tl, fun σ X => row _ _ _⟩
      · rw [if_pos q] at ho; exact ho
      · rw [if_neg (by rw [q]; decide)] at ho; exact ho
    · cases ho)
theorem S_ifnull (hk : zOk Γ cc bp pc' k) (hj : zOk Γ cc bp tgt (J i.2.2.1)) (r1 : ∀ a rest, zBr Γ pc pc' tgt false (.ref a :: rest) rest) (r2 : ∀ rest, zBr Γ pc pc' tgt true (.null :: rest) rest) : zOk Γ cc bp pc (z_ifnull E k J i) :=
  hk.br hj (fun lo st h o ho h2 => by
    unfold z_ifnull at ho
    split at ho
    · exact ⟨_, false, fun q => (by cases q), fun _ => ho, h2.tl, fun σ X => r1 _ _⟩
    · exact ⟨_, true, fun _ => ho, fun q => (by cases q), h2.tl, fun σ X => r2 _⟩
    · cases ho)
theorem S_swgo (hj : ∀ b, zOk Γ cc bp (bp b) (J b)) {d : Nat} {v : Int32} {lo : LV} {st : List Value} {h : AH} {o : Out} : ∀ (L : List (Int32 × Nat)), zswgo J d v lo st h L = some o → ∃ b, J b lo st h = some o ∧ ((∃ q ∈ L, q.1 = v ∧ q.2 = b) ∨ ((∀ q ∈ L, q.1 ≠ v) ∧ b = d)) := by
  intro L
  induction L with
  | nil => intro ho; exact ⟨d, ho, Or.inr ⟨fun q hq => (by cases hq), rfl⟩⟩
  | cons q r ih =>
    intro ho
    unfold zswgo at ho
    by_cases hv : v = q.1
    · rw [if_pos hv] at ho
      exact ⟨q.2, ho, Or.inl ⟨q, List.mem_cons_self, hv.symm, rfl⟩⟩
    · rw [if_neg hv] at ho
      obtain ⟨b, h1, h2⟩ := ih ho
      refine ⟨b, h1, ?_⟩
      rcases h2 with ⟨q2, h3, h4⟩ | ⟨h3, h4⟩
      · exact Or.inl ⟨q2, List.mem_cons_of_mem _ h3, h4⟩
      · exact Or.inr ⟨fun q2 hq2 => (List.mem_cons.mp hq2).elim (fun z => by rw [z]; exact fun z2 => hv z2.symm) (h3 q2), h4⟩
theorem S_sw (hj : ∀ b, zOk Γ cc bp (bp b) (J b)) (row : ∀ v b rest, ((∃ q ∈ (zSW i.2.2.1).1, q.1 = v ∧ q.2 = b) ∨ ((∀ q ∈ (zSW i.2.2.1).1, q.1 ≠ v) ∧ b = (zSW i.2.2.1).2)) → zRow Γ pc (bp b) (.int v :: rest) rest) : zOk Γ cc bp pc (z_sw E k J i) := by
  obtain ⟨p, l, e, R, s, m, args, below, meth, c, Q, nL, D, cA, X, A, c0, s0, n0, σ0⟩ := Γ
  intro lo st h o ho h1 h2 h3 h4 h5
  unfold z_sw at ho
  split at ho
  · rename_i v rest
    obtain ⟨b, g1, g2⟩ := S_swgo hj _ ho
    obtain ⟨a1, a2, a3⟩ := hj b lo rest h o g1 h1 h2.tl h3 h4 h5
    exact ⟨a1, a2, fun f1 f2 f3 σ H locs ls hag hP hD hS hl => row v b (rest.map (zcv σ X)) g2 H locs _ _ ls (a3 f1 f2 f3 σ H locs ls hag hP hD hS hl)⟩
  · cases ho
theorem S_cut : zOk Γ cc bp (bp i.2.2.1) (z_cut E k J i) := by
  obtain ⟨p, l, e, R, s, m, args, below, meth, c, Q, nL, D, cA, X, A, c0, s0, n0, σ0⟩ := Γ
  intro lo st h o ho h1 h2 h3 h4 h5
  unfold z_cut at ho
  split at ho
  · cases ho
    exact ⟨zle.rf, ⟨h1.can, h3⟩, fun f1 _ _ σ H locs ls hag hP hD hS hl => f1 σ H locs ls hag hP hD hS (lv_can hl)⟩
  · cases ho
/-! locals -/
def zLd (Γ : ZG) (pc pc' i : Nat) (v : Value) : Prop := match Γ with
  | (p, l, e, R, s, m, args, below, meth, c, Q, _, _, _, _, _, _, _) => ∀ (H : Heap) (locs : List Loc) (cells slots : Nat) (ls : Array Slot) (rest : List Value), ls[i]? = some (.val v) → W p l e R s m args below meth c H locs cells slots Q (F0 m pc' ls (v :: rest)) → W p l e R s m args below meth c H locs cells slots Q (F0 m pc ls rest)
theorem zLd.go {lo : LV} {st : List Value} {h : AH} {v : Value} {j : Nat} (hg : lget lo j = some v) (row : ∀ σ X, zLd Γ pc pc' j (zcv σ X v)) : zSat Γ pc' lo (v :: st) h → zSat Γ pc lo st h := by
  obtain ⟨p, l, e, R, s, m, args, below, meth, c, Q, nL, D, cA, X, A, c0, s0, n0, σ0⟩ := Γ
  intro K σ H locs ls hag hP hD hS hl
  exact row σ X H locs _ _ ls _ (lget_lv hl hg) (K σ H locs ls hag hP hD hS hl)
theorem S_iload (hk : zOk Γ cc bp pc' k) (row : ∀ x, zLd Γ pc pc' i.2.2.1 (.int x)) : zOk Γ cc bp pc (z_iload E k J i) :=
  hk.st (fun lo st h o ho h1 h2 h3 => by
    unfold z_iload at ho
    split at ho
    · rename_i v hg
      exact ⟨lo, _, ho, h1, Sok.cons trivial h2, zLd.go hg (fun σ X => row _)⟩
    · cases ho)
theorem S_lload (hk : zOk Γ cc bp pc' k) (row : ∀ x, zLd Γ pc pc' i.2.2.1 (.long x)) : zOk Γ cc bp pc (z_lload E k J i) :=
  hk.st (fun lo st h o ho h1 h2 h3 => by
    unfold z_lload at ho
    split at ho
    · rename_i v hg
      exact ⟨lo, _, ho, h1, Sok.cons trivial h2, zLd.go hg (fun σ X => row _)⟩
    · cases ho)
theorem S_aload (hk : zOk Γ cc bp pc' k) (row : ∀ x, zLd Γ pc pc' i.2.2.1 (.ref x)) (rowN : zLd Γ pc pc' i.2.2.1 .null) : zOk Γ cc bp pc (z_aload E k J i) :=
  hk.st (fun lo st h o ho h1 h2 h3 => by
    unfold z_aload at ho
    split at ho
    · rename_i v hg
      exact ⟨lo, _, ho, h1, Sok.cons (h1.get hg) h2, zLd.go hg (fun σ X => row _)⟩
    · rename_i v hg
      exact ⟨lo, _, ho, h1, Sok.cons trivial h2, zLd.go hg (fun σ X => row _)⟩
    · rename_i hg
      exact ⟨lo, _, ho, h1, Sok.cons trivial h2, zLd.go hg (fun σ X => rowN)⟩
    · cases ho)
def zSt (Γ : ZG) (pc pc' i : Nat) (v : Value) (flt : Nat × Value → Bool) : Prop := match Γ with
  | (p, l, e, R, s, m, args, below, meth, c, Q, nL, _, _, _, _, _, _) => ∀ (H : Heap) (locs : List Loc) (cells slots : Nat) (ls : Array Slot) (rest : List Value) (lv : List (Nat × Value)), lv_has ls nL lv → (∀ ls', lv_has ls' nL ((i, v) :: lv.filter flt) → W p l e R s m args below meth c H locs cells slots Q (F0 m pc' ls' rest)) → W p l e R s m args below meth c H locs cells slots Q (F0 m pc ls (v :: rest))
theorem S_istore (hk : zOk Γ cc bp pc' k) (row : ∀ x, zSt Γ pc pc' i.2.2.1 (.int x) (fun q => !(q.1 == i.2.2.1) && !(q.1 + 1 == i.2.2.1 && q.2.category == 2))) : zOk Γ cc bp pc (z_istore E k J i) :=
  hk.st (fun lo st h o ho h1 h2 h3 => by
    unfold z_istore at ho
    split at ho
    · rename_i v rest
      refine ⟨_, _, ho, h1.set1 trivial, h2.tl, ?_⟩
      obtain ⟨p, l, e, R, s, m, args, below, meth, c, Q, nL, D, cA, X, A, c0, s0, n0, σ0⟩ := Γ
      intro K σ H locs ls hag hP hD hS hl
      exact row v H locs _ _ ls _ _ hl (fun ls' hl' => K σ H locs ls' hag hP hD hS (zlo_set1 (v := .int v) ▸ hl'))
    · cases ho)
theorem S_lstore (hk : zOk Γ cc bp pc' k) (row : ∀ x, zSt Γ pc pc' i.2.2.1 (.long x) (fun q => !(q.1 == i.2.2.1) && (!(q.1 == i.2.2.1 + 1) && !(q.1 + 1 == i.2.2.1 && q.2.category == 2)))) : zOk Γ cc bp pc (z_lstore E k J i) :=
  hk.st (fun lo st h o ho h1 h2 h3 => by
    unfold z_lstore at ho
    split at ho
    · rename_i v rest
      refine ⟨_, _, ho, h1.set2 trivial, h2.tl, ?_⟩
      obtain ⟨p, l, e, R, s, m, args, below, meth, c, Q, nL, D, cA, X, A, c0, s0, n0, σ0⟩ := Γ
      intro K σ H locs ls hag hP hD hS hl
      exact row v H locs _ _ ls _ _ hl (fun ls' hl' => K σ H locs ls' hag hP hD hS (zlo_set2 (v := .long v) ▸ hl'))
    · cases ho)
theorem S_astore (hk : zOk Γ cc bp pc' k) (row : ∀ x, zSt Γ pc pc' i.2.2.1 (.ref x) (fun q => !(q.1 == i.2.2.1) && !(q.1 + 1 == i.2.2.1 && q.2.category == 2))) : zOk Γ cc bp pc (z_astore E k J i) :=
  hk.st (fun lo st h o ho h1 h2 h3 => by
    unfold z_astore at ho
    split at ho
    · rename_i v rest
      refine ⟨_, _, ho, h1.set1 h2.hd, h2.tl, ?_⟩
      obtain ⟨p, l, e, R, s, m, args, below, meth, c, Q, nL, D, cA, X, A, c0, s0, n0, σ0⟩ := Γ
      intro K σ H locs ls hag hP hD hS hl
      exact row (σ v) H locs _ _ ls _ _ hl (fun ls' hl' => K σ H locs ls' hag hP hD hS (zlo_set1 (v := .ref v) ▸ hl'))
    · cases ho)
def zInc (Γ : ZG) (pc pc' i : Nat) (d : Int32) : Prop := match Γ with
  | (p, l, e, R, s, m, args, below, meth, c, Q, nL, _, _, _, _, _, _) => ∀ (H : Heap) (locs : List Loc) (cells slots : Nat) (ls : Array Slot) (rest : List Value) (lv : List (Nat × Value)) (k : Nat) (x : Int32), lv_has ls nL lv → lv[k]? = some (i, .int x) → (∀ ls', lv_has ls' nL ((i, .int (x + d)) :: lv.filter (fun q => !(q.1 == i) && !(q.1 + 1 == i && q.2.category == 2))) → W p l e R s m args below meth c H locs cells slots Q (F0 m pc' ls' rest)) → W p l e R s m args below meth c H locs cells slots Q (F0 m pc ls rest)
theorem S_iinc (hk : zOk Γ cc bp pc' k) (row : zInc Γ pc pc' i.2.2.1 i.2.2.2.2.2) : zOk Γ cc bp pc (z_iinc E k J i) :=
  hk.st (fun lo st h o ho h1 h2 h3 => by
    unfold z_iinc at ho
    split at ho
    · rename_i v hg
      refine ⟨_, _, ho, h1.set1 trivial, h2, ?_⟩
      obtain ⟨p, l, e, R, s, m, args, below, meth, c, Q, nL, D, cA, X, A, c0, s0, n0, σ0⟩ := Γ
      intro K σ H locs ls hag hP hD hS hl
      obtain ⟨q, hq⟩ := lget_at (X := X) (σ := σ) hg
      exact row H locs _ _ ls _ _ q v hl hq (fun ls' hl' => K σ H locs ls' hag hP hD hS (zlo_set1 (v := .int (v + i.2.2.2.2.2)) ▸ hl'))
    · cases ho)
theorem S_iret (hdg : decode cc pc = .ok (.ireturn, 1)) (hri : Γ.2.2.2.2.2.2.2.2.1.sig.returnType = some .int) : zOk Γ cc bp pc (z_iret E k J i) := by
  obtain ⟨p, l, e, R, s, m, args, below, meth, c, Q, nL, D, cA, X, A, c0, s0, n0, σ0⟩ := Γ
  intro lo st h o ho h1 h2 h3 h4 h5
  unfold z_iret at ho
  split at ho
  · cases ho
    exact ⟨zle.rf, ⟨trivial, h3⟩, fun f1 _ _ σ H locs ls hag hP hD hS hl => f1 σ H locs hag hP hD hS pc ls hdg (Or.inr hri)⟩
  · cases ho
theorem S_zret (hdg : decode cc pc = .ok (.ireturn, 1)) (hri : Γ.2.2.2.2.2.2.2.2.1.sig.returnType = some .boolean) : zOk Γ cc bp pc (z_zret E k J i) := by
  obtain ⟨p, l, e, R, s, m, args, below, meth, c, Q, nL, D, cA, X, A, c0, s0, n0, σ0⟩ := Γ
  intro lo st h o ho h1 h2 h3 h4 h5
  unfold z_zret at ho
  split at ho
  · split at ho
    · rename_i hv
      cases ho
      exact ⟨zle.rf, ⟨trivial, h3⟩, fun f1 _ _ σ H locs ls hag hP hD hS hl => f1 σ H locs hag hP hD hS pc ls hdg (Or.inl ⟨hv, hri⟩)⟩
    · cases ho
  · cases ho
theorem S_lret (hdg : decode cc pc = .ok (.lreturn, 1)) (hri : Γ.2.2.2.2.2.2.2.2.1.sig.returnType = some .long) : zOk Γ cc bp pc (z_lret E k J i) := by
  obtain ⟨p, l, e, R, s, m, args, below, meth, c, Q, nL, D, cA, X, A, c0, s0, n0, σ0⟩ := Γ
  intro lo st h o ho h1 h2 h3 h4 h5
  unfold z_lret at ho
  split at ho
  · cases ho
    exact ⟨zle.rf, ⟨trivial, h3⟩, fun f1 _ _ σ H locs ls hag hP hD hS hl => f1 σ H locs hag hP hD hS pc ls hdg hri⟩
  · cases ho
theorem S_aret {rt : FieldType} (hdg : decode cc pc = .ok (.areturn, 1)) (hri : Γ.2.2.2.2.2.2.2.2.1.sig.returnType = some rt) (hrt : (∃ n, rt = .object n) ∨ ∃ t, rt = .array t) : zOk Γ cc bp pc (z_aret E k J i) := by
  obtain ⟨p, l, e, R, s, m, args, below, meth, c, Q, nL, D, cA, X, A, c0, s0, n0, σ0⟩ := Γ
  intro lo st h o ho h1 h2 h3 h4 h5
  unfold z_aret at ho
  split at ho
  · cases ho
    exact ⟨zle.rf, ⟨h2.hd, h3⟩, fun f1 _ _ σ H locs ls hag hP hD hS hl => f1 σ H locs hag hP hD hS pc ls rt hdg hri hrt⟩
  · cases ho
    exact ⟨zle.rf, ⟨trivial, h3⟩, fun f1 _ _ σ H locs ls hag hP hD hS hl => f1 σ H locs hag hP hD hS pc ls rt hdg hri hrt⟩
  · cases ho
theorem S_vret (hdg : decode cc pc = .ok (.return_, 1)) (hri : Γ.2.2.2.2.2.2.2.2.1.sig.returnType = none) : zOk Γ cc bp pc (z_vret E k J i) := by
  obtain ⟨p, l, e, R, s, m, args, below, meth, c, Q, nL, D, cA, X, A, c0, s0, n0, σ0⟩ := Γ
  intro lo st h o ho h1 h2 h3 h4 h5
  unfold z_vret at ho
  split at ho
  · cases ho
    exact ⟨zle.rf, ⟨trivial, h3⟩, fun f1 _ _ σ H locs ls hag hP hD hS hl => f1 σ H locs hag hP hD hS pc ls hdg hri⟩
  · cases ho
end S
