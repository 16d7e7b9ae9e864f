/-! THE PURE PART: least ways. A walk along edges; a table of least costs; what both ways of making one keep. -/
def zWk (ed : Nat → Nat → Int → Prop) : Nat → Nat → Nat → Int → Prop
  | 0, a, b, c => a = b ∧ c = 0
  | n + 1, a, b, c => ∃ m w, ed a m w ∧ zWk ed n m b (c - w)
/-- edges lie between nodes and cost something -/
def zEd (ed : Nat → Nat → Int → Prop) : Prop := ∀ a b w, ed a b w → a < 24 ∧ b < 24 ∧ 0 < w ∧ w ≤ 63937
/-- a table of least costs, F where there is no way -/
def zOKT (ed : Nat → Nat → Int → Prop) (F : Int) (T : Nat → Nat → Int) : Prop := ∀ a b, a < 24 → b < 24 → 0 ≤ T a b ∧ T a b ≤ F ∧ (T a b < F → ∃ n, zWk ed n a b (T a b)) ∧ ∀ n c, zWk ed n a b c → T a b ≤ c
theorem zWk_pos {ed : Nat → Nat → Int → Prop} (hE : zEd ed) : ∀ (n a b : Nat) (c : Int), zWk ed n a b c → 0 ≤ c
  | 0, a, b, c, h => by
    have := h.2
    omega
  | n + 1, a, b, c, h => by
    obtain ⟨m, w, h1, h2⟩ := h
    have := zWk_pos hE n m b _ h2
    have := (hE _ _ _ h1).2.2.1
    omega
theorem zWk_app {ed : Nat → Nat → Int → Prop} : ∀ (n k a m b : Nat) (c1 c2 : Int), zWk ed n a m c1 → zWk ed k m b c2 → zWk ed (n + k) a b (c1 + c2)
  | 0, k, a, m, b, c1, c2, h1, h2 => by
    obtain ⟨e1, e2⟩ := h1
    subst e1
    have e : 0 + k = k := Nat.zero_add k
    rw [e, e2, Int.zero_add]
    exact h2
  | n + 1, k, a, m, b, c1, c2, h1, h2 => by
    obtain ⟨x, w, e1, e2⟩ := h1
    have q := zWk_app n k x m b _ _ e2 h2
    have e : n + 1 + k = (n + k) + 1 := by omega
    rw [e]
    refine ⟨x, w, e1, ?_⟩
    have e : c1 + c2 - w = c1 - w + c2 := by omega
    rw [e]
    exact q
/-- how many below n there are -/
def zcnt (p : Nat → Bool) : Nat → Nat
  | 0 => 0
  | n + 1 => zcnt p n + (if p n = true then 1 else 0)
theorem zcnt_le (p : Nat → Bool) : ∀ n, zcnt p n ≤ n
  | 0 => Nat.le_refl 0
  | n + 1 => by
    have := zcnt_le p n
    unfold zcnt
    split <;> omega
theorem zcnt_mono {p q : Nat → Bool} (h : ∀ m, p m = true → q m = true) : ∀ n, zcnt p n ≤ zcnt q n
  | 0 => Nat.le_refl 0
  | n + 1 => by
    have := zcnt_mono h n
    unfold zcnt
    by_cases e : p n = true
    · rw [if_pos e, if_pos (h n e)]
      omega
    · rw [if_neg e]
      omega
theorem zcnt_lt {p q : Nat → Bool} (h : ∀ m, p m = true → q m = true) {x : Nat} (h1 : q x = true) (h2 : ¬ p x = true) : ∀ n, x < n → zcnt p n < zcnt q n
  | 0, hx => absurd hx (Nat.not_lt_zero x)
  | n + 1, hx => by
    unfold zcnt
    by_cases e : x = n
    · subst e
      have := zcnt_mono h x
      rw [if_neg h2, if_pos h1]
      omega
    · have := zcnt_lt h h1 h2 n (by omega)
      by_cases e2 : p n = true
      · rw [if_pos e2, if_pos (h n e2)]
        omega
      · rw [if_neg e2]
        omega
/-- at how many nodes a way to b is cheaper -/
def zrk (T : Nat → Nat → Int) (b : Nat) (x : Int) : Nat := zcnt (fun m => decide (T m b < x)) 24
theorem zrk_lt {T : Nat → Nat → Int} {b m : Nat} {x : Int} (hm : m < 24) (h : T m b < x) : zrk T b (T m b) < zrk T b x := by
  refine zcnt_lt (fun k hk => ?_) (decide_eq_true h) (fun q => ?_) 24 hm
  · have := of_decide_eq_true hk
    exact decide_eq_true (by omega)
  · have := of_decide_eq_true q
    omega
theorem zrk_le {T : Nat → Nat → Int} {a b : Nat} (ha : a < 24) : zrk T b (T a b) ≤ 23 := by
  have h1 : zrk T b (T a b) < zcnt (fun _ => true) 24 := by
    refine zcnt_lt (fun _ _ => rfl) (x := a) rfl (fun q => ?_) 24 ha
    have := of_decide_eq_true q
    omega
  have h2 := zcnt_le (fun _ => true) 24
  omega
theorem zOKT_self {ed : Nat → Nat → Int → Prop} {F : Int} {T : Nat → Nat → Int} (h : zOKT ed F T) {a : Nat} (ha : a < 24) : T a a = 0 := by
  have h1 := h a a ha ha
  have h2 := h1.2.2.2 0 0 ⟨rfl, rfl⟩
  omega
/-- along an edge -/
theorem zOKT_edge {ed : Nat → Nat → Int → Prop} {F : Int} {T : Nat → Nat → Int} (hE : zEd ed) (h : zOKT ed F T) {a m b : Nat} {w : Int} (e : ed a m w) (hb : b < 24) : T a b ≤ w + T m b := by
  have k := hE _ _ _ e
  have h1 := h a b k.1 hb
  have h2 := h m b k.2.1 hb
  by_cases c : T m b < F
  · obtain ⟨n, q⟩ := h2.2.2.1 c
    refine h1.2.2.2 (n + 1) _ ⟨m, w, e, ?_⟩
    have e : w + T m b - w = T m b := by omega
    rw [e]
    exact q
  · omega
/-- the first edge of a least way -/
theorem zOKT_first {ed : Nat → Nat → Int → Prop} {F : Int} {T : Nat → Nat → Int} (hE : zEd ed) (h : zOKT ed F T) {a b : Nat} (ha : a < 24) (hb : b < 24) (hF : T a b < F) (hne : a ≠ b) : ∃ m w, ed a m w ∧ T a b = w + T m b ∧ T m b < F ∧ T m b < T a b := by
  have h1 := h a b ha hb
  obtain ⟨n, q⟩ := h1.2.2.1 hF
  cases n with
  | zero => exact absurd q.1 hne
  | succ n =>
    obtain ⟨m, w, e, q⟩ := q
    have k := hE _ _ _ e
    have h2 := (h m b k.2.1 hb).2.2.2 n _ q
    have h3 := zOKT_edge hE h e hb
    exact ⟨m, w, e, by omega, by omega, by omega⟩
theorem zOKT_bound {ed : Nat → Nat → Int → Prop} {F : Int} {T : Nat → Nat → Int} (hE : zEd ed) (h : zOKT ed F T) {b : Nat} (hb : b < 24) : ∀ (k a : Nat), a < 24 → T a b < F → zrk T b (T a b) ≤ k → T a b ≤ 63937 * (k : Int)
  | 0, a, ha, hF, hk => by
    by_cases hne : a = b
    · subst hne
      have := zOKT_self h ha
      omega
    · obtain ⟨m, w, e, h1, h2, h3⟩ := zOKT_first hE h ha hb hF hne
      have := zrk_lt (T := T) (b := b) (hE _ _ _ e).2.1 h3
      omega
  | k + 1, a, ha, hF, hk => by
    by_cases hne : a = b
    · subst hne
      have := zOKT_self h ha
      omega
    · obtain ⟨m, w, e, h1, h2, h3⟩ := zOKT_first hE h ha hb hF hne
      have h4 := zrk_lt (T := T) (b := b) (hE _ _ _ e).2.1 h3
      have h5 := zOKT_bound hE h hb k m (hE _ _ _ e).2.1 h2 (by omega)
      have h6 := (hE _ _ _ e).2.2.2
      omega
theorem zOKT_max {ed : Nat → Nat → Int → Prop} {F : Int} {T : Nat → Nat → Int} (hE : zEd ed) (h : zOKT ed F T) {a b : Nat} (ha : a < 24) (hb : b < 24) (hF : T a b < F) : T a b ≤ 1470551 := by
  have := zOKT_bound hE h hb 23 a ha hF (zrk_le ha)
  omega
/-- where a walk is, the table has a cost -/
theorem zOKT_fin {ed : Nat → Nat → Int → Prop} {F : Int} {T : Nat → Nat → Int} (hE : zEd ed) (h : zOKT ed F T) (hF : 2000000 ≤ F) {b : Nat} (hb : b < 24) : ∀ (n a : Nat) (c : Int), a < 24 → zWk ed n a b c → T a b < F
  | 0, a, c, ha, q => by
    have := (h a b ha hb).2.2.2 0 c q
    have := q.2
    omega
  | n + 1, a, c, ha, q => by
    obtain ⟨m, w, e, q⟩ := q
    have k := hE _ _ _ e
    have h1 := zOKT_fin hE h hF hb n m _ k.2.1 q
    have h2 := zOKT_max hE h k.2.1 hb h1
    have h3 := zOKT_edge hE h e hb
    omega
/-- two tables tell the same -/
theorem zOKT_uniq {ed : Nat → Nat → Int → Prop} {F G : Int} {T U : Nat → Nat → Int} (hE : zEd ed) (h : zOKT ed F T) (g : zOKT ed G U) (hG : 2000000 ≤ G) {a b : Nat} (ha : a < 24) (hb : b < 24) (hF : T a b < F) : U a b < G ∧ U a b = T a b := by
  obtain ⟨n, q⟩ := (h a b ha hb).2.2.1 hF
  have h1 := zOKT_fin hE g hG hb n a _ ha q
  obtain ⟨k, r⟩ := (g a b ha hb).2.2.1 h1
  have h2 := (g a b ha hb).2.2.2 n _ q
  have h3 := (h a b ha hb).2.2.2 k _ r
  exact ⟨h1, by omega⟩
/-- from the inequality along edges to all walks -/
theorem zOKT_of {ed : Nat → Nat → Int → Prop} {F : Int} {T : Nat → Nat → Int} (hE : zEd ed) (h0 : ∀ a b, a < 24 → b < 24 → 0 ≤ T a b ∧ T a b ≤ F ∧ (T a b < F → ∃ n, zWk ed n a b (T a b))) (h1 : ∀ a, a < 24 → T a a ≤ 0) (h2 : ∀ a m w, ed a m w → ∀ b, b < 24 → T a b ≤ w + T m b) : zOKT ed F T := by
  have key : ∀ (n a b : Nat) (c : Int), a < 24 → b < 24 → zWk ed n a b c → T a b ≤ c := by
    intro n
    induction n with
    | zero =>
      intro a b c ha hb q
      obtain ⟨e1, e2⟩ := q
      subst e1
      have := h1 a ha
      omega
    | succ n ih =>
      intro a b c ha hb q
      obtain ⟨m, w, e, q⟩ := q
      have := ih m b _ (hE _ _ _ e).2.1 hb q
      have := h2 a m w e b hb
      omega
  intro a b ha hb
  exact ⟨(h0 a b ha hb).1, (h0 a b ha hb).2.1, (h0 a b ha hb).2.2, fun n c q => key n a b c ha hb q⟩
/-- walks stay walks where edges come -/
theorem zWk_mono {ed ed' : Nat → Nat → Int → Prop} (h : ∀ a b w, ed a b w → ed' a b w) : ∀ (n a b : Nat) (c : Int), zWk ed n a b c → zWk ed' n a b c
  | 0, _, _, _, q => q
  | n + 1, _, _, _, ⟨m, w, e, q⟩ => ⟨m, w, h _ _ _ e, zWk_mono h n m _ _ q⟩
/-- one edge more -/
def zadd (ed : Nat → Nat → Int → Prop) (p q : Nat) (w0 : Int) : Nat → Nat → Int → Prop := fun a b w => ed a b w ∨ (a = p ∧ b = q ∧ w = w0)
theorem zadd_Ed {ed : Nat → Nat → Int → Prop} {p q : Nat} {w0 : Int} (hE : zEd ed) (hp : p < 24) (hq : q < 24) (h0 : 0 < w0) (h1 : w0 ≤ 63937) : zEd (zadd ed p q w0) := by
  intro a b w h
  rcases h with h | ⟨e1, e2, e3⟩
  · exact hE _ _ _ h
  · subst e1 e2 e3
    exact ⟨hp, hq, h0, h1⟩
/-- the table with one edge more -/
theorem zadd_OKT {ed : Nat → Nat → Int → Prop} {F : Int} {T : Nat → Nat → Int} {p q : Nat} {w0 : Int} (hE : zEd ed) (h : zOKT ed F T) (hp : p < 24) (hq : q < 24) (h0 : 0 < w0) (h1 : w0 ≤ 63937) : zOKT (zadd ed p q w0) F (fun a b => min (T a b) (T a p + w0 + T q b)) := by
  refine zOKT_of (zadd_Ed hE hp hq h0 h1) ?_ ?_ ?_
  · intro a b ha hb
    have k1 := h a b ha hb
    have k2 := h a p ha hp
    have k3 := h q b hq hb
    refine ⟨by omega, by omega, fun c => ?_⟩
    by_cases e : T a b ≤ T a p + w0 + T q b
    · have e2 : min (T a b) (T a p + w0 + T q b) = T a b := by omega
      show ∃ n, zWk _ n a b (min (T a b) (T a p + w0 + T q b))
      rw [e2]
      obtain ⟨n, r⟩ := k1.2.2.1 (by omega)
      exact ⟨n, zWk_mono (fun _ _ _ z => Or.inl z) n a b _ r⟩
    · have e2 : min (T a b) (T a p + w0 + T q b) = T a p + (w0 + T q b) := by omega
      have c : min (T a b) (T a p + w0 + T q b) < F := c
      show ∃ n, zWk _ n a b (min (T a b) (T a p + w0 + T q b))
      rw [e2]
      obtain ⟨n, r⟩ := k2.2.2.1 (by omega)
      obtain ⟨k, s⟩ := k3.2.2.1 (by omega)
      refine ⟨n + (k + 1), zWk_app n (k + 1) a p b _ _ (zWk_mono (fun _ _ _ z => Or.inl z) n a p _ r) ⟨q, w0, Or.inr ⟨rfl, rfl, rfl⟩, ?_⟩⟩
      have e : w0 + T q b - w0 = T q b := by omega
      rw [e]
      exact zWk_mono (fun _ _ _ z => Or.inl z) k q b _ s
  · intro a ha
    have := zOKT_self h ha
    show min (T a a) _ ≤ 0
    omega
  · intro a m w e b hb
    show min (T a b) (T a p + w0 + T q b) ≤ w + min (T m b) (T m p + w0 + T q b)
    have k3 := h q b hq hb
    rcases e with e | ⟨e1, e2, e3⟩
    · have := zOKT_edge hE h e hb
      have := zOKT_edge hE h e hp
      omega
    · subst e1 e2 e3
      have := zOKT_self h hp
      have := h m a hq hp
      omega
/-- what a phase of the table's closing keeps: no way costs more than by edges to nodes below k -/
def zFW (ed : Nat → Nat → Int → Prop) (F : Int) (k : Nat) (T : Nat → Nat → Int) : Prop :=
  (∀ a b, a < 24 → b < 24 → 0 ≤ T a b ∧ T a b ≤ F ∧ (T a b < F → ∃ n, zWk ed n a b (T a b))) ∧ (∀ a, a < 24 → T a a = 0) ∧ (∀ a x w, ed a x w → T a x ≤ w) ∧ ∀ a x w, ed a x w → x < k → ∀ b, b < 24 → T a b ≤ w + T x b
theorem zFW_step {ed : Nat → Nat → Int → Prop} {F : Int} {k : Nat} {T : Nat → Nat → Int} (hE : zEd ed) (h : zFW ed F k T) (hk : k < 24) : zFW ed F (k + 1) (fun a b => min (T a b) (T a k + T k b)) := by
  obtain ⟨h0, h1, h2, h3⟩ := h
  refine ⟨?_, ?_, ?_, ?_⟩
  · intro a b ha hb
    have k1 := h0 a b ha hb
    have k2 := h0 a k ha hk
    have k3 := h0 k b hk hb
    refine ⟨?_, ?_, fun c => ?_⟩
    · show 0 ≤ min (T a b) (T a k + T k b)
      omega
    · show min (T a b) (T a k + T k b) ≤ F
      omega
    have c : min (T a b) (T a k + T k b) < F := c
    show ∃ n, zWk ed n a b (min (T a b) (T a k + T k b))
    by_cases e : T a b ≤ T a k + T k b
    · have e2 : min (T a b) (T a k + T k b) = T a b := by omega
      rw [e2]
      exact k1.2.2 (by omega)
    · have e2 : min (T a b) (T a k + T k b) = T a k + T k b := by omega
      rw [e2]
      obtain ⟨n, r⟩ := k2.2.2 (by omega)
      obtain ⟨j, s⟩ := k3.2.2 (by omega)
      exact ⟨n + j, zWk_app n j a k b _ _ r s⟩
  · intro a ha
    have := h1 a ha
    have := (h0 a k ha hk).1
    have := (h0 k a hk ha).1
    show min (T a a) _ = 0
    omega
  · intro a x w e
    have := h2 a x w e
    show min (T a x) _ ≤ w
    omega
  · intro a x w e hx b hb
    show min (T a b) (T a k + T k b) ≤ w + min (T x b) (T x k + T k b)
    by_cases c : x < k
    · have := h3 a x w e c b hb
      have := h3 a x w e c k hk
      omega
    · have c : x = k := by omega
      subst c
      have := h2 a x w e
      have := h1 x hk
      have := (h0 x b hk hb).1
      omega
theorem zFW_end {ed : Nat → Nat → Int → Prop} {F : Int} {T : Nat → Nat → Int} (hE : zEd ed) (h : zFW ed F 24 T) : zOKT ed F T := by
  obtain ⟨h0, h1, h2, h3⟩ := h
  refine zOKT_of hE h0 (fun a ha => ?_) (fun a m w e b hb => h3 a m w e (hE _ _ _ e).2.1 b hb)
  have := h1 a ha
  omega
