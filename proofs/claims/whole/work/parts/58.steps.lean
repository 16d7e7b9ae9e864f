/-! THE PURE PART: what a list of steps works out; the class's charge of a text. -/
/-- kinds of steps: 0 a number, 1 a value, 2 not, 3 an operator of two, 4 none of these -/
def zkd9 (w : Int32) : Nat := if 0 ≤ w.toInt ∧ w.toInt ≤ 99999 then 0 else if -314 ≤ w.toInt ∧ w.toInt ≤ -307 then 1 else if w = -306 then 2 else if w = -42 ∨ w = -43 ∨ w = -45 ∨ w = -47 ∨ w = -60 ∨ w = -61 ∨ w = -304 ∨ w = -305 then 3 else 4
theorem zkd9_0 {w : Int32} (h : zkd9 w = 0) : 0 ≤ w.toInt ∧ w.toInt ≤ 99999 := by
  unfold zkd9 at h
  by_cases c : 0 ≤ w.toInt ∧ w.toInt ≤ 99999
  · exact c
  · rw [if_neg c] at h
    split at h
    · cases h
    · split at h
      · cases h
      · split at h <;> cases h
theorem zkd9_1 {w : Int32} (h : zkd9 w = 1) : -314 ≤ w.toInt ∧ w.toInt ≤ -307 := by
  unfold zkd9 at h
  by_cases c : 0 ≤ w.toInt ∧ w.toInt ≤ 99999
  · rw [if_pos c] at h
    cases h
  · rw [if_neg c] at h
    by_cases c2 : -314 ≤ w.toInt ∧ w.toInt ≤ -307
    · exact c2
    · rw [if_neg c2] at h
      split at h
      · cases h
      · split at h <;> cases h
theorem zkd9_2 {w : Int32} (h : zkd9 w = 2) : w = -306 := by
  unfold zkd9 at h
  by_cases c : 0 ≤ w.toInt ∧ w.toInt ≤ 99999
  · rw [if_pos c] at h
    cases h
  · rw [if_neg c] at h
    by_cases c2 : -314 ≤ w.toInt ∧ w.toInt ≤ -307
    · rw [if_pos c2] at h
      cases h
    · rw [if_neg c2] at h
      by_cases c3 : w = -306
      · exact c3
      · rw [if_neg c3] at h
        split at h <;> cases h
theorem zkd9_3 {w : Int32} (h : zkd9 w = 3) : w = -42 ∨ w = -43 ∨ w = -45 ∨ w = -47 ∨ w = -60 ∨ w = -61 ∨ w = -304 ∨ w = -305 := by
  unfold zkd9 at h
  by_cases c : 0 ≤ w.toInt ∧ w.toInt ≤ 99999
  · rw [if_pos c] at h
    cases h
  · rw [if_neg c] at h
    by_cases c2 : -314 ≤ w.toInt ∧ w.toInt ≤ -307
    · rw [if_pos c2] at h
      cases h
    · rw [if_neg c2] at h
      by_cases c3 : w = -306
      · rw [if_pos c3] at h
        cases h
      · rw [if_neg c3] at h
        by_cases c4 : w = -42 ∨ w = -43 ∨ w = -45 ∨ w = -47 ∨ w = -60 ∨ w = -61 ∨ w = -304 ∨ w = -305
        · exact c4
        · rw [if_neg c4] at h
          cases h
def zst1 (val : Nat → Int32) (w : Int32) (s : (Nat → Int32) × Nat) : (Nat → Int32) × Nat := match zkd9 w with
  | 0 => (zset s.1 s.2 w, s.2 + 1)
  | 1 => (zset s.1 s.2 (val (nv (-w - 307))), s.2 + 1)
  | 2 => (zset s.1 (s.2 - 1) (zbi (s.1 (s.2 - 1) = 0)), s.2)
  | _ => (zset s.1 (s.2 - 2) (zjn (-w) (s.1 (s.2 - 2)) (s.1 (s.2 - 1))), s.2 - 1)
def zsts (val : Nat → Int32) : List Int32 → (Nat → Int32) × Nat → (Nat → Int32) × Nat
  | [], s => s
  | w :: l, s => zsts val l (zst1 val w s)
/-- a list of steps that takes h numbers to h', never more than lim -/
def zrp (lim : Nat) : Nat → List Int32 → Nat → Prop
  | h, [], h' => h = h'
  | h, w :: l, h' => (zkd9 w = 0 ∨ zkd9 w = 1) ∧ h < lim ∧ zrp lim (h + 1) l h' ∨ zkd9 w = 2 ∧ 1 ≤ h ∧ zrp lim h l h' ∨ zkd9 w = 3 ∧ 2 ≤ h ∧ zrp lim (h - 1) l h'
theorem zrp_app {lim : Nat} : ∀ {l r : List Int32} {h m h' : Nat}, zrp lim h l m → zrp lim m r h' → zrp lim h (l ++ r) h'
  | [], r, h, m, h', a, b => by
    have a : h = m := a
    rw [a]
    exact b
  | w :: l, r, h, m, h', a, b => by
    rcases a with ⟨c, d, e⟩ | ⟨c, d, e⟩ | ⟨c, d, e⟩
    · exact Or.inl ⟨c, d, zrp_app e b⟩
    · exact Or.inr (Or.inl ⟨c, d, zrp_app e b⟩)
    · exact Or.inr (Or.inr ⟨c, d, zrp_app e b⟩)
theorem zrp_mono {lim lim' : Nat} (q : lim ≤ lim') : ∀ {l : List Int32} {h h' : Nat}, zrp lim h l h' → zrp lim' h l h'
  | [], _, _, a => a
  | w :: l, h, h', a => by
    rcases a with ⟨c, d, e⟩ | ⟨c, d, e⟩ | ⟨c, d, e⟩
    · exact Or.inl ⟨c, by omega, zrp_mono q e⟩
    · exact Or.inr (Or.inl ⟨c, d, zrp_mono q e⟩)
    · exact Or.inr (Or.inr ⟨c, d, zrp_mono q e⟩)
theorem zset_cg {f g : Nat → Int32} {k h : Nat} {v : Int32} (e : ∀ i, i < h → f i = g i) : ∀ i, i < h → zset f k v i = zset g k v i := by
  intro i hi
  unfold zset
  split
  · rfl
  · exact e i hi
theorem zst1_01 (val : Nat → Int32) {w : Int32} {s : (Nat → Int32) × Nat} (h : zkd9 w = 0 ∨ zkd9 w = 1) : ∃ v, ∀ f, zst1 val w (f, s.2) = (zset f s.2 v, s.2 + 1) := by
  rcases h with h | h
  · refine ⟨w, fun f => ?_⟩
    unfold zst1
    rw [h]
    rfl
  · refine ⟨val (nv (-w - 307)), fun f => ?_⟩
    unfold zst1
    rw [h]
    rfl
theorem zsts_cg (val : Nat → Int32) {lim : Nat} : ∀ (l : List Int32) (h h' : Nat) (f g : Nat → Int32), (∀ i, i < h → f i = g i) → zrp lim h l h' → (zsts val l (f, h)).2 = h' ∧ (zsts val l (g, h)).2 = h' ∧ ∀ i, i < h' → (zsts val l (f, h)).1 i = (zsts val l (g, h)).1 i
  | [], h, h', f, g, e, a => by
    have a : h = h' := a
    subst a
    exact ⟨rfl, rfl, e⟩
  | w :: l, h, h', f, g, e, a => by
    rcases a with ⟨c, d, r⟩ | ⟨c, d, r⟩ | ⟨c, d, r⟩
    · obtain ⟨v, hv⟩ := zst1_01 val (s := (f, h)) c
      have e1 : zsts val (w :: l) (f, h) = zsts val l (zset f h v, h + 1) := congrArg (zsts val l) (hv f)
      have e2 : zsts val (w :: l) (g, h) = zsts val l (zset g h v, h + 1) := congrArg (zsts val l) (hv g)
      rw [e1, e2]
      refine zsts_cg val l (h + 1) h' _ _ (fun i hi => ?_) r
      by_cases q : i = h
      · rw [q, zset_at, zset_at]
      · rw [zset_ne q, zset_ne q]
        exact e i (by omega)
    · have e1 : zsts val (w :: l) (f, h) = zsts val l (zset f (h - 1) (zbi (f (h - 1) = 0)), h) := congrArg (zsts val l) (by unfold zst1; rw [c]; rfl)
      have e2 : zsts val (w :: l) (g, h) = zsts val l (zset g (h - 1) (zbi (g (h - 1) = 0)), h) := congrArg (zsts val l) (by unfold zst1; rw [c]; rfl)
      rw [e1, e2, e (h - 1) (by omega)]
      exact zsts_cg val l h h' _ _ (zset_cg e) r
    · have e1 : zsts val (w :: l) (f, h) = zsts val l (zset f (h - 2) (zjn (-w) (f (h - 2)) (f (h - 1))), h - 1) := congrArg (zsts val l) (by unfold zst1; rw [c]; rfl)
      have e2 : zsts val (w :: l) (g, h) = zsts val l (zset g (h - 2) (zjn (-w) (g (h - 2)) (g (h - 1))), h - 1) := congrArg (zsts val l) (by unfold zst1; rw [c]; rfl)
      rw [e1, e2, e (h - 1) (by omega), e (h - 2) (by omega)]
      exact zsts_cg val l (h - 1) h' _ _ (zset_cg (fun i hi => e i (by omega))) r
def zvl (val : Nat → Int32) (l : List Int32) : Int32 := (zsts val l (fun _ => 0, 0)).1 0
theorem zvl_eq (val : Nat → Int32) {lim : Nat} {l : List Int32} (h : zrp lim 0 l 1) (f : Nat → Int32) : (zsts val l (f, 0)).1 0 = zvl val l := (zsts_cg val l 0 1 f (fun _ => 0) (fun i hi => absurd hi (Nat.not_lt_zero i)) h).2.2 0 (by decide)
/-- a row that holds a list from a place on -/
def zrow (f : Nat → Int32) : Nat → List Int32 → Prop
  | _, [] => True
  | i, w :: l => f i = w ∧ zrow f (i + 1) l
theorem zrow_app {f : Nat → Int32} : ∀ {l r : List Int32} {i : Nat}, zrow f i (l ++ r) ↔ zrow f i l ∧ zrow f (i + l.length) r
  | [], r, i => ⟨fun h => ⟨trivial, h⟩, fun h => h.2⟩
  | w :: l, r, i => by
    have ih := zrow_app (f := f) (l := l) (r := r) (i := i + 1)
    have e : i + (w :: l).length = i + 1 + l.length := by
      rw [List.length_cons]
      omega
    rw [e]
    constructor
    · intro h
      exact ⟨⟨h.1, (ih.mp h.2).1⟩, (ih.mp h.2).2⟩
    · intro h
      exact ⟨h.1.1, ih.mpr ⟨h.1.2, h.2⟩⟩
theorem zrow_cg {f g : Nat → Int32} : ∀ {l : List Int32} {i : Nat}, (∀ j, i ≤ j → j < i + l.length → f j = g j) → zrow f i l → zrow g i l
  | [], _, _, _ => trivial
  | w :: l, i, h, a => by
    have h1 : (w :: l).length = l.length + 1 := List.length_cons
    exact ⟨(h i (Nat.le_refl i) (by omega)).symm.trans a.1, zrow_cg (fun j h2 h3 => h j (by omega) (by omega)) a.2⟩
theorem run_l (xs : Nat → Int32) (L d : Nat) (I : Nat → Nat → Int32) (J : Nat → Nat → Int64) (X : XH) (t u n : Nat) (a3 to : Int32) (hk : hK (zmk I J X) t = (18, 0)) (hr : hR (zmk I J X) t 4 = some u) (hu : hK (zmk I J X) u = (0, n)) (hn : n < 2147483648) (h52 : u ≠ 52) {lim : Nat} (hlim : lim ≤ 400) : ∀ (l : List Int32) (i h h' : Nat) (f : Nat → Int32), zrow (I u) i l → i + l.length ≤ n → h ≤ lim → zrp lim h l h' → zgo xs L (d + 1 + 5) 79 2 (c79L t a3 (Int32.ofNat h) to (Int32.ofNat i)) (zmk (zov I 52 f) J X) = zgo xs L (d + 1 + 5) 79 2 (c79L t a3 (Int32.ofNat h') to (Int32.ofNat (i + l.length))) (zmk (zov I 52 (zsts (I 51) l (f, h)).1) J X)
  | [], i, h, h', f, _, _, _, a => by
    have a : h = h' := a
    rw [a]
    rfl
  | w :: l, i, h, h', f, hw, hi, hh, a => by
    have h1 : (w :: l).length = l.length + 1 := List.length_cons
    have es : zov I 52 f u i = w := by
      rw [zov_ne h52]
      exact hw.1
    have hl : i + (w :: l).length = i + 1 + l.length := by omega
    have w1 := i32_hi w
    have w2 := i32_lo w
    rw [zgo_q, c79_s xs L (d + 1) (zov I 52 f) J X t u n i a3 (Int32.ofNat h) to hk hr hu (by omega) hn, es, hl]
    rcases a with ⟨c, q, r⟩ | ⟨c, q, r⟩ | ⟨c, q, r⟩
    · rcases c with c | c
      · have b := zkd9_0 c
        have e1 : zsts (I 51) (w :: l) (f, h) = zsts (I 51) l (zset f h w, h + 1) := congrArg (zsts (I 51) l) (by unfold zst1; rw [c]; rfl)
        rw [c79_num xs L (d + 1) (zov I 52 f) J X t a3 (Int32.ofNat h) to (Int32.ofNat i) (-w) (by
          rw [i32_le, i32_neg (by omega), i32_0]
          omega), zth_go, Int32.neg_neg, zput_nat (by omega) (by omega), zup_zov, nat_succ, nat_succ, e1]
        exact run_l xs L d I J X t u n a3 to hk hr hu hn h52 hlim l (i + 1) (h + 1) h' _ hw.2 (by omega) (by omega) r
      · have b := zkd9_1 c
        have e1 : zsts (I 51) (w :: l) (f, h) = zsts (I 51) l (zset f h (I 51 (nv (-w - 307))), h + 1) := congrArg (zsts (I 51) l) (by unfold zst1; rw [c]; rfl)
        have en2 : (-w).toInt = -w.toInt := i32_neg (by omega)
        have e307 : (307 : Int32).toInt = 307 := by decide
        have e3 : (-w - 307).toInt = -w.toInt - 307 := by
          rw [i32_sub (by rw [en2, e307]; omega) (by rw [en2, e307]; omega), en2, e307]
        rw [c79_val xs L (d + 1) (zov I 52 f) J X t a3 (Int32.ofNat h) to (Int32.ofNat i) (-w) (by omega), zth_go, zat_of (by omega) (by omega), zov_ne (show 51 ≠ 52 by decide), zput_nat (by omega) (by omega), zup_zov, nat_succ, nat_succ, e1]
        exact run_l xs L d I J X t u n a3 to hk hr hu hn h52 hlim l (i + 1) (h + 1) h' _ hw.2 (by omega) (by omega) r
    · have b := zkd9_2 c
      have e1 : zsts (I 51) (w :: l) (f, h) = zsts (I 51) l (zset f (h - 1) (zbi (f (h - 1) = 0)), h) := congrArg (zsts (I 51) l) (by unfold zst1; rw [c]; rfl)
      obtain ⟨h0, rfl⟩ : ∃ h0, h = h0 + 1 := ⟨h - 1, by omega⟩
      rw [Nat.add_sub_cancel] at e1
      rw [b, show (-(-306 : Int32)) = 306 by decide, c79_5 xs L (d + 1) _ J X t a3 _ to _ 306 (by decide) (by decide), c79_not xs L (d + 1) (zov I 52 f) J X t a3 (Int32.ofNat (h0 + 1)) to (Int32.ofNat i), zth_go, nat_pred, zat_nat (by omega) (by omega), zov_at, zput_nat (by omega) (by omega), zup_zov, nat_succ]
      rw [b] at e1
      rw [e1]
      exact run_l xs L d I J X t u n a3 to hk hr hu hn h52 hlim l (i + 1) (h0 + 1) h' _ hw.2 (by omega) (by omega) r
    · have b := zkd9_3 c
      have e1 : zsts (I 51) (w :: l) (f, h) = zsts (I 51) l (zset f (h - 2) (zjn (-w) (f (h - 2)) (f (h - 1))), h - 1) := congrArg (zsts (I 51) l) (by unfold zst1; rw [c]; rfl)
      obtain ⟨h0, rfl⟩ : ∃ h0, h = h0 + 2 := ⟨h - 2, by omega⟩
      rw [Nat.add_sub_cancel, show h0 + 2 - 1 = h0 + 1 by omega] at e1
      rw [show h0 + 2 - 1 = h0 + 1 by omega] at r
      have bb : (0 < (-w).toInt ∧ (-w).toInt < 307) ∧ ¬ -w = 306 ∧ ¬ -w = 300 ∧ ¬ -w = 301 := by
        rcases b with b | b | b | b | b | b | b | b <;> subst b <;> decide
      rw [c79_5 xs L (d + 1) _ J X t a3 _ to _ (-w) bb.1.1 bb.1.2, c79_bin xs L d (zov I 52 f) J X t a3 (Int32.ofNat (h0 + 2)) to (Int32.ofNat i) (-w) bb.2.1 bb.2.2.1 bb.2.2.2, zth_go, nat_dec, nat_pred, zat_nat (by omega) (by omega), zat_nat (by omega) (by omega), zov_at, zput_nat (by omega) (by omega), zup_zov, nat_succ, e1]
      exact run_l xs L d I J X t u n a3 to hk hr hu hn h52 hlim l (i + 1) (h0 + 1) h' _ hw.2 (by omega) (by omega) r
/-- a text's clauses: toll (or free) and its steps; as the class keeps them, one behind another -/
def yfl : List (Bool × List Int32) → List Int32
  | [] => []
  | (b, l) :: r => l ++ ((if b = true then -300 else -301) :: yfl r)
def zchg (val : Nat → Int32) : Int32 → List (Bool × List Int32) → Int32
  | to, [] => to
  | to, (b, l) :: r => if b = true then zchg val (zmx 0 (zmn 99999 (zvl val l))) r else if zvl val l = 0 then zchg val to r else 0
theorem run_c (xs : Nat → Int32) (L d : Nat) (I : Nat → Nat → Int32) (J : Nat → Nat → Int64) (X : XH) (t u n : Nat) (a3 : Int32) (hk : hK (zmk I J X) t = (18, 0)) (hr : hR (zmk I J X) t 4 = some u) (hu : hK (zmk I J X) u = (0, n)) (hn : n < 2147483648) (h52 : u ≠ 52) {lim : Nat} (hlim : lim ≤ 400) : ∀ (cl : List (Bool × List Int32)) (i : Nat) (to : Int32) (f : Nat → Int32), zrow (I u) i (yfl cl) → i + (yfl cl).length = n → (∀ c, c ∈ cl → zrp lim 0 c.2 1) → ∃ f', zgo xs L (d + 1 + 5) 79 2 (c79L t a3 0 to (Int32.ofNat i)) (zmk (zov I 52 f) J X) = some (.inr (some (.int (zchg (I 51) to cl))), zmk (zov I 52 f') J X)
  | [], i, to, f, _, hi, _ => by
    have hi : i = n := hi
    subst hi
    refine ⟨f, ?_⟩
    rw [zgo_q, c79_e xs L (d + 1) (zov I 52 f) J X t u i a3 0 to (Int32.ofNat i) hk hr hu ((nat_le hn hn).mpr (Nat.le_refl _))]
    rfl
  | (b, l) :: r, i, to, f, hw, hi, hz => by
    have hw : zrow (I u) i (l ++ ((if b = true then -300 else -301) :: yfl r)) := hw
    obtain ⟨w1, w2, w3⟩ := zrow_app.mp hw
    have hlen : (yfl ((b, l) :: r)).length = l.length + 1 + (yfl r).length := by
      show (l ++ ((if b = true then -300 else -301) :: yfl r)).length = _
      rw [List.length_append, List.length_cons]
      omega
    have hzl := hz (b, l) List.mem_cons_self
    have q := run_l xs L d I J X t u n a3 to hk hr hu hn h52 hlim l i 0 1 f w1 (by omega) (Nat.zero_le _) hzl
    have q : zgo xs L (d + 1 + 5) 79 2 (c79L t a3 0 to (Int32.ofNat i)) (zmk (zov I 52 f) J X) = _ := q
    have hv := zvl_eq (I 51) hzl f
    have es : ∀ g, zov I 52 g u (i + l.length) = if b = true then -300 else -301 := fun g => by
      rw [zov_ne h52]
      exact w2
    have hz1 : Int32.ofNat 1 + (-1) = (0 : Int32) := by decide
    have ez : ∀ g : Nat → Int32, zat (zov I 52 g) 52 400 (0 : Int32) = g 0 := fun g => (zat_nat (I := zov I 52 g) (a := 52) (n := 400) (k := 0) (by decide) (by decide)).trans (by rw [zov_at])
    rw [q, zgo_q, c79_s xs L (d + 1) (zov I 52 (zsts (I 51) l (f, 0)).1) J X t u n (i + l.length) a3 (Int32.ofNat 1) to hk hr hu (by omega) hn, es]
    have ih := fun to' => run_c xs L d I J X t u n a3 hk hr hu hn h52 hlim r (i + l.length + 1) to' (zsts (I 51) l (f, 0)).1 w3 (by omega) (fun c hc => hz c (List.mem_cons_of_mem _ hc))
    cases b with
    | true =>
      rw [if_pos rfl, show (-(-300 : Int32)) = 300 by decide, c79_5 xs L (d + 1) _ J X t a3 _ to _ 300 (by decide) (by decide), c79_toll xs L (d + 1), zth_go, hz1, ez, hv, nat_succ]
      have e : zchg (I 51) to ((true, l) :: r) = zchg (I 51) (zmx 0 (zmn 99999 (zvl (I 51) l))) r := if_pos rfl
      rw [e]
      exact ih _
    | false =>
      rw [if_neg (by decide), show (-(-301 : Int32)) = 301 by decide, c79_5 xs L (d + 1) _ J X t a3 _ to _ 301 (by decide) (by decide), c79_free xs L (d + 1), hz1, ez, hv]
      have e : zchg (I 51) to ((false, l) :: r) = if zvl (I 51) l = 0 then zchg (I 51) to r else 0 := if_neg (by decide)
      rw [e]
      by_cases c : zvl (I 51) l = 0
      · rw [if_pos c, if_pos c, zth_go, nat_succ]
        exact ih _
      · rw [if_neg c, if_neg c]
        exact ⟨_, rfl⟩
theorem chargeT_eq (xs : Nat → Int32) (L D : Nat) (hD : 7 ≤ D) (I : Nat → Nat → Int32) (J : Nat → Nat → Int64) (X : XH) (t u : Nat) (cl : List (Bool × List Int32)) (a3 : Int32) (hk : hK (zmk I J X) t = (18, 0)) (hr : hR (zmk I J X) t 4 = some u) (hu : hK (zmk I J X) u = (0, (yfl cl).length)) (hn : (yfl cl).length < 2147483648) (h52 : u ≠ 52) (hst : zrow (I u) 0 (yfl cl)) (hz : ∀ c, c ∈ cl → zrp 40 0 c.2 1) : ∃ f', zev xs L D 79 [.ref t, .ref 51, .ref 52, .int a3] (zmk I J X) = some (.inr (some (.int (zchg (I 51) a3 cl))), zmk (zov I 52 f') J X) := by
  obtain ⟨d, rfl⟩ := Nat.exists_eq_add_of_le hD
  rw [show 7 + d = d + 1 + 5 + 1 by omega]
  obtain ⟨f', q⟩ := run_c xs L d I J X t u _ a3 hk hr hu hn h52 (lim := 40) (by decide) cl 0 a3 (I 52) hst (Nat.zero_add _) hz
  rw [zov_self] at q
  refine ⟨f', ?_⟩
  refine (zcS (S79_0 xs L (d + 1) I J X t a3)).trans ?_
  rw [zth_go]
  exact q
