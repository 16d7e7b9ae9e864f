/-! THE PURE PART: what holds at the law's start. -/
theorem ynone {x : Int32} (hx : x = 0) {p : Nat} {Q : Prop} (h : p < nv x) : Q := by
  subst hx
  exact absurd h (Nat.not_lt_zero _)
theorem yP_now : PNow yI0 := ⟨rfl, by decide, by decide⟩
theorem yP_land : PLand yI0 := ⟨rfl, by decide, by decide⟩
theorem yP_fleet : PFleet yI0 := ⟨⟨rfl, by decide, by decide⟩, ⟨rfl, by decide, by decide⟩, ⟨rfl, by decide, by decide⟩, rfl, rfl, rfl, rfl, rfl, fun p h => ynone rfl h, fun p h => ynone rfl h⟩
theorem yP_sig : PSig yI0 := ⟨⟨rfl, by decide, by decide⟩, ⟨rfl, rfl, rfl, rfl, rfl⟩, fun s h => ynone rfl h, fun s h => ynone rfl h, fun p q _ h => ynone rfl h, fun s h => ynone rfl h⟩
theorem yP_dis : PDis yI0 := ⟨⟨rfl, by decide, by decide⟩, ⟨rfl, by decide, by decide⟩, ⟨rfl, rfl, rfl, rfl⟩, fun s h => ynone rfl h, fun s h => ynone rfl h⟩
theorem yP_net : ∀ a, a < 24 → ∀ b, b < 24 → (yNetF (fun _ => 0) 24 (24 * a + b)).toInt = if a = b then 0 else 1000000000 := by decide +kernel
theorem yP_tb {a b : Nat} (ha : a < 24) (hb : b < 24) : tb (yI0 8) a b = if a = b then 0 else 1000000000 := yP_net a ha b hb
theorem yP_ed {m a b : Nat} {w : Int} : ¬ zed yI0 (nv (yI0 61 4)) a b w := fun ⟨_, h, _⟩ => ynone (x := yI0 61 4) rfl h
theorem yP_road : PRoad yI0 := by
  refine ⟨⟨rfl, by decide, by decide⟩, ⟨rfl, rfl, rfl, rfl, rfl⟩, fun s h => ynone rfl h, fun a b ha hb => ?_⟩
  rw [yP_tb ha hb]
  by_cases c : a = b
  · rw [if_pos c]
    refine ⟨by decide, by decide, fun _ => ⟨0, c, rfl⟩, fun n w h => ?_⟩
    cases n with
    | zero => exact h.2 ▸ Int.le_refl _
    | succ n =>
      obtain ⟨m, w2, h1, _⟩ := h
      exact absurd h1 (yP_ed (m := 0))
  · rw [if_neg c]
    refine ⟨by decide, by decide, fun z => absurd z (by decide), fun n w h => ?_⟩
    cases n with
    | zero => exact absurd h.1 c
    | succ n =>
      obtain ⟨m, w2, h1, _⟩ := h
      exact absurd h1 (yP_ed (m := 0))
theorem yP_tx : PTx yI0 := fun l _ => ⟨by
  rw [show yI0 92 l = 0 from rfl]
  decide, by
  rw [show yI0 92 l = 0 from rfl]
  decide⟩
theorem yP_all : PALL yI0 yJ0 yX0 (fun _ => []) := by
  refine ⟨⟨yP_now, yP_land, yP_fleet, yP_sig, yP_dis, yP_road, yP_tx⟩, ⟨⟨rfl, by decide, by decide⟩, rfl, rfl, rfl, rfl, fun i => Or.inl rfl⟩, ⟨⟨rfl, by decide, by decide⟩, ⟨rfl, rfl⟩, fun i h => ynone rfl h⟩, ⟨⟨rfl, by decide, by decide⟩, rfl, fun i h => ynone rfl h⟩, ⟨by decide, by decide⟩, ⟨⟨rfl, by decide, by decide⟩, fun i h => ynone rfl h, Or.inl rfl⟩, ⟨Nat.le_refl _, ⟨rfl, rfl, rfl⟩, fun l _ => ⟨rfl, fun i h => ynone rfl h⟩⟩, rfl, rfl, rfl, fun l _ _ => rfl⟩
theorem ygoal : zGoal := by
  intro xs L hL
  obtain ⟨h', e, b1, b2⟩ := yloop xs L hL 512 0 yI0 yJ0 yX0 (fun _ => []) (by decide) (by omega) yP_all
  have b1 : hc h' ≤ 123 + 2 * 512 := b1
  have b2 : hs h' ≤ 84458 + 410 * 512 := b2
  exact ⟨60, h', Nat.le_refl _, (y239 xs L).trans e, by omega, by omega⟩
