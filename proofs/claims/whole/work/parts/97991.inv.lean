/-! THE PURE PART: what holds between the law's calls. -/
def PALL (I : Nat → Nat → Int32) (J : Nat → Nat → Int64) (X : XH) (C : Nat → List (Bool × List Int32)) : Prop := PB I ∧ PBlk I ∧ PRat I ∧ PTape I ∧ PWk I ∧ PWay I ∧ PT I X C ∧ I 61 54 = -1 ∧ I 0 12 = I 61 67 ∧ I 0 13 = (J 61 55).toInt32 ∧ ∀ l, l < 9 → nv (I 61 3) ≤ l → I 92 l = 0
/-- room for one call more -/
def PRm (X X2 : XH) : Prop := X2.2.2.2.1 ≤ X.2.2.2.1 + 2 ∧ X2.2.2.2.2 ≤ X.2.2.2.2 + 410
theorem PRm_e {X X2 : XH} (h : X2 = X ∨ X2 = zXe X) : PRm X X2 := by
  rcases h with h | h
  · rw [h]
    exact ⟨by omega, by omega⟩
  · rw [h]
    exact ⟨(show X.2.2.2.1 + 1 ≤ X.2.2.2.1 + 2 by omega), (show X.2.2.2.2 + 6 ≤ X.2.2.2.2 + 410 by omega)⟩
theorem zOut_61 {J J2 : Nat → Nat → Int64} (h : zOut J J2) : J2 61 = J 61 := by
  rcases h with h | ⟨w, h⟩
  · rw [h]
  · rw [h]
    rfl
abbrev ykp (S T l m : List Nat) : Prop := (∀ b, b ∈ l → b ∉ S) ∧ ∀ k, k ∈ m → k ∉ T
theorem mono_k {S T : List Nat} {I I2 : Nat → Nat → Int32} (h : zfr8 S T I I2) {k : Nat} (hk : k ∉ T) : (I 61 k).toInt ≤ (I2 61 k).toInt := by
  rw [h.2 k hk]
  exact Int.le_refl _
theorem PALL_k {S T : List Nat} {I I2 : Nat → Nat → Int32} {J J2 : Nat → Nat → Int64} {X X2 : XH} {C : Nat → List (Bool × List Int32)} (h : zfr8 S T I I2) (p : PALL I J X C) (hX : X2 = X ∨ X2 = zXe X) (hJ : J2 61 = J 61) (m2 : (I 61 2).toInt ≤ (I2 61 2).toInt) (m4 : (I 61 4).toInt ≤ (I2 61 4).toInt) (m7 : (I 61 7).toInt ≤ (I2 61 7).toInt) (m19 : (I 61 19).toInt ≤ (I2 61 19).toInt) (n1 : PNow I2 ∨ ykp S T [0] [2]) (n2 : PLand I2 ∨ ykp S T [1] [3]) (n3 : PFleet I2 ∨ ykp S T [9, 10, 11, 12, 13, 14, 68, 69, 70, 71, 72] [5, 6, 7]) (n4 : PSig I2 ∨ ykp S T [26, 27, 28, 29, 30, 31, 32, 74, 75, 76, 77, 78] [19]) (n5 : PDis I2 ∨ ykp S T [20, 21, 22, 23, 24, 25, 79, 80, 81, 82, 83] [20, 21]) (n6 : PRoad I2 ∨ ykp S T [1, 2, 3, 4, 5, 6, 7, 8, 63, 64, 65, 66, 67, 73] [3, 4]) (n8 : PBlk I2 ∨ ykp S T [39, 40, 41, 42, 43, 84, 85, 86, 91] [22]) (n9 : PRat I2 ∨ ykp S T [44, 45, 46, 47, 48, 87, 88, 89, 90] [23]) (n10 : PTape I2 ∨ ykp S T [35, 36, 104] [57]) (n11 : PWk I2 ∨ ykp S T [49] []) (n12 : PWay I2 ∨ ykp S T [57, 58, 59, 60, 105, 106, 107] [69]) (n7 : ykp S T [16, 19, 92, 93, 94, 95, 96, 97, 98, 99, 100, 101] [3, 54, 67] ∧ ∀ b, b ∈ S → b < 123) (n14 : (I2 0 12 = I 0 12 ∧ I2 0 13 = I 0 13) ∨ ykp S T [0] []) : PALL I2 J2 X2 C ∧ PRm X X2 := by
  obtain ⟨⟨a1, a2, a3, a4, a5, a6, a7⟩, b1, b2, b3, b4, b5, b6, b7, b8, b9, b10⟩ := p
  have hs : ∀ b, b ∈ [16, 19, 92, 93, 94, 95, 96, 97, 98, 99, 100, 101] → b ∉ S := n7.1.1
  have e92 : I2 92 = I 92 := h.1 92 (hs 92 (by decide)) (by decide)
  have z0 : I2 0 12 = I 0 12 ∧ I2 0 13 = I 0 13 := by
    rcases n14 with q | q
    · exact q
    · rw [h.1 0 (q.1 0 (by decide)) (by decide)]
      exact ⟨rfl, rfl⟩
  have t : PT I2 X C := PT_e h hs n7.2 b6
  refine ⟨⟨⟨?_, ?_, ?_, ?_, ?_, ?_, ?_⟩, ?_, ?_, ?_, ?_, ?_, ?_, ?_, ?_, ?_, ?_⟩, PRm_e hX⟩
  · rcases n1 with q | q
    · exact q
    · exact PNow_fr h q.1 q.2 a1
  · rcases n2 with q | q
    · exact q
    · exact PLand_fr h q.1 q.2 a2
  · rcases n3 with q | q
    · exact q
    · exact PFleet_fr h q.1 q.2 a3
  · rcases n4 with q | q
    · exact q
    · exact PSig_fr h q.1 (q.2 19 (by decide)) m7 m4 m2 a4
  · rcases n5 with q | q
    · exact q
    · exact PDis_fr h q.1 (q.2 20 (by decide)) (q.2 21 (by decide)) m19 m4 a5
  · rcases n6 with q | q
    · exact q
    · exact PRoad_fr h (fun b hb => q.1 b (List.mem_cons_of_mem _ hb)) (q.2 4 (by decide)) (by rw [h.1 1 (q.1 1 (by decide)) (by decide)]) (mono_k h (q.2 3 (by decide))) a6
  · exact PTx_fr h (hs 92 (by decide)) a7
  · rcases n8 with q | q
    · exact q
    · exact PBlk_fr h q.1 (q.2 22 (by decide)) b1
  · rcases n9 with q | q
    · exact q
    · exact PRat_fr h q.1 (q.2 23 (by decide)) b2
  · rcases n10 with q | q
    · exact q
    · exact PTape_fr h q.1 (q.2 57 (by decide)) b3
  · rcases n11 with q | q
    · exact q
    · exact PWk_fr h (q.1 49 (by decide)) b4
  · rcases n12 with q | q
    · exact q
    · exact PWay_fr h q.1 (q.2 69 (by decide)) m4 b5
  · rcases hX with q | q
    · rw [q]
      exact t
    · rw [q]
      exact PT_x t
  · rw [h.2 54 (n7.1.2 54 (by decide))]
    exact b7
  · rw [z0.1, h.2 67 (n7.1.2 67 (by decide))]
    exact b8
  · rw [z0.2, hJ]
    exact b9
  · rw [e92, h.2 3 (n7.1.2 3 (by decide))]
    exact b10
