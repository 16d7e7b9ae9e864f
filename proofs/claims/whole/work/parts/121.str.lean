/-! STRINGS: length() and charAt(k) of the constants. Written by wip/whole/mk121.py. -/
abbrev zYl : MethodName := ⟨"java/lang/String", "length", "()I"⟩
abbrev zYc : MethodName := ⟨"java/lang/String", "charAt", "(I)C"⟩
abbrev zYo : MethodName := ⟨"java/lang/String", "coder", "()B"⟩
abbrev zYi : MethodName := ⟨"java/lang/String", "isLatin1", "()Z"⟩
abbrev zYx : MethodName := ⟨"java/lang/String", "checkIndex", "(II)V"⟩
abbrev zY1 : MethodName := ⟨"java/lang/StringLatin1", "charAt", "([BI)C"⟩
abbrev zYp : MethodName := ⟨"jdk/internal/util/Preconditions", "checkIndex", "(IILjava/util/function/BiFunction;)I"⟩
abbrev zKl : Cond := .code zYl prog_24_method_54_code 1 (some .int)
set_option maxRecDepth 20000 in
theorem zwc_l : zKl ∈ zGB := List.mem_filter.mpr ⟨ztb_4 _ (List.mem_of_getElem? (i := 57) rfl), rfl⟩
abbrev zKc : Cond := .code zYc prog_24_method_56_code 2 (some .char)
set_option maxRecDepth 20000 in
theorem zwc_c : zKc ∈ zGB := List.mem_filter.mpr ⟨ztb_4 _ (List.mem_of_getElem? (i := 67) rfl), rfl⟩
abbrev zKo : Cond := .code zYo prog_24_method_152_code 1 (some .byte)
set_option maxRecDepth 20000 in
theorem zwc_o : zKo ∈ zGB := List.mem_filter.mpr ⟨ztb_4 _ (List.mem_of_getElem? (i := 61) rfl), rfl⟩
abbrev zKi : Cond := .code zYi prog_24_method_154_code 1 (some .boolean)
set_option maxRecDepth 20000 in
theorem zwc_i : zKi ∈ zGB := List.mem_filter.mpr ⟨ztb_4 _ (List.mem_of_getElem? (i := 71) rfl), rfl⟩
abbrev zKx : Cond := .code zYx prog_24_method_155_code 2 (none)
set_option maxRecDepth 20000 in
theorem zwc_x : zKx ∈ zGB := List.mem_filter.mpr ⟨ztb_4 _ (List.mem_of_getElem? (i := 77) rfl), rfl⟩
abbrev zK1 : Cond := .code zY1 prog_25_method_2_code 2 (some .char)
set_option maxRecDepth 20000 in
theorem zwc_1 : zK1 ∈ zGB := List.mem_filter.mpr ⟨ztb_4 _ (List.mem_of_getElem? (i := 74) rfl), rfl⟩
abbrev zKp : Cond := .code zYp prog_33_method_11_code 3 (some .int)
set_option maxRecDepth 20000 in
theorem zwc_p : zKp ∈ zGB := List.mem_filter.mpr ⟨ztb_4 _ (List.mem_of_getElem? (i := 82) rfl), rfl⟩
set_option maxRecDepth 20000 in
theorem zwf_v : Cond.fieldLink "java/lang/String" 9 "java/lang/String" "value" "[B" ∈ zGB := List.mem_filter.mpr ⟨ztb_8 _ (List.mem_of_getElem? (i := 181) rfl), rfl⟩
set_option maxRecDepth 20000 in
theorem zwf_o : Cond.fieldLink "java/lang/String" 15 "java/lang/String" "coder" "B" ∈ zGB := List.mem_filter.mpr ⟨ztb_8 _ (List.mem_of_getElem? (i := 182) rfl), rfl⟩
set_option maxRecDepth 20000 in
theorem zwf_s : Cond.fieldLink "java/lang/String" 38 "java/lang/String" "COMPACT_STRINGS" "Z" ∈ zGB := List.mem_filter.mpr ⟨ztb_4 _ (List.mem_of_getElem? (i := 62) rfl), rfl⟩
set_option maxRecDepth 20000 in
theorem zwf_f : Cond.fieldLink "java/lang/String" 1053 "jdk/internal/util/Preconditions" "SIOOBE_FORMATTER" "Ljava/util/function/BiFunction;" ∈ zGB := List.mem_filter.mpr ⟨ztb_4 _ (List.mem_of_getElem? (i := 78) rfl), rfl⟩
set_option maxRecDepth 20000 in
theorem zwm_o : Cond.methodLink "java/lang/String" 335 zYo ∈ zGB := List.mem_filter.mpr ⟨ztb_4 _ (List.mem_of_getElem? (i := 58) rfl), rfl⟩
set_option maxRecDepth 20000 in
theorem zwm_i : Cond.methodLink "java/lang/String" 492 zYi ∈ zGB := List.mem_filter.mpr ⟨ztb_4 _ (List.mem_of_getElem? (i := 68) rfl), rfl⟩
set_option maxRecDepth 20000 in
theorem zwm_1 : Cond.methodLink "java/lang/String" 495 zY1 ∈ zGB := List.mem_filter.mpr ⟨ztb_4 _ (List.mem_of_getElem? (i := 72) rfl), rfl⟩
set_option maxRecDepth 20000 in
theorem zwm_x : Cond.methodLink "java/lang/StringLatin1" 9 zYx ∈ zGB := List.mem_filter.mpr ⟨ztb_4 _ (List.mem_of_getElem? (i := 75) rfl), rfl⟩
set_option maxRecDepth 20000 in
theorem zwm_p : Cond.methodLink "java/lang/String" 1059 zYp ∈ zGB := List.mem_filter.mpr ⟨ztb_4 _ (List.mem_of_getElem? (i := 80) rfl), rfl⟩
set_option maxRecDepth 20000 in
theorem zwi_l : Cond.instanceMethod zYl ∈ zGB := List.mem_filter.mpr ⟨ztb_4 _ (List.mem_of_getElem? (i := 55) rfl), rfl⟩
set_option maxRecDepth 20000 in
theorem zws_l : Cond.selects "java/lang/String" zYl zYl ∈ zGB := List.mem_filter.mpr ⟨ztb_4 _ (List.mem_of_getElem? (i := 56) rfl), rfl⟩
set_option maxRecDepth 20000 in
theorem zwi_c : Cond.instanceMethod zYc ∈ zGB := List.mem_filter.mpr ⟨ztb_4 _ (List.mem_of_getElem? (i := 65) rfl), rfl⟩
set_option maxRecDepth 20000 in
theorem zws_c : Cond.selects "java/lang/String" zYc zYc ∈ zGB := List.mem_filter.mpr ⟨ztb_4 _ (List.mem_of_getElem? (i := 66) rfl), rfl⟩
set_option maxRecDepth 20000 in
theorem zwi_o : Cond.instanceMethod zYo ∈ zGB := List.mem_filter.mpr ⟨ztb_4 _ (List.mem_of_getElem? (i := 59) rfl), rfl⟩
set_option maxRecDepth 20000 in
theorem zws_o : Cond.selects "java/lang/String" zYo zYo ∈ zGB := List.mem_filter.mpr ⟨ztb_4 _ (List.mem_of_getElem? (i := 60) rfl), rfl⟩
set_option maxRecDepth 20000 in
theorem zwi_i : Cond.instanceMethod zYi ∈ zGB := List.mem_filter.mpr ⟨ztb_4 _ (List.mem_of_getElem? (i := 69) rfl), rfl⟩
set_option maxRecDepth 20000 in
theorem zws_i : Cond.selects "java/lang/String" zYi zYi ∈ zGB := List.mem_filter.mpr ⟨ztb_4 _ (List.mem_of_getElem? (i := 70) rfl), rfl⟩
set_option maxRecDepth 20000 in
theorem zwt_1 : Cond.static zY1 ∈ zGB := List.mem_filter.mpr ⟨ztb_4 _ (List.mem_of_getElem? (i := 73) rfl), rfl⟩
set_option maxRecDepth 20000 in
theorem zwt_x : Cond.static zYx ∈ zGB := List.mem_filter.mpr ⟨ztb_4 _ (List.mem_of_getElem? (i := 76) rfl), rfl⟩
set_option maxRecDepth 20000 in
theorem zwt_p : Cond.static zYp ∈ zGB := List.mem_filter.mpr ⟨ztb_4 _ (List.mem_of_getElem? (i := 81) rfl), rfl⟩
set_option maxRecDepth 20000 in
theorem zwn_s : Cond.initialized "java/lang/String" ∈ zGB := List.mem_filter.mpr ⟨ztb_1 _ (List.mem_of_getElem? (i := 21) rfl), rfl⟩
set_option maxRecDepth 20000 in
theorem zwn_1 : Cond.initialized "java/lang/StringLatin1" ∈ zGB := List.mem_filter.mpr ⟨ztb_1 _ (List.mem_of_getElem? (i := 22) rfl), rfl⟩
set_option maxRecDepth 20000 in
theorem zwn_p : Cond.initialized "jdk/internal/util/Preconditions" ∈ zGB := List.mem_filter.mpr ⟨ztb_1 _ (List.mem_of_getElem? (i := 23) rfl), rfl⟩
theorem zdl_0 : decode prog_24_method_54_code 0 = .ok (.aload_n 0, 1) := by decide +kernel
theorem zdl_1 : decode prog_24_method_54_code 1 = .ok (.getfield 9, 3) := by decide +kernel
theorem zdl_4 : decode prog_24_method_54_code 4 = .ok (.arraylength, 1) := by decide +kernel
theorem zdl_5 : decode prog_24_method_54_code 5 = .ok (.aload_n 0, 1) := by decide +kernel
theorem zdl_6 : decode prog_24_method_54_code 6 = .ok (.invokevirtual 335, 3) := by decide +kernel
theorem zdl_9 : decode prog_24_method_54_code 9 = .ok (.ishr, 1) := by decide +kernel
theorem zdl_10 : decode prog_24_method_54_code 10 = .ok (.ireturn, 1) := by decide +kernel
theorem zdc_0 : decode prog_24_method_56_code 0 = .ok (.aload_n 0, 1) := by decide +kernel
theorem zdc_1 : decode prog_24_method_56_code 1 = .ok (.invokevirtual 492, 3) := by decide +kernel
theorem zdc_4 : decode prog_24_method_56_code 4 = .ok (.ifCond .eq 12, 3) := by decide +kernel
theorem zdc_7 : decode prog_24_method_56_code 7 = .ok (.aload_n 0, 1) := by decide +kernel
theorem zdc_8 : decode prog_24_method_56_code 8 = .ok (.getfield 9, 3) := by decide +kernel
theorem zdc_11 : decode prog_24_method_56_code 11 = .ok (.iload_n 1, 1) := by decide +kernel
theorem zdc_12 : decode prog_24_method_56_code 12 = .ok (.invokestatic 495, 3) := by decide +kernel
theorem zdc_15 : decode prog_24_method_56_code 15 = .ok (.ireturn, 1) := by decide +kernel
theorem zdc_16 : decode prog_24_method_56_code 16 = .ok (.aload_n 0, 1) := by decide +kernel
theorem zdc_17 : decode prog_24_method_56_code 17 = .ok (.getfield 9, 3) := by decide +kernel
theorem zdc_20 : decode prog_24_method_56_code 20 = .ok (.iload_n 1, 1) := by decide +kernel
theorem zdc_21 : decode prog_24_method_56_code 21 = .ok (.invokestatic 498, 3) := by decide +kernel
theorem zdc_24 : decode prog_24_method_56_code 24 = .ok (.ireturn, 1) := by decide +kernel
theorem zdo_0 : decode prog_24_method_152_code 0 = .ok (.getstatic 38, 3) := by decide +kernel
theorem zdo_3 : decode prog_24_method_152_code 3 = .ok (.ifCond .eq 10, 3) := by decide +kernel
theorem zdo_6 : decode prog_24_method_152_code 6 = .ok (.aload_n 0, 1) := by decide +kernel
theorem zdo_7 : decode prog_24_method_152_code 7 = .ok (.getfield 15, 3) := by decide +kernel
theorem zdo_10 : decode prog_24_method_152_code 10 = .ok (.goto 4, 3) := by decide +kernel
theorem zdo_13 : decode prog_24_method_152_code 13 = .ok (.iconst 1, 1) := by decide +kernel
theorem zdo_14 : decode prog_24_method_152_code 14 = .ok (.ireturn, 1) := by decide +kernel
theorem zdi_0 : decode prog_24_method_154_code 0 = .ok (.getstatic 38, 3) := by decide +kernel
theorem zdi_3 : decode prog_24_method_154_code 3 = .ok (.ifCond .eq 14, 3) := by decide +kernel
theorem zdi_6 : decode prog_24_method_154_code 6 = .ok (.aload_n 0, 1) := by decide +kernel
theorem zdi_7 : decode prog_24_method_154_code 7 = .ok (.getfield 15, 3) := by decide +kernel
theorem zdi_10 : decode prog_24_method_154_code 10 = .ok (.ifCond .ne 7, 3) := by decide +kernel
theorem zdi_13 : decode prog_24_method_154_code 13 = .ok (.iconst 1, 1) := by decide +kernel
theorem zdi_14 : decode prog_24_method_154_code 14 = .ok (.goto 4, 3) := by decide +kernel
theorem zdi_17 : decode prog_24_method_154_code 17 = .ok (.iconst 0, 1) := by decide +kernel
theorem zdi_18 : decode prog_24_method_154_code 18 = .ok (.ireturn, 1) := by decide +kernel
theorem zdx_0 : decode prog_24_method_155_code 0 = .ok (.iload_n 0, 1) := by decide +kernel
theorem zdx_1 : decode prog_24_method_155_code 1 = .ok (.iload_n 1, 1) := by decide +kernel
theorem zdx_2 : decode prog_24_method_155_code 2 = .ok (.getstatic 1053, 3) := by decide +kernel
theorem zdx_5 : decode prog_24_method_155_code 5 = .ok (.invokestatic 1059, 3) := by decide +kernel
theorem zdx_8 : decode prog_24_method_155_code 8 = .ok (.pop, 1) := by decide +kernel
theorem zdx_9 : decode prog_24_method_155_code 9 = .ok (.return_, 1) := by decide +kernel
theorem zd1_0 : decode prog_25_method_2_code 0 = .ok (.iload_n 1, 1) := by decide +kernel
theorem zd1_1 : decode prog_25_method_2_code 1 = .ok (.aload_n 0, 1) := by decide +kernel
theorem zd1_2 : decode prog_25_method_2_code 2 = .ok (.arraylength, 1) := by decide +kernel
theorem zd1_3 : decode prog_25_method_2_code 3 = .ok (.invokestatic 9, 3) := by decide +kernel
theorem zd1_6 : decode prog_25_method_2_code 6 = .ok (.aload_n 0, 1) := by decide +kernel
theorem zd1_7 : decode prog_25_method_2_code 7 = .ok (.iload_n 1, 1) := by decide +kernel
theorem zd1_8 : decode prog_25_method_2_code 8 = .ok (.baload, 1) := by decide +kernel
theorem zd1_9 : decode prog_25_method_2_code 9 = .ok (.sipush 255, 3) := by decide +kernel
theorem zd1_12 : decode prog_25_method_2_code 12 = .ok (.iand, 1) := by decide +kernel
theorem zd1_13 : decode prog_25_method_2_code 13 = .ok (.i2c, 1) := by decide +kernel
theorem zd1_14 : decode prog_25_method_2_code 14 = .ok (.ireturn, 1) := by decide +kernel
theorem zdp_0 : decode prog_33_method_11_code 0 = .ok (.iload_n 0, 1) := by decide +kernel
theorem zdp_1 : decode prog_33_method_11_code 1 = .ok (.ifCond .lt 8, 3) := by decide +kernel
theorem zdp_4 : decode prog_33_method_11_code 4 = .ok (.iload_n 0, 1) := by decide +kernel
theorem zdp_5 : decode prog_33_method_11_code 5 = .ok (.iload_n 1, 1) := by decide +kernel
theorem zdp_6 : decode prog_33_method_11_code 6 = .ok (.if_icmp .lt 10, 3) := by decide +kernel
theorem zdp_9 : decode prog_33_method_11_code 9 = .ok (.aload_n 2, 1) := by decide +kernel
theorem zdp_10 : decode prog_33_method_11_code 10 = .ok (.iload_n 0, 1) := by decide +kernel
theorem zdp_11 : decode prog_33_method_11_code 11 = .ok (.iload_n 1, 1) := by decide +kernel
theorem zdp_12 : decode prog_33_method_11_code 12 = .ok (.invokestatic 95, 3) := by decide +kernel
theorem zdp_15 : decode prog_33_method_11_code 15 = .ok (.athrow, 1) := by decide +kernel
theorem zdp_16 : decode prog_33_method_11_code 16 = .ok (.iload_n 0, 1) := by decide +kernel
theorem zdp_17 : decode prog_33_method_11_code 17 = .ok (.ireturn, 1) := by decide +kernel
def zsr (k : Nat) : Room := { frames := k, cells := 0, slots := 0, locals := 60 * k + 40 }
def zSP (X : Nat → Nat) (as : List Value) : Array Value → State → Prop := va_Pc as (fun U => zX U (fun _ => False) X)
def zSQ (v : Int32) : Array Value → State → Outcome → State → Prop := va_Qi (S := Unit) (fun r _ => r = v) (fun _ _ => True) (fun _ => False)
theorem zSP_blind {X : Nat → Nat} {as : List Value} : FrameBlind (zSP X as) := fun a U g mk ⟨h0, h1⟩ => ⟨h0, h1.same rfl rfl⟩
theorem zSG {w : Cond} (h : w ∈ zGB) : GoodIn zGB [w] := fun u hu => by rw [List.mem_singleton.mp hu]; exact ⟨h, good_of_word (List.mem_filter.mp h).2⟩
theorem zGB_good {w : Cond} {Ts : List Cond} (hw : w ∈ zGB) (hT : ∀ u ∈ zGB, u ∈ Ts) : GoodIn Ts (w :: zGB) := by
  intro u hu
  rcases List.mem_cons.mp hu with rfl | hu
  · exact ⟨hT _ hw, good_of_word (List.mem_filter.mp hw).2⟩
  · exact ⟨hT _ hu, good_of_word (List.mem_filter.mp hu).2⟩
theorem zs_coder (l : Launch) (X : Nat → Nat) (j : Nat) (hj : j < 16) : Met l zYo (zKo :: zGB) (zsr 1) (zSP X [.ref (X j)]) (zSQ 0) 0 0 (fun _ => False) := by
  refine va_MetF (by decide +kernel) rfl ?_
  intro p e s m args below meth c s₁ B hml hv
  obtain ⟨rfl, hX⟩ := hv
  obtain ⟨adV, h1, h2, h3, h4, h5, h6, h7, hCS, hSF⟩ := hX
  have hx := B.exec
  have hb := B.bytes
  have hr := B.returns
  have hts : ∀ w ∈ zGB, w.before _ s = true := fun w hw => atoms_spec (ws := zKo :: zGB) B.pre w (List.mem_cons_of_mem _ hw)
  have hown : s.vm.findClass "java/lang/String" = some m.cls := findClass_of_methodNamed B.named
  have hlocks := B.notSynchronized
  have hS : va_S (fun _ => False) s.heap s.heap [] := va_S.rf
  have hl := lv_entry ([.ref (X j)]) (n := 1) (Nat.le_of_ble_eq_true rfl)
  rw [lg_entry_eq]
  generalize (lg_sl ([.ref (X j)]) ++ List.replicate (1 - (lg_sl ([.ref (X j)])).length) Slot.unset).toArray = ls at hl ⊢
  have hl : lv_has ls 1 [(0, .ref (X j))] := hl
  refine va_gets hx hb hCS hS hown (hts _ zwf_s) (fun _ h => h) zdo_0 ?_
  refine lv_if_eq (tgt := 13) hx hb zdo_3 (by decide) (fun q => absurd q (by decide)) (fun _ => ?_)
  refine lv_aload_n hx hb zdo_6 rfl (lv_at hl 0 rfl) ?_
  refine vk_getf hx hb (h2.1 j hj).2.1 hS hown (hts _ zwf_o) (fun _ h => h) zdo_7 ?_
  refine lv_goto (tgt := 14) hx hb zdo_10 (by decide) ?_
  exact W.zret hx hb hr rfl (fun t ht _ => ⟨⟨0, (), rfl, rfl, trivial⟩, hS.F ht⟩) hS.2.2 zdo_14 (hlocks := hlocks)
theorem zs_latin (l : Launch) (X : Nat → Nat) (j : Nat) (hj : j < 16) : Met l zYi (zKi :: zGB) (zsr 1) (zSP X [.ref (X j)]) (zSQ 1) 0 0 (fun _ => False) := by
  refine va_MetF (by decide +kernel) rfl ?_
  intro p e s m args below meth c s₁ B hml hv
  obtain ⟨rfl, hX⟩ := hv
  obtain ⟨adV, h1, h2, h3, h4, h5, h6, h7, hCS, hSF⟩ := hX
  have hx := B.exec
  have hb := B.bytes
  have hr := B.returns
  have hts : ∀ w ∈ zGB, w.before _ s = true := fun w hw => atoms_spec (ws := zKi :: zGB) B.pre w (List.mem_cons_of_mem _ hw)
  have hown : s.vm.findClass "java/lang/String" = some m.cls := findClass_of_methodNamed B.named
  have hlocks := B.notSynchronized
  have hS : va_S (fun _ => False) s.heap s.heap [] := va_S.rf
  have hl := lv_entry ([.ref (X j)]) (n := 1) (Nat.le_of_ble_eq_true rfl)
  rw [lg_entry_eq]
  generalize (lg_sl ([.ref (X j)]) ++ List.replicate (1 - (lg_sl ([.ref (X j)])).length) Slot.unset).toArray = ls at hl ⊢
  have hl : lv_has ls 1 [(0, .ref (X j))] := hl
  refine va_gets hx hb hCS hS hown (hts _ zwf_s) (fun _ h => h) zdi_0 ?_
  refine lv_if_eq (tgt := 17) hx hb zdi_3 (by decide) (fun q => absurd q (by decide)) (fun _ => ?_)
  refine lv_aload_n hx hb zdi_6 rfl (lv_at hl 0 rfl) ?_
  refine vk_getf hx hb (h2.1 j hj).2.1 hS hown (hts _ zwf_o) (fun _ h => h) zdi_7 ?_
  refine lv_if_ne (tgt := 17) hx hb zdi_10 (by decide) (fun q => absurd rfl q) (fun _ => ?_)
  refine lv_iconst (v := 1) hx hb zdi_13 (by decide) ?_
  refine lv_goto (tgt := 18) hx hb zdi_14 (by decide) ?_
  exact W.zret hx hb hr rfl (fun t ht _ => ⟨⟨1, (), rfl, rfl, trivial⟩, hS.F ht⟩) hS.2.2 zdi_18 (hlocks := hlocks)
theorem zs_len (l : Launch) (X : Nat → Nat) (j : Nat) (hj : j < 16) : Met l zYl (zKl :: zGB) (zsr 2) (zSP X [.ref (X j)]) (zSQ (Int32.ofNat (zlen j))) 0 0 (fun _ => False) := by
  refine va_MetF (by decide +kernel) rfl ?_
  intro p e s m args below meth c s₁ B hml hv
  obtain ⟨rfl, hX⟩ := hv
  have hX0 := hX
  obtain ⟨adV, h1, h2, h3, h4, h5, h6, h7, hCS, hSF⟩ := hX
  have hx := B.exec
  have hb := B.bytes
  have hr := B.returns
  have hts : ∀ w ∈ zGB, w.before _ s = true := fun w hw => atoms_spec (ws := zKl :: zGB) B.pre w (List.mem_cons_of_mem _ hw)
  have hown : s.vm.findClass "java/lang/String" = some m.cls := findClass_of_methodNamed B.named
  have hlocks := B.notSynchronized
  have hS : va_S (fun _ => False) s.heap s.heap [] := va_S.rf
  have hl := lv_entry ([.ref (X j)]) (n := 1) (Nat.le_of_ble_eq_true rfl)
  rw [lg_entry_eq]
  generalize (lg_sl ([.ref (X j)]) ++ List.replicate (1 - (lg_sl ([.ref (X j)])).length) Slot.unset).toArray = ls at hl ⊢
  have hl : lv_has ls 1 [(0, .ref (X j))] := hl
  obtain ⟨g1, g2, g3, g4⟩ := h2.1 j hj
  refine lv_aload_n hx hb zdl_0 rfl (lv_at hl 0 rfl) ?_
  refine vk_getf hx hb g3 hS hown (hts _ zwf_v) (fun _ h => h) zdl_1 ?_
  refine va_tlen hx hb g4 hS rfl zdl_4 ?_
  refine lv_aload_n hx hb zdl_5 rfl (lv_at hl 0 rfl) ?_
  refine va_calli (va_runV (As := []) (rest := [.int _]) ⟨hx, hb, hml, hown, hts⟩ (zs_coder l X j hj) ⟨callB_of (ws' := zGB) 0 hts (zGB_good zwc_o (fun _ h => h)) rfl rfl rfl (hts _ zwn_s) (hts _ zwm_o) (by decide +kernel) ⟨Nat.le_of_ble_eq_true rfl, Nat.le_of_ble_eq_true rfl⟩, hts _ zwi_o, hts _ zws_o⟩ ⟨zSP_blind, vk_recv h2 hj hS, fun U hU hW => ⟨rfl, hX0.go hW hU (fun _ _ _ => rfl) (fun _ h => h)⟩⟩ rfl rfl hl.1 rfl (lv_room (Nat.le_of_ble_eq_true rfl)) zdl_6 ⟨Nat.zero_le _, Nat.zero_le _⟩) hS (fun _ _ h => h) (fun _ h => h) (fun r u t H1 locs1 ht hal hw _ hz hk hS1 => ?_)
  subst hw
  refine lv_ishr hx hb zdl_9 ?_
  have e1 : Int32.ofNat ((zstr.map List.length).getD j 0) >>> ((0 : Int32) &&& 31) = Int32.ofNat (zlen j) := by
    have h9 : ∀ j, j < 16 → Int32.ofNat ((zstr.map List.length).getD j 0) >>> ((0 : Int32) &&& 31) = Int32.ofNat (zlen j) := by decide +kernel
    exact h9 j hj
  rw [e1]
  exact W.iret hx hb hr (fun t ht _ => ⟨⟨_, (), rfl, rfl, trivial⟩, hS1.F ht⟩) hS1.2.2 zdl_10 (hlocks := hlocks)
theorem zs_pre (l : Launch) (X : Nat → Nat) (i n : Int32) (f : Value) (hf : f = .null ∨ ∃ t, f = .ref t) (h0 : ¬ i < 0) (h1 : i < n) : Met l zYp (zKp :: zGB) (zsr 0) (zSP X [.int i, .int n, f]) (zSQ i) 0 0 (fun _ => False) := by
  refine va_MetF (by decide +kernel) rfl ?_
  intro p e s m args below meth c s₁ B hml hv
  obtain ⟨rfl, hX⟩ := hv
  have hx := B.exec
  have hb := B.bytes
  have hr := B.returns
  have hlocks := B.notSynchronized
  have hS : va_S (fun _ => False) s.heap s.heap [] := va_S.rf
  have hl3 : (lg_sl ([.int i, .int n, f])).length ≤ 3 := by rcases hf with rfl | ⟨t, rfl⟩ <;> exact Nat.le_of_ble_eq_true rfl
  have hl := lv_entry ([.int i, .int n, f]) hl3
  have hlv : lv_args 0 [.int i, .int n, f] = [(0, .int i), (1, .int n), (2, f)] := rfl
  rw [hlv] at hl
  rw [lg_entry_eq]
  generalize (lg_sl ([.int i, .int n, f]) ++ List.replicate (3 - (lg_sl ([.int i, .int n, f])).length) Slot.unset).toArray = ls at hl ⊢
  refine lv_iload_n hx hb zdp_0 rfl (lv_at hl 0 rfl) ?_
  refine lv_if_lt (tgt := 9) hx hb zdp_1 (by decide) (fun q => absurd q h0) (fun _ => ?_)
  refine lv_iload_n hx hb zdp_4 rfl (lv_at hl 0 rfl) ?_
  refine lv_iload_n hx hb zdp_5 rfl (lv_at hl 1 rfl) ?_
  refine lv_icmp_lt (tgt := 16) hx hb zdp_6 (by decide) (fun _ => ?_) (fun q => absurd h1 q)
  refine lv_iload_n hx hb zdp_16 rfl (lv_at hl 0 rfl) ?_
  exact W.iret hx hb hr (fun t ht _ => ⟨⟨_, (), rfl, rfl, trivial⟩, hS.F ht⟩) hS.2.2 zdp_17 (hlocks := hlocks)

theorem zlt_of {i : Int32} {n : Nat} (hn : n < 2147483648) (h0 : ¬ i < 0) (h1 : i.toNatClampNeg < n) : i < Int32.ofNat n := by
  have e : (Int32.ofNat n).toInt = (n : Int) := by
    first | exact Int32.toInt_ofNat_of_lt hn | exact Int32.toInt_ofNat_small hn | (rw [Int32.toInt_ofNat]; exact Jvm.Kit.bmod32 (by omega) (by omega))
  have z : ¬ i.toInt < 0 := fun q => h0 (Int32.lt_iff_toInt_lt.mpr (by have : (0 : Int32).toInt = 0 := by decide
                                                                       omega))
  rw [Int32.lt_iff_toInt_lt, e]
  have h2 : i.toInt.toNat < n := h1
  omega
def zSV : Array Value → State → Outcome → State → Prop := va_Qv (S := Unit) (fun _ => True) (fun _ _ => True) (fun _ => False)
theorem zs_chk (l : Launch) (X : Nat → Nat) (i n : Int32) (h0 : ¬ i < 0) (h1 : i < n) : Met l zYx (zKx :: zGB) (zsr 1) (zSP X [.int i, .int n]) zSV 0 0 (fun _ => False) := by
  refine va_MetF (by decide +kernel) rfl ?_
  intro p e s m args below meth c s₁ B hml hv
  obtain ⟨rfl, hX⟩ := hv
  have hX0 := hX
  obtain ⟨adV, g1, g2, g3, g4, g5, g6, g7, hCS, hSF⟩ := hX
  have hx := B.exec
  have hb := B.bytes
  have hr := B.returns
  have hts : ∀ w ∈ zGB, w.before _ s = true := fun w hw => atoms_spec (ws := zKx :: zGB) B.pre w (List.mem_cons_of_mem _ hw)
  have hown : s.vm.findClass "java/lang/String" = some m.cls := findClass_of_methodNamed B.named
  have hlocks := B.notSynchronized
  have hS : va_S (fun _ => False) s.heap s.heap [] := va_S.rf
  have hl := lv_entry ([.int i, .int n]) (n := 2) (Nat.le_of_ble_eq_true rfl)
  rw [lg_entry_eq]
  generalize (lg_sl ([.int i, .int n]) ++ List.replicate (2 - (lg_sl ([.int i, .int n])).length) Slot.unset).toArray = ls at hl ⊢
  have hl : lv_has ls 2 [(0, .int i), (1, .int n)] := hl
  refine lv_iload_n hx hb zdx_0 rfl (lv_at hl 0 rfl) ?_
  refine lv_iload_n hx hb zdx_1 rfl (lv_at hl 1 rfl) ?_
  rcases hSF with hSF | ⟨t0, hSF⟩
  · refine va_gets hx hb hSF hS hown (hts _ zwf_f) (fun _ h => h) zdx_2 ?_
    refine va_calli (va_runS (As := [.int i, .int n, .null]) (rest := []) ⟨hx, hb, hml, hown, hts⟩ (zs_pre l X i n .null (Or.inl rfl) h0 h1) ⟨callB_of (ws' := zGB) 3 hts (zGB_good zwc_p (fun _ h => h)) rfl rfl rfl (hts _ zwn_p) (hts _ zwm_p) (by decide +kernel) ⟨Nat.le_of_ble_eq_true rfl, Nat.le_of_ble_eq_true rfl⟩, hts _ zwt_p⟩ ⟨zSP_blind, fun U hU hW => ⟨rfl, hX0.go hW hU (fun _ _ _ => rfl) (fun _ h => h)⟩⟩ rfl rfl hl.1 rfl (lv_room (Nat.le_of_ble_eq_true rfl)) zdx_5 ⟨Nat.zero_le _, Nat.zero_le _⟩) hS (fun _ _ h => h) (fun _ h => h) (fun r u t H1 locs1 ht hal hw _ hz hk hS1 => ?_)
    refine lv_pop hx hb zdx_8 rfl ?_
    exact W.vret hx hb hr (fun t ht _ => ⟨⟨(), rfl, trivial, trivial⟩, hS1.F ht⟩) hS1.2.2 zdx_9 (hlocks := hlocks)
  · refine va_gets hx hb hSF hS hown (hts _ zwf_f) (fun _ h => h) zdx_2 ?_
    refine va_calli (va_runS (As := [.int i, .int n, (.ref t0)]) (rest := []) ⟨hx, hb, hml, hown, hts⟩ (zs_pre l X i n (.ref t0) (Or.inr ⟨t0, rfl⟩) h0 h1) ⟨callB_of (ws' := zGB) 3 hts (zGB_good zwc_p (fun _ h => h)) rfl rfl rfl (hts _ zwn_p) (hts _ zwm_p) (by decide +kernel) ⟨Nat.le_of_ble_eq_true rfl, Nat.le_of_ble_eq_true rfl⟩, hts _ zwt_p⟩ ⟨zSP_blind, fun U hU hW => ⟨rfl, hX0.go hW hU (fun _ _ _ => rfl) (fun _ h => h)⟩⟩ rfl rfl hl.1 rfl (lv_room (Nat.le_of_ble_eq_true rfl)) zdx_5 ⟨Nat.zero_le _, Nat.zero_le _⟩) hS (fun _ _ h => h) (fun _ h => h) (fun r u t H1 locs1 ht hal hw _ hz hk hS1 => ?_)
    refine lv_pop hx hb zdx_8 rfl ?_
    exact W.vret hx hb hr (fun t ht _ => ⟨⟨(), rfl, trivial, trivial⟩, hS1.F ht⟩) hS1.2.2 zdx_9 (hlocks := hlocks)
def zSP1 (X : Nat → Nat) (t n : Nat) (f : Nat → Value) (i : Int32) : Array Value → State → Prop := va_Pc [.ref t, .int i] (fun U => zX U (fun _ => False) X ∧ va_T .byte t n f (fun _ => False) U U.heap)
theorem zSP1_blind {X : Nat → Nat} {t n : Nat} {f : Nat → Value} {i : Int32} : FrameBlind (zSP1 X t n f i) := fun a U g mk ⟨h0, h1, h2⟩ => ⟨h0, h1.same rfl rfl, va_T.moved (u := U) (U := U.calling g mk a) (Vm.Alike.refl U.vm) h2⟩
theorem zs_c1 (l : Launch) (X : Nat → Nat) (t n : Nat) (f : Nat → Int32) (i v : Int32) (hn : n < 2147483648) (h0 : ¬ i < 0) (h1 : i.toNatClampNeg < n) (hv : ((f i.toNatClampNeg &&& 255).toUInt32 % 65536).toInt32 = v) (hnr : narrow .char (.int v) = .int v) : Met l zY1 (zK1 :: zGB) (zsr 2) (zSP1 X t n (fun k => .int (f k)) i) (zSQ v) 0 0 (fun _ => False) := by
  refine va_MetF (by decide +kernel) rfl ?_
  intro p e s m args below meth c s₁ B hml hv0
  obtain ⟨rfl, hX, hT⟩ := hv0
  have hX0 := hX
  have hx := B.exec
  have hb := B.bytes
  have hr := B.returns
  have hts : ∀ w ∈ zGB, w.before _ s = true := fun w hw => atoms_spec (ws := zK1 :: zGB) B.pre w (List.mem_cons_of_mem _ hw)
  have hown : s.vm.findClass "java/lang/StringLatin1" = some m.cls := findClass_of_methodNamed B.named
  have hlocks := B.notSynchronized
  have hS : va_S (fun _ => False) s.heap s.heap [] := va_S.rf
  have hl := lv_entry ([.ref t, .int i]) (n := 2) (Nat.le_of_ble_eq_true rfl)
  rw [lg_entry_eq]
  generalize (lg_sl ([.ref t, .int i]) ++ List.replicate (2 - (lg_sl ([.ref t, .int i])).length) Slot.unset).toArray = ls at hl ⊢
  have hl : lv_has ls 2 [(0, .ref t), (1, .int i)] := hl
  refine lv_iload_n hx hb zd1_0 rfl (lv_at hl 1 rfl) ?_
  refine lv_aload_n hx hb zd1_1 rfl (lv_at hl 0 rfl) ?_
  refine va_tlen hx hb hT hS rfl zd1_2 ?_
  refine va_callv (va_runS (As := [.int i, .int (Int32.ofNat n)]) (rest := []) ⟨hx, hb, hml, hown, hts⟩ (zs_chk l X i (Int32.ofNat n) h0 (zlt_of hn h0 h1)) ⟨callB_of (ws' := zGB) 2 hts (zGB_good zwc_x (fun _ h => h)) rfl rfl rfl (hts _ zwn_s) (hts _ zwm_x) (by decide +kernel) ⟨Nat.le_of_ble_eq_true rfl, Nat.le_of_ble_eq_true rfl⟩, hts _ zwt_x⟩ ⟨zSP_blind, fun U hU hW => ⟨rfl, hX0.go hW hU (fun _ _ _ => rfl) (fun _ h => h)⟩⟩ rfl rfl hl.1 rfl (lv_room (Nat.le_of_ble_eq_true rfl)) zd1_3 ⟨Nat.zero_le _, Nat.zero_le _⟩) hS (fun _ _ h => h) (fun _ h => h) (fun u t1 H1 locs1 ht hal hw _ hz hk hS1 => ?_)
  refine lv_aload_n hx hb zd1_6 rfl (lv_at hl 0 rfl) ?_
  refine lv_iload_n hx hb zd1_7 rfl (lv_at hl 1 rfl) ?_
  refine va_tb hx hb hT hS1 (fun q => q.elim h0 (fun z => absurd h1 (by omega))) rfl zd1_8 ?_
  refine lv_sipush (v := 255) hx hb zd1_9 (by decide) ?_
  refine lv_iand hx hb zd1_12 ?_
  refine lv_i2c hx hb zd1_13 hv ?_
  exact W.zret hx hb hr hnr (fun t ht _ => ⟨⟨_, (), rfl, rfl, trivial⟩, hS1.F ht⟩) hS1.2.2 zd1_14 (hlocks := hlocks)
theorem zs_chars : ∀ j, j < 16 → (zstr.map List.length).getD j 0 = zlen j ∧ zlen j < 2147483648 ∧ ∀ k, k < zlen j → (((zstr.getD j []).getD k 0 &&& 255).toUInt32 % 65536).toInt32 = zch j k ∧ narrow .char (.int (zch j k)) = .int (zch j k) := by decide +kernel
theorem zs_char (l : Launch) (X : Nat → Nat) (j : Nat) (hj : j < 16) (i : Int32) (h0 : ¬ i < 0) (h1 : i.toNatClampNeg < zlen j) : Met l zYc (zKc :: zGB) (zsr 3) (zSP X [.ref (X j), .int i]) (zSQ (zch j i.toNatClampNeg)) 0 0 (fun _ => False) := by
  refine va_MetF (by decide +kernel) rfl ?_
  intro p e s m args below meth c s₁ B hml hv
  obtain ⟨rfl, hX⟩ := hv
  have hX0 := hX
  obtain ⟨adV, g1, g2, g3, g4, g5, g6, g7, hCS, hSF⟩ := hX
  have hx := B.exec
  have hb := B.bytes
  have hr := B.returns
  have hts : ∀ w ∈ zGB, w.before _ s = true := fun w hw => atoms_spec (ws := zKc :: zGB) B.pre w (List.mem_cons_of_mem _ hw)
  have hown : s.vm.findClass "java/lang/String" = some m.cls := findClass_of_methodNamed B.named
  have hlocks := B.notSynchronized
  have hS : va_S (fun _ => False) s.heap s.heap [] := va_S.rf
  have hl := lv_entry ([.ref (X j), .int i]) (n := 2) (Nat.le_of_ble_eq_true rfl)
  rw [lg_entry_eq]
  generalize (lg_sl ([.ref (X j), .int i]) ++ List.replicate (2 - (lg_sl ([.ref (X j), .int i])).length) Slot.unset).toArray = ls at hl ⊢
  have hl : lv_has ls 2 [(0, .ref (X j)), (1, .int i)] := hl
  obtain ⟨b1, b2, b3⟩ := zs_chars j hj
  obtain ⟨b4, b5⟩ := b3 _ h1
  obtain ⟨q1, q2, q3, q4⟩ := g2.1 j hj
  rw [b1] at q4
  refine lv_aload_n hx hb zdc_0 rfl (lv_at hl 0 rfl) ?_
  refine va_calli (va_runV (As := []) (rest := []) ⟨hx, hb, hml, hown, hts⟩ (zs_latin l X j hj) ⟨callB_of (ws' := zGB) 0 hts (zGB_good zwc_i (fun _ h => h)) rfl rfl rfl (hts _ zwn_s) (hts _ zwm_i) (by decide +kernel) ⟨Nat.le_of_ble_eq_true rfl, Nat.le_of_ble_eq_true rfl⟩, hts _ zwi_i, hts _ zws_i⟩ ⟨zSP_blind, vk_recv g2 hj hS, fun U hU hW => ⟨rfl, hX0.go hW hU (fun _ _ _ => rfl) (fun _ h => h)⟩⟩ rfl rfl hl.1 rfl (lv_room (Nat.le_of_ble_eq_true rfl)) zdc_1 ⟨Nat.zero_le _, Nat.zero_le _⟩) hS (fun _ _ h => h) (fun _ h => h) (fun r u t1 H1 locs1 ht hal hw _ hz hk hS1 => ?_)
  subst hw
  refine lv_if_eq (tgt := 16) hx hb zdc_4 (by decide) (fun q => absurd q (by decide)) (fun _ => ?_)
  refine lv_aload_n hx hb zdc_7 rfl (lv_at hl 0 rfl) ?_
  refine vk_getf hx hb q3 hS1 hown (hts _ zwf_v) (fun _ h => h) zdc_8 ?_
  refine lv_iload_n hx hb zdc_11 rfl (lv_at hl 1 rfl) ?_
  refine va_calli (va_runS (As := [.ref (adV j), .int i]) (rest := []) ⟨hx, hb, hml, hown, hts⟩ (zs_c1 l X (adV j) (zlen j) (fun k => (zstr.getD j []).getD k 0) i (zch j i.toNatClampNeg) b2 h0 h1 b4 b5) ⟨callB_of (ws' := zGB) 2 hts (zGB_good zwc_1 (fun _ h => h)) rfl rfl rfl (hts _ zwn_1) (hts _ zwm_1) (by decide +kernel) ⟨Nat.le_of_ble_eq_true rfl, Nat.le_of_ble_eq_true rfl⟩, hts _ zwt_1⟩ ⟨zSP1_blind, fun U hU hW => ⟨rfl, hX0.go hW hU hS1.2.1 (fun _ h => h), by
    rw [hU]; exact va_T.moved hW.alike (q4.kept hS1.2.1)⟩⟩ rfl rfl hl.1 rfl (lv_room (Nat.le_of_ble_eq_true rfl)) zdc_12 ⟨Nat.zero_le _, Nat.zero_le _⟩) hS1 (fun _ _ h => h) (fun _ h => h) (fun r2 u2 t2 H2 locs2 ht2 hal2 hw2 _ hz2 hk2 hS2 => ?_)
  subst hw2
  exact W.zret hx hb hr b5 (fun t ht _ => ⟨⟨_, (), rfl, rfl, trivial⟩, hS2.F ht⟩) hS2.2.2 zdc_15 (hlocks := hlocks)

set_option maxRecDepth 20000 in
theorem zwl_l6 : Cond.methodLink (zown 6) 168 zYl ∈ zGB := List.mem_filter.mpr ⟨ztb_4 _ (List.mem_of_getElem? (i := 54) rfl), rfl⟩
set_option maxRecDepth 20000 in
theorem zwl_l12 : Cond.methodLink (zown 12) 312 zYl ∈ zGB := List.mem_filter.mpr ⟨ztb_7 _ (List.mem_of_getElem? (i := 200) rfl), rfl⟩
theorem zSlT_ok : ∀ q ∈ zSlT, Cond.methodLink (zown q.1) q.2 zYl ∈ zGB := List.forall_mem_cons.mpr ⟨zwl_l6, List.forall_mem_cons.mpr ⟨zwl_l12, fun _ h => by cases h⟩⟩
set_option maxRecDepth 20000 in
theorem zwl_c6 : Cond.methodLink (zown 6) 172 zYc ∈ zGB := List.mem_filter.mpr ⟨ztb_4 _ (List.mem_of_getElem? (i := 64) rfl), rfl⟩
set_option maxRecDepth 20000 in
theorem zwl_c12 : Cond.methodLink (zown 12) 316 zYc ∈ zGB := List.mem_filter.mpr ⟨ztb_7 _ (List.mem_of_getElem? (i := 201) rfl), rfl⟩
theorem zScT_ok : ∀ q ∈ zScT, Cond.methodLink (zown q.1) q.2 zYc ∈ zGB := List.forall_mem_cons.mpr ⟨zwl_c6, List.forall_mem_cons.mpr ⟨zwl_c12, fun _ h => by cases h⟩⟩

theorem S_strlen {Γ : ZG} {bp : Nat → Nat} {pc m : Nat} {k : Kt} {J : Nat → Kt} {E : Evn} {i : MI} {nm : String} {j : Nat} (C : zCtx Γ (zMB m) (zown (zMO m)) nm) (hX : zX (gS Γ) (gA Γ) (gX Γ)) (hT : Γ.2.1.stackTraces = false) (hR : 20 ≤ Γ.2.2.2.1.frames ∧ 260 ≤ Γ.2.2.2.1.locals) (hs : zstrL m pc j = true) (hk : zOk Γ (zMB m) bp (pc + 3) k) : zOk Γ (zMB m) bp pc (z_strlen zlen E k J i) := by
  unfold zstrL at hs
  rw [Bool.and_eq_true] at hs
  have hdg := of_decide_eq_true hs.1
  have hlk := zSlT_ok (zMO m, j) (by simpa using hs.2)
  dsimp only at hlk
  exact hk.to (fun lo st h o ho h1 h2 h3 => by
    unfold z_strlen at ho
    split at ho
    · rename_i w rest
      split at ho
      · rename_i hz
        refine ⟨lo, _, h, ho, h1, Sok.cons trivial h2.tl, h3, zle.rf, fun f1 f2 _ _ => ?_⟩
        obtain ⟨p, l, e, R, s, mi, args, below, meth, c, Q, nL, D, cA, X, A, c0, s0, n0, σ0⟩ := Γ
        obtain ⟨hx, hb, hml, hown, hts, hK0, hA, -⟩ := C
        intro K σ H locs ls hag hP hD hS hl
        have hts2 : ∀ w ∈ zGB, w.before args s = true := fun w hw => hts _ (zGB_in hw)
        have hX0 := hX
        obtain ⟨adV, -, hSt, -⟩ := hX
        have h8 : ((rest.map (zcv σ X)).map fun v => v.category).sum ≤ 8 := zsum4 (n := 4) _ (by rw [List.length_map]; exact hz.2)
        refine va_calli (va_runV (As := []) (rest := rest.map (zcv σ X)) ⟨hx, hb, hml, hown, hts2⟩ (zs_len l X w.toNat hz.1) ⟨callB_of (ws' := zGB) 0 hts2 (zGB_good zwc_l (fun _ h => h)) rfl rfl rfl (hts2 _ zwn_s) (hts2 _ hlk) (by decide +kernel) ⟨Nat.le_trans (Nat.le_of_ble_eq_true rfl) hR.1, Nat.le_trans (Nat.le_of_ble_eq_true rfl) hR.2⟩, hts2 _ zwi_l, hts2 _ zws_l⟩ ⟨zSP_blind, vk_recv hSt hz.1 hS, fun U hU hW => ⟨rfl, hX0.go hW hU hS.2.1 (fun _ h => h.elim)⟩⟩ rfl rfl hl.1 rfl (lv_room h8) hdg ⟨f1, f2⟩) hS (fun _ _ h => h.elim) (fun _ h => h.elim) (fun r u t H1 locs1 ht hal hw _ hz1 hk1 hS1 => ?_)
        subst hw
        exact K σ H1 locs1 ls hag (hP.kept (fun k q hq => hk1 q.1 ((hP k q hq).lt) (fun h => h))) hD hS1 hl
      · cases ho
    · cases ho)
theorem S_strch {Γ : ZG} {bp : Nat → Nat} {pc m : Nat} {k : Kt} {J : Nat → Kt} {E : Evn} {i : MI} {nm : String} {j : Nat} (C : zCtx Γ (zMB m) (zown (zMO m)) nm) (hX : zX (gS Γ) (gA Γ) (gX Γ)) (hT : Γ.2.1.stackTraces = false) (hR : 20 ≤ Γ.2.2.2.1.frames ∧ 260 ≤ Γ.2.2.2.1.locals) (hs : zstrC m pc j = true) (hk : zOk Γ (zMB m) bp (pc + 3) k) : zOk Γ (zMB m) bp pc (z_strch zlen zch E k J i) := by
  unfold zstrC at hs
  rw [Bool.and_eq_true] at hs
  have hdg := of_decide_eq_true hs.1
  have hlk := zScT_ok (zMO m, j) (by simpa using hs.2)
  dsimp only at hlk
  exact hk.to (fun lo st h o ho h1 h2 h3 => by
    unfold z_strch at ho
    split at ho
    · rename_i x w rest
      split at ho
      · rename_i hz
        refine ⟨lo, _, h, ho, h1, Sok.cons trivial h2.tl.tl, h3, zle.rf, fun f1 f2 _ _ => ?_⟩
        obtain ⟨p, l, e, R, s, mi, args, below, meth, c, Q, nL, D, cA, X, A, c0, s0, n0, σ0⟩ := Γ
        obtain ⟨hx, hb, hml, hown, hts, hK0, hA, -⟩ := C
        intro K σ H locs ls hag hP hD hS hl
        have hts2 : ∀ w ∈ zGB, w.before args s = true := fun w hw => hts _ (zGB_in hw)
        have hX0 := hX
        obtain ⟨adV, -, hSt, -⟩ := hX
        have h8 : ((rest.map (zcv σ X)).map fun v => v.category).sum ≤ 8 := zsum4 (n := 4) _ (by rw [List.length_map]; exact hz.2.2)
        have hz0 : ¬ x < 0 := fun q => hz.2.1 (Or.inl q)
        have hzn : x.toNatClampNeg < zlen w.toNat := Nat.not_le.mp fun q => hz.2.1 (Or.inr q)
        refine va_calli (va_runV (As := [.int x]) (rest := rest.map (zcv σ X)) ⟨hx, hb, hml, hown, hts2⟩ (zs_char l X w.toNat hz.1 x hz0 hzn) ⟨callB_of (ws' := zGB) 1 hts2 (zGB_good zwc_c (fun _ h => h)) rfl rfl rfl (hts2 _ zwn_s) (hts2 _ hlk) (by decide +kernel) ⟨Nat.le_trans (Nat.le_of_ble_eq_true rfl) hR.1, Nat.le_trans (Nat.le_of_ble_eq_true rfl) hR.2⟩, hts2 _ zwi_c, hts2 _ zws_c⟩ ⟨zSP_blind, vk_recv hSt hz.1 hS, fun U hU hW => ⟨rfl, hX0.go hW hU hS.2.1 (fun _ h => h.elim)⟩⟩ rfl rfl hl.1 rfl (lv_room h8) hdg ⟨f1, f2⟩) hS (fun _ _ h => h.elim) (fun _ h => h.elim) (fun r u t H1 locs1 ht hal hw _ hz1 hk1 hS1 => ?_)
        subst hw
        exact K σ H1 locs1 ls hag (hP.kept (fun k q hq => hk1 q.1 ((hP k q hq).lt) (fun h => h))) hD hS1 hl
      · cases ho
    · cases ho)

