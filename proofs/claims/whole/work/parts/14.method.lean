/-! SOUNDNESS, 9: a method is as the core machine has it. -/
/-- what a frame of method m has, so that its entries are as the core machine has them -/
def zFr (Γ : ZG) (m d : Nat) (E : Evn) : Prop := zCtx Γ (zMB m) (zown (zMO m)) (zMY m).name ∧ zX (gS Γ) (gA Γ) (gX Γ) ∧ zSnd E.1 d ∧ Γ.2.1.stackTraces = false ∧ (d + 25 ≤ Γ.2.2.2.1.frames ∧ 60 * d + 360 ≤ Γ.2.2.2.1.locals) ∧ (20 ≤ Γ.2.2.2.1.frames ∧ 260 ≤ Γ.2.2.2.1.locals) ∧ Γ.2.2.2.2.2.2.2.2.2.2.2.1 = zML m ∧ Γ.2.2.2.2.2.2.2.2.1.sig.returnType = zMR m ∧ (∀ pc idx, decode (zMB m) pc = .ok (.invokevirtual idx, 3) → zCat Γ (zMB m) pc E.2.1) ∧ (m = 239 → va_X (gX Γ 99) E.2.2.2 E.2.2.1 (gS Γ) (gS Γ).heap ∧ gX Γ 99 < (gS Γ).heap.size ∧ ¬ gA Γ (gX Γ 99)) ∧ (∀ pc a, (m, pc, a) ∈ zSWl → ∀ v b rest, ((∃ q ∈ (zSW a).1, q.1 = v ∧ q.2 = b) ∨ ((∀ q ∈ (zSW a).1, q.1 ≠ v) ∧ b = (zSW a).2)) → zRow Γ pc (zbp m b) (.int v :: rest) rest)
set_option maxHeartbeats 4000000 in
set_option maxRecDepth 20000 in
theorem zck_all {Γ : ZG} {m d : Nat} {E : Evn} (hFr : zFr Γ m d E) {nx pc op a b j : Nat} {x : Int32} {k : Kt} {J : Nat → Kt} (hk : zOk Γ (zMB m) (zbp m) nx k) (hJ : ∀ b, zOk Γ (zMB m) (zbp m) (zbp m b) (J b)) (hc : zck m nx pc op a b j x = true) : zOk Γ (zMB m) (zbp m) pc (zop op E k J (pc, op, a, b, j, x)) := by
  obtain ⟨f1, f2, f3, f4, f5, f6, f7, f8, f9, f10, f11⟩ := hFr
  have hc2 := hc
  unfold zck at hc2
  split at hc2
  · exact zck_1 f1 f2 f3 f4 f5 f6 f7 f8 f9 f10 f11 hk hJ hc
  · exact zck_2 f1 f2 f3 f4 f5 f6 f7 f8 f9 f10 f11 hk hJ hc
  · exact zck_3 f1 f2 f3 f4 f5 f6 f7 f8 f9 f10 f11 hk hJ hc
  · exact zck_4 f1 f2 f3 f4 f5 f6 f7 f8 f9 f10 f11 hk hJ hc
  · exact zck_5 f1 f2 f3 f4 f5 f6 f7 f8 f9 f10 f11 hk hJ hc
  · exact zck_6 f1 f2 f3 f4 f5 f6 f7 f8 f9 f10 f11 hk hJ hc
  · exact zck_7 f1 f2 f3 f4 f5 f6 f7 f8 f9 f10 f11 hk hJ hc
  · exact zck_8 f1 f2 f3 f4 f5 f6 f7 f8 f9 f10 f11 hk hJ hc
  · exact zck_9 f1 f2 f3 f4 f5 f6 f7 f8 f9 f10 f11 hk hJ hc
  · exact zck_10 f1 f2 f3 f4 f5 f6 f7 f8 f9 f10 f11 hk hJ hc
  · exact zck_11 f1 f2 f3 f4 f5 f6 f7 f8 f9 f10 f11 hk hJ hc
  · exact zck_12 f1 f2 f3 f4 f5 f6 f7 f8 f9 f10 f11 hk hJ hc
  · exact zck_13 f1 f2 f3 f4 f5 f6 f7 f8 f9 f10 f11 hk hJ hc
  · exact zck_14 f1 f2 f3 f4 f5 f6 f7 f8 f9 f10 f11 hk hJ hc
  · exact zck_15 f1 f2 f3 f4 f5 f6 f7 f8 f9 f10 f11 hk hJ hc
  · exact zck_16 f1 f2 f3 f4 f5 f6 f7 f8 f9 f10 f11 hk hJ hc
  · exact zck_17 f1 f2 f3 f4 f5 f6 f7 f8 f9 f10 f11 hk hJ hc
  · exact zck_18 f1 f2 f3 f4 f5 f6 f7 f8 f9 f10 f11 hk hJ hc
  · exact zck_19 f1 f2 f3 f4 f5 f6 f7 f8 f9 f10 f11 hk hJ hc
  · exact zck_20 f1 f2 f3 f4 f5 f6 f7 f8 f9 f10 f11 hk hJ hc
  · exact zck_21 f1 f2 f3 f4 f5 f6 f7 f8 f9 f10 f11 hk hJ hc
  · exact zck_22 f1 f2 f3 f4 f5 f6 f7 f8 f9 f10 f11 hk hJ hc
  · exact zck_23 f1 f2 f3 f4 f5 f6 f7 f8 f9 f10 f11 hk hJ hc
  · exact zck_24 f1 f2 f3 f4 f5 f6 f7 f8 f9 f10 f11 hk hJ hc
  · exact zck_25 f1 f2 f3 f4 f5 f6 f7 f8 f9 f10 f11 hk hJ hc
  · exact zck_26 f1 f2 f3 f4 f5 f6 f7 f8 f9 f10 f11 hk hJ hc
  · exact zck_27 f1 f2 f3 f4 f5 f6 f7 f8 f9 f10 f11 hk hJ hc
  · exact zck_28 f1 f2 f3 f4 f5 f6 f7 f8 f9 f10 f11 hk hJ hc
  · exact zck_29 f1 f2 f3 f4 f5 f6 f7 f8 f9 f10 f11 hk hJ hc
  · exact zck_30 f1 f2 f3 f4 f5 f6 f7 f8 f9 f10 f11 hk hJ hc
  · exact zck_31 f1 f2 f3 f4 f5 f6 f7 f8 f9 f10 f11 hk hJ hc
  · exact zck_32 f1 f2 f3 f4 f5 f6 f7 f8 f9 f10 f11 hk hJ hc
  · exact zck_33 f1 f2 f3 f4 f5 f6 f7 f8 f9 f10 f11 hk hJ hc
  · exact zck_34 f1 f2 f3 f4 f5 f6 f7 f8 f9 f10 f11 hk hJ hc
  · exact zck_35 f1 f2 f3 f4 f5 f6 f7 f8 f9 f10 f11 hk hJ hc
  · exact zck_36 f1 f2 f3 f4 f5 f6 f7 f8 f9 f10 f11 hk hJ hc
  · exact zck_37 f1 f2 f3 f4 f5 f6 f7 f8 f9 f10 f11 hk hJ hc
  · exact zck_38 f1 f2 f3 f4 f5 f6 f7 f8 f9 f10 f11 hk hJ hc
  · exact zck_39 f1 f2 f3 f4 f5 f6 f7 f8 f9 f10 f11 hk hJ hc
  · exact zck_40 f1 f2 f3 f4 f5 f6 f7 f8 f9 f10 f11 hk hJ hc
  · exact zck_41 f1 f2 f3 f4 f5 f6 f7 f8 f9 f10 f11 hk hJ hc
  · exact zck_42 f1 f2 f3 f4 f5 f6 f7 f8 f9 f10 f11 hk hJ hc
  · exact zck_43 f1 f2 f3 f4 f5 f6 f7 f8 f9 f10 f11 hk hJ hc
  · exact zck_44 f1 f2 f3 f4 f5 f6 f7 f8 f9 f10 f11 hk hJ hc
  · exact zck_45 f1 f2 f3 f4 f5 f6 f7 f8 f9 f10 f11 hk hJ hc
  · exact zck_46 f1 f2 f3 f4 f5 f6 f7 f8 f9 f10 f11 hk hJ hc
  · exact zck_47 f1 f2 f3 f4 f5 f6 f7 f8 f9 f10 f11 hk hJ hc
  · exact zck_48 f1 f2 f3 f4 f5 f6 f7 f8 f9 f10 f11 hk hJ hc
  · exact zck_49 f1 f2 f3 f4 f5 f6 f7 f8 f9 f10 f11 hk hJ hc
  · exact zck_50 f1 f2 f3 f4 f5 f6 f7 f8 f9 f10 f11 hk hJ hc
  · exact zck_51 f1 f2 f3 f4 f5 f6 f7 f8 f9 f10 f11 hk hJ hc
  · exact zck_52 f1 f2 f3 f4 f5 f6 f7 f8 f9 f10 f11 hk hJ hc
  · exact zck_53 f1 f2 f3 f4 f5 f6 f7 f8 f9 f10 f11 hk hJ hc
  · exact zck_54 f1 f2 f3 f4 f5 f6 f7 f8 f9 f10 f11 hk hJ hc
  · exact zck_55 f1 f2 f3 f4 f5 f6 f7 f8 f9 f10 f11 hk hJ hc
  · exact zck_56 f1 f2 f3 f4 f5 f6 f7 f8 f9 f10 f11 hk hJ hc
  · exact zck_57 f1 f2 f3 f4 f5 f6 f7 f8 f9 f10 f11 hk hJ hc
  · exact zck_58 f1 f2 f3 f4 f5 f6 f7 f8 f9 f10 f11 hk hJ hc
  · exact zck_59 f1 f2 f3 f4 f5 f6 f7 f8 f9 f10 f11 hk hJ hc
  · exact zck_60 f1 f2 f3 f4 f5 f6 f7 f8 f9 f10 f11 hk hJ hc
  · exact zck_61 f1 f2 f3 f4 f5 f6 f7 f8 f9 f10 f11 hk hJ hc
  · exact zck_62 f1 f2 f3 f4 f5 f6 f7 f8 f9 f10 f11 hk hJ hc
  · exact zck_63 f1 f2 f3 f4 f5 f6 f7 f8 f9 f10 f11 hk hJ hc
  · exact zck_64 f1 f2 f3 f4 f5 f6 f7 f8 f9 f10 f11 hk hJ hc
  · exact zck_65 f1 f2 f3 f4 f5 f6 f7 f8 f9 f10 f11 hk hJ hc
  · exact zck_66 f1 f2 f3 f4 f5 f6 f7 f8 f9 f10 f11 hk hJ hc
  · exact zck_70 f1 f2 f3 f4 f5 f6 f7 f8 f9 f10 f11 hk hJ hc
  · exact zck_71 f1 f2 f3 f4 f5 f6 f7 f8 f9 f10 f11 hk hJ hc
  · exact zck_72 f1 f2 f3 f4 f5 f6 f7 f8 f9 f10 f11 hk hJ hc
  · exact zck_73 f1 f2 f3 f4 f5 f6 f7 f8 f9 f10 f11 hk hJ hc
  · exact zck_74 f1 f2 f3 f4 f5 f6 f7 f8 f9 f10 f11 hk hJ hc
  · exact zck_75 f1 f2 f3 f4 f5 f6 f7 f8 f9 f10 f11 hk hJ hc
  · exact zck_76 f1 f2 f3 f4 f5 f6 f7 f8 f9 f10 f11 hk hJ hc
  · exact zck_77 f1 f2 f3 f4 f5 f6 f7 f8 f9 f10 f11 hk hJ hc
  · exact zck_78 f1 f2 f3 f4 f5 f6 f7 f8 f9 f10 f11 hk hJ hc
  · exact zck_79 f1 f2 f3 f4 f5 f6 f7 f8 f9 f10 f11 hk hJ hc
  · exact zck_80 f1 f2 f3 f4 f5 f6 f7 f8 f9 f10 f11 hk hJ hc
  · exact zck_81 f1 f2 f3 f4 f5 f6 f7 f8 f9 f10 f11 hk hJ hc
  · exact zck_82 f1 f2 f3 f4 f5 f6 f7 f8 f9 f10 f11 hk hJ hc
  · exact zck_83 f1 f2 f3 f4 f5 f6 f7 f8 f9 f10 f11 hk hJ hc
  · exact zck_84 f1 f2 f3 f4 f5 f6 f7 f8 f9 f10 f11 hk hJ hc
  · exact zck_85 f1 f2 f3 f4 f5 f6 f7 f8 f9 f10 f11 hk hJ hc
  · exact zck_86 f1 f2 f3 f4 f5 f6 f7 f8 f9 f10 f11 hk hJ hc
  · exact zck_87 f1 f2 f3 f4 f5 f6 f7 f8 f9 f10 f11 hk hJ hc
  · exact zck_88 f1 f2 f3 f4 f5 f6 f7 f8 f9 f10 f11 hk hJ hc
  · exact zck_90 f1 f2 f3 f4 f5 f6 f7 f8 f9 f10 f11 hk hJ hc
  · exact zck_91 f1 f2 f3 f4 f5 f6 f7 f8 f9 f10 f11 hk hJ hc
  · exact zck_92 f1 f2 f3 f4 f5 f6 f7 f8 f9 f10 f11 hk hJ hc
  · exact zck_93 f1 f2 f3 f4 f5 f6 f7 f8 f9 f10 f11 hk hJ hc
  · exact zck_94 f1 f2 f3 f4 f5 f6 f7 f8 f9 f10 f11 hk hJ hc
  · exact zck_95 f1 f2 f3 f4 f5 f6 f7 f8 f9 f10 f11 hk hJ hc
  · exact zck_96 f1 f2 f3 f4 f5 f6 f7 f8 f9 f10 f11 hk hJ hc
  · exact zck_97 f1 f2 f3 f4 f5 f6 f7 f8 f9 f10 f11 hk hJ hc
  · exact zck_98 f1 f2 f3 f4 f5 f6 f7 f8 f9 f10 f11 hk hJ hc
  · exact zck_99 f1 f2 f3 f4 f5 f6 f7 f8 f9 f10 f11 hk hJ hc
  · exact zck_100 f1 f2 f3 f4 f5 f6 f7 f8 f9 f10 f11 hk hJ hc
  · exact zck_101 f1 f2 f3 f4 f5 f6 f7 f8 f9 f10 f11 hk hJ hc
  · exact zck_102 f1 f2 f3 f4 f5 f6 f7 f8 f9 f10 f11 hk hJ hc
  · exact zck_103 f1 f2 f3 f4 f5 f6 f7 f8 f9 f10 f11 hk hJ hc
  · exact zck_104 f1 f2 f3 f4 f5 f6 f7 f8 f9 f10 f11 hk hJ hc
  · exact zck_105 f1 f2 f3 f4 f5 f6 f7 f8 f9 f10 f11 hk hJ hc
  · exact zck_106 f1 f2 f3 f4 f5 f6 f7 f8 f9 f10 f11 hk hJ hc
  · exact zck_107 f1 f2 f3 f4 f5 f6 f7 f8 f9 f10 f11 hk hJ hc
  · exact zck_108 f1 f2 f3 f4 f5 f6 f7 f8 f9 f10 f11 hk hJ hc
  · cases hc2
theorem zseg_S {Γ : ZG} {m d : Nat} {E : Evn} (hFr : zFr Γ m d E) (hm : zCode m) : ∀ (n : Nat) (is : List MI), zckL m is = true → zOk Γ (zMB m) (zbp m) (zpc is) (zseg E (zC m) n is)
  | 0, is, _ => zOk_none (fun _ _ _ => by cases is <;> rfl)
  | n + 1, [], _ => zOk_none (fun _ _ _ => rfl)
  | n + 1, [e], hc => zck_all (k := zseg E (zC m) n []) (J := fun b => zseg E (zC m) n (zC m b)) hFr (zOk_none (fun _ _ _ => by cases n <;> rfl)) (fun b => zseg_S hFr hm n (zC m b) (hm b)) hc
  | n + 1, e :: f :: r, hc => by
    have hc := Bool.and_eq_true_iff.mp hc
    exact zck_all (k := zseg E (zC m) n (f :: r)) (J := fun b => zseg E (zC m) n (zC m b)) hFr (zseg_S hFr hm n (f :: r) hc.2) (fun b => zseg_S hFr hm n (zC m b) (hm b)) hc.1
theorem zrun_S {p : Program} {l : Launch} {e : Env} {R : Room} {s : State} {mi : MethodId} {args : Array Value} {below : List Frame} {meth : Method} {c : Code} {Q : State → Prop} {nL : Nat} {D : va_G} {cA : Nat → ClassId} {X : Nat → Nat} {A : Nat → Prop} {c0 s0 n0 : Nat} {σ0 : Nat → Nat} {m d : Nat} {E : Evn} (hFr : zFr (p, l, e, R, s, mi, args, below, meth, c, Q, nL, D, cA, X, A, c0, s0, n0, σ0) m d E) (hm : zCode m) (hPF : zPF E.1) : ∀ (n b : Nat) (lo : LV) (h : AH) (r : Ret) (h' : AH), zrun E (zC m) n b lo h = some (r, h') → Lok (hn h) lo → Hok h → c0 ≤ hc h → s0 ≤ hs h → zEnd (p, l, e, R, s, mi, args, below, meth, c, Q, nL, D, cA, X, A, c0, s0, n0, σ0) (zMB m) r h' → hc h' - c0 ≤ R.cells → hs h' - s0 ≤ R.slots → zSat (p, l, e, R, s, mi, args, below, meth, c, Q, nL, D, cA, X, A, c0, s0, n0, σ0) (zbp m b) lo [] h
  | 0, _, _, _, _, _, hr, _, _, _, _, _, _, _ => by cases hr
  | n + 1, b, lo, h, r, h', hr, h1, h3, g4, g5, hE, gc, gs => by
    rw [zrun] at hr
    cases hs9 : zseg E (zC m) zfuel (zC m b) lo [] h with
    | none => rw [hs9] at hr; cases hr
    | some o =>
      rw [hs9] at hr
      obtain ⟨a1, a2, a3⟩ := zseg_S hFr hm zfuel (zC m b) (hm b) lo [] h o hs9 h1 (fun _ hv => by cases hv) h3 g4 g5
      cases o with
      | inr x =>
        have hx : x = (r, h') := Option.some.inj hr
        subst hx
        exact a3 hE gc gs
      | inl x =>
        obtain ⟨b1, -, -⟩ := zrun_P hPF n x.1 x.2.1 x.2.2 r h' hr a2.1 a2.2
        have a1c : hc h ≤ hc x.2.2 := a1.2.1
        have a1s : hs h ≤ hs x.2.2 := a1.2.2
        have b1c := b1.2.1
        have b1s := b1.2.2
        refine a3 (zrun_S hFr hm hPF n x.1 x.2.1 x.2.2 r h' hr a2.1 a2.2 (Nat.le_trans g4 a1c) (Nat.le_trans g5 a1s) hE gc gs) ?_ ?_
        · show hc x.2.2 - c0 ≤ R.cells
          omega
        · show hs x.2.2 - s0 ≤ R.slots
          omega
