/-! THE CODE IS CHECKED, 1: what a program asks of each entry. Written by wip/whole/mk12.py. -/
def zpc : List MI → Nat
  | [] => 0
  | e :: _ => e.1
def zbp (m b : Nat) : Nat := zpc (zC m b)
def zfin (c k : Nat) : Bool := match zcls[c]? with
  | some q => (q.2.1 k).2.2.2
  | none => false
def zdec (c k : Nat) : String := match zcls[c]? with
  | some q => (q.2.1 k).1
  | none => ""
def zrt : FieldType → Bool
  | .object _ => true
  | .array _ => true
  | _ => false
def zrto : Option FieldType → Bool
  | some t => zrt t
  | none => false
/-- a call's place -/
def zsck (m pc a b j : Nat) (x : Int32) : Bool :=
  decide ((parseMethodDescriptor (zMY a).desc).map (fun d => d.parameters.length) = some (if x = 0 ∨ x = 2 ∨ x = 3 ∨ x = 5 then b - 1 else b)) && (decide (x = 1 ∨ x = 4 ∨ x = 6) || decide (1 ≤ b)) && zLT.contains (zMO m, j / 100, a, if x = 3 ∨ x = 4 ∨ x = 5 then 1 else 0) &&
  (if x = 6 then decide (zMH a ≠ []) else decide (zMH a = [])) && (if x = 0 ∨ x = 3 then zSeT.contains a && decide ((zcls[j % 100]?).map (fun q => q.1) = some (zMY a).cls) else true) && (if x = 2 ∨ x = 5 then decide ((zMY a).name = "<init>") && decide (zMR a = none) else true) &&
  (if x = 1 ∨ x = 4 ∨ x = 6 then zSaT.contains a && decide (decode (zMB m) pc = .ok (.invokestatic (j / 100), 3)) else zInT.contains a && (if x = 0 ∨ x = 3 then decide (decode (zMB m) pc = .ok (.invokevirtual (j / 100), 3)) else decide ((x = 2 ∨ x = 5) ∧ decode (zMB m) pc = .ok (.invokespecial (j / 100), 3))))

def zSlT : List (Nat × Nat) := [(6, 168), (12, 312)]
def zScT : List (Nat × Nat) := [(6, 172), (12, 316)]
def zstrL (m pc j : Nat) : Bool := decide (decode (zMB m) pc = .ok (.invokevirtual j, 3)) && zSlT.contains (zMO m, j)
def zstrC (m pc j : Nat) : Bool := decide (decode (zMB m) pc = .ok (.invokevirtual j, 3)) && zScT.contains (zMO m, j)
def zck1 (m nx pc b j : Nat) (x : Int32) : Bool := match b with | 0 => true && ((decide (decode (zMB m) pc = .ok (.iconst x.toInt, 1)) && decide (nx = pc + 1))) | 1 => decide ((Int8.ofInt x.toInt).toInt32 = x) && ((decide (decode (zMB m) pc = .ok (.bipush x.toInt, 2)) && decide (nx = pc + 2))) | 2 => decide ((Int16.ofInt x.toInt).toInt32 = x) && ((decide (decode (zMB m) pc = .ok (.sipush x.toInt, 3)) && decide (nx = pc + 3))) | 3 => zCT.contains (zMO m, j, x) && ((decide (decode (zMB m) pc = .ok (.ldc j, 2)) && decide (nx = pc + 2))) | 4 => zCT.contains (zMO m, j, x) && ((decide (decode (zMB m) pc = .ok (.ldc_w j, 3)) && decide (nx = pc + 3))) | _ => false
def zSWl : List (Nat × Nat × Nat) := [(44, 84, 0), (53, 1, 1), (80, 1, 2), (126, 1, 3), (128, 1, 4), (139, 1, 5), (197, 1, 6), (198, 76, 7), (213, 6, 8), (239, 40, 9)]
set_option maxRecDepth 20000 in
def zck (m nx pc op a b j : Nat) (x : Int32) : Bool := match op with
  | 1 => zck1 m nx pc b j x
  | 2 => zCL.contains (zMO m, j, x.toInt64) && (decide (decode (zMB m) pc = .ok (.ldc2_w j, 3)) && decide (nx = pc + 3))
  | 3 => if b = 0 then (decide (a < 2) && (decide (decode (zMB m) pc = .ok (.lconst (Fin.ofNat 2 a), 1)) && decide (nx = pc + 1))) else (zCL.contains (zMO m, j, Int64.ofNat a) && (decide (decode (zMB m) pc = .ok (.ldc2_w j, 3)) && decide (nx = pc + 3)))
  | 4 => decide (a < 16) && decide (zsO a = zown (zMO m)) && ((decide (decode (zMB m) pc = .ok (.ldc (zsI a), 2)) && decide (nx = pc + 2)) || (decide (decode (zMB m) pc = .ok (.ldc_w (zsI a), 3)) && decide (nx = pc + 3)))
  | 5 => if b = 1 then (decide (a < 4) && decide (decode (zMB m) pc = .ok (.iload_n (Fin.ofNat 4 a), 1)) && decide (nx = pc + 1)) else (decide (decode (zMB m) pc = .ok (.iload a, 2)) && decide (nx = pc + 2))
  | 6 => if b = 1 then (decide (a < 4) && decide (decode (zMB m) pc = .ok (.lload_n (Fin.ofNat 4 a), 1)) && decide (nx = pc + 1)) else (decide (decode (zMB m) pc = .ok (.lload a, 2)) && decide (nx = pc + 2))
  | 7 => if b = 1 then (decide (a < 4) && decide (decode (zMB m) pc = .ok (.aload_n (Fin.ofNat 4 a), 1)) && decide (nx = pc + 1)) else (decide (decode (zMB m) pc = .ok (.aload a, 2)) && decide (nx = pc + 2))
  | 8 => decide (a + 1 ≤ zML m) && if b = 1 then (decide (a < 4) && decide (decode (zMB m) pc = .ok (.istore_n (Fin.ofNat 4 a), 1)) && decide (nx = pc + 1)) else (decide (decode (zMB m) pc = .ok (.istore a, 2)) && decide (nx = pc + 2))
  | 9 => decide (a + 2 ≤ zML m) && if b = 1 then (decide (a < 4) && decide (decode (zMB m) pc = .ok (.lstore_n (Fin.ofNat 4 a), 1)) && decide (nx = pc + 1)) else (decide (decode (zMB m) pc = .ok (.lstore a, 2)) && decide (nx = pc + 2))
  | 10 => decide (a + 1 ≤ zML m) && if b = 1 then (decide (a < 4) && decide (decode (zMB m) pc = .ok (.astore_n (Fin.ofNat 4 a), 1)) && decide (nx = pc + 1)) else (decide (decode (zMB m) pc = .ok (.astore a, 2)) && decide (nx = pc + 2))
  | 11 => decide (a < zML m) && (decide (decode (zMB m) pc = .ok (.iinc a x.toInt, 3)) && decide (nx = pc + 3))
  | 12 => (decide (decode (zMB m) pc = .ok (.iadd, 1)) && decide (nx = pc + 1))
  | 13 => (decide (decode (zMB m) pc = .ok (.isub, 1)) && decide (nx = pc + 1))
  | 14 => (decide (decode (zMB m) pc = .ok (.imul, 1)) && decide (nx = pc + 1))
  | 15 => (decide (decode (zMB m) pc = .ok (.idiv, 1)) && decide (nx = pc + 1))
  | 16 => (decide (decode (zMB m) pc = .ok (.irem, 1)) && decide (nx = pc + 1))
  | 17 => (decide (decode (zMB m) pc = .ok (.ineg, 1)) && decide (nx = pc + 1))
  | 18 => (decide (decode (zMB m) pc = .ok (.ishl, 1)) && decide (nx = pc + 1))
  | 19 => (decide (decode (zMB m) pc = .ok (.ishr, 1)) && decide (nx = pc + 1))
  | 20 => (decide (decode (zMB m) pc = .ok (.iushr, 1)) && decide (nx = pc + 1))
  | 21 => (decide (decode (zMB m) pc = .ok (.iand, 1)) && decide (nx = pc + 1))
  | 22 => (decide (decode (zMB m) pc = .ok (.ior, 1)) && decide (nx = pc + 1))
  | 23 => (decide (decode (zMB m) pc = .ok (.ixor, 1)) && decide (nx = pc + 1))
  | 24 => (decide (decode (zMB m) pc = .ok (.ladd, 1)) && decide (nx = pc + 1))
  | 25 => (decide (decode (zMB m) pc = .ok (.lsub, 1)) && decide (nx = pc + 1))
  | 26 => (decide (decode (zMB m) pc = .ok (.lmul, 1)) && decide (nx = pc + 1))
  | 27 => (decide (decode (zMB m) pc = .ok (.ldiv, 1)) && decide (nx = pc + 1))
  | 28 => (decide (decode (zMB m) pc = .ok (.lrem, 1)) && decide (nx = pc + 1))
  | 29 => (decide (decode (zMB m) pc = .ok (.land, 1)) && decide (nx = pc + 1))
  | 30 => (decide (decode (zMB m) pc = .ok (.lor, 1)) && decide (nx = pc + 1))
  | 31 => (decide (decode (zMB m) pc = .ok (.lshl, 1)) && decide (nx = pc + 1))
  | 32 => (decide (decode (zMB m) pc = .ok (.lshr, 1)) && decide (nx = pc + 1))
  | 33 => (decide (decode (zMB m) pc = .ok (.lushr, 1)) && decide (nx = pc + 1))
  | 34 => (decide (decode (zMB m) pc = .ok (.i2l, 1)) && decide (nx = pc + 1))
  | 35 => (decide (decode (zMB m) pc = .ok (.l2i, 1)) && decide (nx = pc + 1))
  | 36 => (decide (decode (zMB m) pc = .ok (.lcmp, 1)) && decide (nx = pc + 1))
  | 37 => (decide (decode (zMB m) pc = .ok (.aconst_null, 1)) && decide (nx = pc + 1))
  | 38 => (decide (decode (zMB m) pc = .ok (.dup, 1)) && decide (nx = pc + 1))
  | 39 => (decide (decode (zMB m) pc = .ok (.dup_x1, 1)) && decide (nx = pc + 1))
  | 40 => (decide (decode (zMB m) pc = .ok (.dup2, 1)) && decide (nx = pc + 1))
  | 41 => (decide (decode (zMB m) pc = .ok (.pop, 1)) && decide (nx = pc + 1))
  | 42 => (decide (decode (zMB m) pc = .ok (.ifCond .eq ((zbp m a : Int) - (pc : Int)), 3)) && decide (nx = pc + 3))
  | 43 => (decide (decode (zMB m) pc = .ok (.ifCond .ne ((zbp m a : Int) - (pc : Int)), 3)) && decide (nx = pc + 3))
  | 44 => (decide (decode (zMB m) pc = .ok (.ifCond .lt ((zbp m a : Int) - (pc : Int)), 3)) && decide (nx = pc + 3))
  | 45 => (decide (decode (zMB m) pc = .ok (.ifCond .ge ((zbp m a : Int) - (pc : Int)), 3)) && decide (nx = pc + 3))
  | 46 => (decide (decode (zMB m) pc = .ok (.ifCond .gt ((zbp m a : Int) - (pc : Int)), 3)) && decide (nx = pc + 3))
  | 47 => (decide (decode (zMB m) pc = .ok (.ifCond .le ((zbp m a : Int) - (pc : Int)), 3)) && decide (nx = pc + 3))
  | 48 => (decide (decode (zMB m) pc = .ok (.if_icmp .eq ((zbp m a : Int) - (pc : Int)), 3)) && decide (nx = pc + 3))
  | 49 => (decide (decode (zMB m) pc = .ok (.if_icmp .ne ((zbp m a : Int) - (pc : Int)), 3)) && decide (nx = pc + 3))
  | 50 => (decide (decode (zMB m) pc = .ok (.if_icmp .lt ((zbp m a : Int) - (pc : Int)), 3)) && decide (nx = pc + 3))
  | 51 => (decide (decode (zMB m) pc = .ok (.if_icmp .ge ((zbp m a : Int) - (pc : Int)), 3)) && decide (nx = pc + 3))
  | 52 => (decide (decode (zMB m) pc = .ok (.if_icmp .gt ((zbp m a : Int) - (pc : Int)), 3)) && decide (nx = pc + 3))
  | 53 => (decide (decode (zMB m) pc = .ok (.if_icmp .le ((zbp m a : Int) - (pc : Int)), 3)) && decide (nx = pc + 3))
  | 54 => (decide (decode (zMB m) pc = .ok (.ifnull ((zbp m a : Int) - (pc : Int)), 3)) && decide (nx = pc + 3))
  | 55 => decide (decode (zMB m) pc = .ok (.goto ((zbp m a : Int) - (pc : Int)), 3))
  | 56 => decide (zbp m a = pc)
  | 57 => decide (zbp m a = pc)
  | 58 => zSWl.contains (m, pc, a)
  | 59 => zSWl.contains (m, pc, a)
  | 60 => decide (a < 13) && decide (b < znf a) && decide (zfk a b ≠ 1 ∧ zfk a b ≠ 2) && zFT.contains (zMO m, j, a, b, if x = 1 then 1 else 0) && decide (decode (zMB m) pc = .ok (.getfield j, 3)) && decide (nx = pc + 3)
  | 61 => decide (a < 13) && decide (b < znf a) && decide (zfk a b = 1) && zFT.contains (zMO m, j, a, b, if x = 1 then 1 else 0) && decide (decode (zMB m) pc = .ok (.getfield j, 3)) && decide (nx = pc + 3)
  | 62 => decide (a < 13) && decide (b < znf a) && decide (zfk a b = 2) && zFT.contains (zMO m, j, a, b, if x = 1 then 1 else 0) && decide (decode (zMB m) pc = .ok (.getfield j, 3)) && decide (nx = pc + 3)
  | 63 => decide (a < 13) && decide (b < znf a) && decide (zfk a b = 0 ∧ zTy a b = .int ∧ if x = 2 then (zfin a b = true ∧ (zMY m).name = "<init>" ∧ zdec a b = zown (zMO m)) else zfin a b = false) && zFT.contains (zMO m, j, a, b, if x = 1 then 1 else 0) && decide (decode (zMB m) pc = .ok (.putfield j, 3)) && decide (nx = pc + 3)
  | 64 => decide (a < 13) && decide (b < znf a) && decide (zfk a b = 3 ∧ zTy a b = .boolean ∧ if x = 2 then (zfin a b = true ∧ (zMY m).name = "<init>" ∧ zdec a b = zown (zMO m)) else zfin a b = false) && zFT.contains (zMO m, j, a, b, if x = 1 then 1 else 0) && decide (decode (zMB m) pc = .ok (.putfield j, 3)) && decide (nx = pc + 3)
  | 65 => decide (a < 13) && decide (b < znf a) && decide (zfk a b = 1 ∧ zTy a b = .long ∧ if x = 2 then (zfin a b = true ∧ (zMY m).name = "<init>" ∧ zdec a b = zown (zMO m)) else zfin a b = false) && zFT.contains (zMO m, j, a, b, if x = 1 then 1 else 0) && decide (decode (zMB m) pc = .ok (.putfield j, 3)) && decide (nx = pc + 3)
  | 66 => decide (a < 13) && decide (b < znf a) && decide (zfk a b = 2 ∧ zrt (zTy a b) = true ∧ if x = 2 then (zfin a b = true ∧ (zMY m).name = "<init>" ∧ zdec a b = zown (zMO m)) else zfin a b = false) && zFT.contains (zMO m, j, a, b, if x = 1 then 1 else 0) && decide (decode (zMB m) pc = .ok (.putfield j, 3)) && decide (nx = pc + 3)
  | 70 => (decide (decode (zMB m) pc = .ok (.iaload, 1)) && decide (nx = pc + 1))
  | 71 => (decide (decode (zMB m) pc = .ok (.baload, 1)) && decide (nx = pc + 1))
  | 72 => (decide (decode (zMB m) pc = .ok (.laload, 1)) && decide (nx = pc + 1))
  | 73 => (decide (decode (zMB m) pc = .ok (.aaload, 1)) && decide (nx = pc + 1))
  | 74 => (decide (decode (zMB m) pc = .ok (.aaload, 1)) && decide (nx = pc + 1))
  | 75 => (decide (decode (zMB m) pc = .ok (.iastore, 1)) && decide (nx = pc + 1))
  | 76 => (decide (decode (zMB m) pc = .ok (.bastore, 1)) && decide (nx = pc + 1))
  | 77 => (decide (decode (zMB m) pc = .ok (.lastore, 1)) && decide (nx = pc + 1))
  | 78 => (decide (decode (zMB m) pc = .ok (.aastore, 1)) && decide (nx = pc + 1))
  | 79 => (decide (decode (zMB m) pc = .ok (.aastore, 1)) && decide (nx = pc + 1))
  | 80 => (decide (decode (zMB m) pc = .ok (.arraylength, 1)) && decide (nx = pc + 1))
  | 81 => decide (m = 239) && (decide (decode (zMB m) pc = .ok (.iaload, 1)) && decide (nx = pc + 1))
  | 82 => decide (m = 239) && (decide (decode (zMB m) pc = .ok (.arraylength, 1)) && decide (nx = pc + 1))
  | 83 => decide (a < 13) && zNwT.contains (zMO m, j, a) && (decide (decode (zMB m) pc = .ok (.new j, 3)) && decide (nx = pc + 3))
  | 84 => (decide (decode (zMB m) pc = .ok (.newarray .int, 2)) && decide (nx = pc + 2))
  | 85 => (decide (decode (zMB m) pc = .ok (.newarray .boolean, 2)) && decide (nx = pc + 2))
  | 86 => (decide (decode (zMB m) pc = .ok (.newarray .long, 2)) && decide (nx = pc + 2))
  | 87 => zAnT.contains (zMO m, j, 3) && (decide (decode (zMB m) pc = .ok (.anewarray j, 3)) && decide (nx = pc + 3))
  | 88 => zAnT.contains (zMO m, j, 4) && (decide (decode (zMB m) pc = .ok (.anewarray j, 3)) && decide (nx = pc + 3))
  | 90 => decide (a < 239) && decide (x = 0) && zsck m pc a b j x && decide (nx = pc + 3)
  | 91 => decide (a < 239) && decide (x = 0) && zsck m pc a b j x && decide (nx = pc + 3)
  | 92 => decide (a < 239) && decide (x = 0) && zsck m pc a b j x && decide (nx = pc + 3)
  | 93 => decide (a < 239) && decide (x = 0) && zsck m pc a b j x && decide (nx = pc + 3)
  | 94 => zstrL m pc j && decide (nx = pc + 3)
  | 95 => zstrC m pc j && decide (nx = pc + 3)
  | 96 => zAcT.contains (zMO m, j) && (decide (decode (zMB m) pc = .ok (.invokestatic j, 3)) && decide (nx = pc + 3))
  | 97 => zOiT.contains (zMO m, j) && (decide (decode (zMB m) pc = .ok (.invokespecial j, 3)) && decide (nx = pc + 3))
  | 98 => decide (zMO m = 11) && (decide (a = 0 ∧ j = 214 ∧ b = 216) || decide (a = 1 ∧ j = 129 ∧ b = 131)) && decide (decode (zMB m) pc = .ok (.new j, 3)) && decide (decode (zMB m) (pc + 3) = .ok (.dup, 1)) && decide (decode (zMB m) (pc + 4) = .ok (.invokespecial b, 3)) && decide (decode (zMB m) (pc + 7) = .ok (.athrow, 1))
  | 99 => decide (zMR m = some .int) && decide (decode (zMB m) pc = .ok (.ireturn, 1))
  | 100 => decide (zMR m = some .long) && decide (decode (zMB m) pc = .ok (.lreturn, 1))
  | 101 => zrto (zMR m) && decide (decode (zMB m) pc = .ok (.areturn, 1))
  | 102 => decide (zMR m = none) && decide (decode (zMB m) pc = .ok (.return_, 1))
  | 103 => decide (zMR m = some .boolean) && decide (decode (zMB m) pc = .ok (.ireturn, 1))
  | 104 => true
  | 105 => decide (a < 239) && zsck m pc a b j x && (decide (j % 100 = 99 → (x = 1 ∨ x = 4 ∨ x = 6))) && decide (nx = pc + 3)
  | 106 => decide (a < 239) && zsck m pc a b j x && (decide (j % 100 = 99 → (x = 1 ∨ x = 4 ∨ x = 6))) && decide (nx = pc + 3)
  | 107 => decide (a < 239) && zsck m pc a b j x && (decide (j % 100 = 99 → (x = 1 ∨ x = 4 ∨ x = 6))) && decide (nx = pc + 3)
  | 108 => decide (a < 239) && zsck m pc a b j x && (decide (j % 100 = 99 → (x = 1 ∨ x = 4 ∨ x = 6))) && decide (nx = pc + 3)
  | _ => false
def zckL (m : Nat) : List MI → Bool
  | [] => true
  | [e] => zck m 0 e.1 e.2.1 e.2.2.1 e.2.2.2.1 e.2.2.2.2.1 e.2.2.2.2.2
  | e :: f :: r => zck m f.1 e.1 e.2.1 e.2.2.1 e.2.2.2.1 e.2.2.2.2.1 e.2.2.2.2.2 && zckL m (f :: r)
def zCode (m : Nat) : Prop := ∀ b, zckL m (zC m b) = true
theorem zcode_of {m : Nat} {B : List (List MI)} (hB : zC m = fun b => B.getD b []) (h : B.all (zckL m) = true) : zCode m := by
  intro b
  rw [hB]
  show zckL m (B.getD b []) = true
  rw [List.getD_eq_getElem?_getD]
  cases hb : B[b]? with
  | none => rfl
  | some x => exact List.all_eq_true.mp h x (List.mem_of_getElem? hb)
