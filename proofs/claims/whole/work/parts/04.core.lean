/-! THE CORE MACHINE: a small interpreter of the claim's instructions over a heap of numbered objects. Pure. -/
/-- the heap: int cells, long cells, reference cells by (object, place); kinds (tag, length); how many objects; cells and slots made -/
abbrev AH : Type := (Nat → Nat → Int32) × (Nat → Nat → Int64) × (Nat → Nat → Option Nat) × (Nat → Nat × Nat) × Nat × Nat × Nat
def hI (h : AH) (a k : Nat) : Int32 := h.1 a k
def hL (h : AH) (a k : Nat) : Int64 := h.2.1 a k
def hR (h : AH) (a k : Nat) : Option Nat := h.2.2.1 a k
def hK (h : AH) (a : Nat) : Nat × Nat := h.2.2.2.1 a
def hn (h : AH) : Nat := h.2.2.2.2.1
def hc (h : AH) : Nat := h.2.2.2.2.2.1
def hs (h : AH) : Nat := h.2.2.2.2.2.2
def zup {α : Type} (f : Nat → Nat → α) (a k : Nat) (v : α) : Nat → Nat → α := fun a' => if a' = a then (fun k' => if k' = k then v else f a' k') else f a'
def setI (h : AH) (a k : Nat) (v : Int32) : AH := (zup h.1 a k v, h.2)
def setL (h : AH) (a k : Nat) (v : Int64) : AH := (h.1, zup h.2.1 a k v, h.2.2)
def setR (h : AH) (a k : Nat) (v : Option Nat) : AH := (h.1, h.2.1, zup h.2.2.1 a k v, h.2.2.2)
def zcpy (h : AH) (a b n : Nat) : AH := ((fun a' => if a' = b then (fun k => if k < n then h.1 a k else h.1 a' k) else h.1 a'), h.2)
def zalloc (h : AH) (kd : Nat × Nat) (sl : Nat) : AH := (h.1, h.2.1, h.2.2.1, (fun a => if a = hn h then kd else h.2.2.2.1 a), hn h + 1, hc h + 1, hs h + sl)
/-- an exception was made: it counts, but nothing holds it -/
def zexc (h : AH) : AH := (h.1, h.2.1, h.2.2.1, h.2.2.2.1, hn h, hc h + 1, hs h + 6)
abbrev LV : Type := List (Nat × Value)
abbrev Ret : Type := Nat ⊕ Option Value
abbrev Out : Type := (Nat × LV × AH) ⊕ (Ret × AH)
abbrev Kt : Type := LV → List Value → AH → Option Out
abbrev Cal : Type := Nat → List Value → AH → Option (Ret × AH)
/-- callees, what a handler answers, the script and its length -/
abbrev Evn : Type := Cal × (Nat → Option Int32) × (Nat → Int32) × Nat
abbrev Ops : Type := Evn → Kt → (Nat → Kt) → MI → Kt
def lget (lo : LV) (i : Nat) : Option Value := (lo.find? (fun q => q.1 == i)).map Prod.snd
def lset1 (lo : LV) (i : Nat) (v : Value) : LV := (i, v) :: lo.filter (fun q => !(q.1 == i) && !(q.1 + 1 == i && q.2.category == 2))
def lset2 (lo : LV) (i : Nat) (v : Value) : LV := (i, v) :: lo.filter (fun q => !(q.1 == i) && (!(q.1 == i + 1) && !(q.1 + 1 == i && q.2.category == 2)))
def lcan (lo : LV) (k : Nat) : LV := (List.range k).filterMap (fun i => (lget lo i).map (fun v => (i, v)))
def zrf (r : Option Nat) : Value := match r with
  | none => .null
  | some a => .ref a
/-- tables: class sizes are not needed here; what the strings hold -/
def zop1 (f : Int32 → Int32) : Ops := fun _ k _ _ lo st h => match st with
  | .int x :: st => k lo (.int (f x) :: st) h
  | _ => none
def zop2 (f : Int32 → Int32 → Int32) : Ops := fun _ k _ _ lo st h => match st with
  | .int y :: .int x :: st => k lo (.int (f x y) :: st) h
  | _ => none
def zdv2 (f : Int32 → Int32 → Int32) : Ops := fun _ k _ _ lo st h => match st with
  | .int y :: .int x :: st => if y = 0 then none else k lo (.int (f x y) :: st) h
  | _ => none
def zol2 (f : Int64 → Int64 → Int64) : Ops := fun _ k _ _ lo st h => match st with
  | .long y :: .long x :: st => k lo (.long (f x y) :: st) h
  | _ => none
def zdl2 (f : Int64 → Int64 → Int64) : Ops := fun _ k _ _ lo st h => match st with
  | .long y :: .long x :: st => if y = 0 then none else k lo (.long (f x y) :: st) h
  | _ => none
def zls2 (f : Int64 → Int32 → Int64) : Ops := fun _ k _ _ lo st h => match st with
  | .int y :: .long x :: st => k lo (.long (f x y) :: st) h
  | _ => none
def zif1 (P : Int32 → Bool) : Ops := fun _ k J e lo st h => match st with
  | .int x :: st => if P x = true then J e.2.2.1 lo st h else k lo st h
  | _ => none
def zif2 (P : Int32 → Int32 → Bool) : Ops := fun _ k J e lo st h => match st with
  | .int y :: .int x :: st => if P x y = true then J e.2.2.1 lo st h else k lo st h
  | _ => none
def z_const : Ops := fun _ k _ e lo st h => k lo (.int e.2.2.2.2.2 :: st) h
def z_lcx : Ops := fun _ k _ e lo st h => k lo (.long e.2.2.2.2.2.toInt64 :: st) h
def z_lcn : Ops := fun _ k _ e lo st h => k lo (.long (Int64.ofNat e.2.2.1) :: st) h
def z_null : Ops := fun _ k _ _ lo st h => k lo (.null :: st) h
def z_lds : Ops := fun _ k _ e lo st h => k lo (.float (UInt32.ofNat e.2.2.1) :: st) h
def z_iload : Ops := fun _ k _ e lo st h => match lget lo e.2.2.1 with
  | some (.int v) => k lo (.int v :: st) h
  | _ => none
def z_lload : Ops := fun _ k _ e lo st h => match lget lo e.2.2.1 with
  | some (.long v) => k lo (.long v :: st) h
  | _ => none
def z_aload : Ops := fun _ k _ e lo st h => match lget lo e.2.2.1 with
  | some (.ref v) => k lo (.ref v :: st) h
  | some (.float v) => k lo (.float v :: st) h
  | some .null => k lo (.null :: st) h
  | _ => none
def z_istore : Ops := fun _ k _ e lo st h => match st with
  | .int v :: st => k (lset1 lo e.2.2.1 (.int v)) st h
  | _ => none
def z_lstore : Ops := fun _ k _ e lo st h => match st with
  | .long v :: st => k (lset2 lo e.2.2.1 (.long v)) st h
  | _ => none
def z_astore : Ops := fun _ k _ e lo st h => match st with
  | .ref v :: st => k (lset1 lo e.2.2.1 (.ref v)) st h
  | _ => none
def z_iinc : Ops := fun _ k _ e lo st h => match lget lo e.2.2.1 with
  | some (.int v) => k (lset1 lo e.2.2.1 (.int (v + e.2.2.2.2.2))) st h
  | _ => none
def z_i2l : Ops := fun _ k _ _ lo st h => match st with
  | .int x :: st => k lo (.long x.toInt64 :: st) h
  | _ => none
def z_l2i : Ops := fun _ k _ _ lo st h => match st with
  | .long x :: st => k lo (.int x.toInt32 :: st) h
  | _ => none
def z_lcmp : Ops := fun _ k _ _ lo st h => match st with
  | .long y :: .long x :: st => k lo (.int (lg_cmp x y) :: st) h
  | _ => none
def z_dup : Ops := fun _ k _ _ lo st h => match st with
  | .int v :: st => k lo (.int v :: .int v :: st) h
  | .ref v :: st => k lo (.ref v :: .ref v :: st) h
  | _ => none
/-- under the int the reference -/
def z_dupx1 : Ops := fun _ k _ _ lo st h => match st with
  | .int v :: .ref a :: st => k lo (.int v :: .ref a :: .int v :: st) h
  | _ => none
def z_dup2 : Ops := fun _ k _ _ lo st h => match st with
  | .int v :: .ref a :: st => k lo (.int v :: .ref a :: .int v :: .ref a :: st) h
  | _ => none
def z_pop : Ops := fun _ k _ _ lo st h => match st with
  | .int _ :: st => k lo st h
  | _ => none
def z_ifnull : Ops := fun _ k J e lo st h => match st with
  | .ref _ :: st => k lo st h
  | .null :: st => J e.2.2.1 lo st h
  | _ => none
def z_goto : Ops := fun _ _ J e lo st h => J e.2.2.1 lo st h
def z_cut : Ops := fun _ _ _ e lo st h => match st with
  | [] => some (.inl (e.2.2.1, lcan lo e.2.2.2.1, h))
  | _ => none
def zswgo (J : Nat → Kt) (d : Nat) (v : Int32) (lo : LV) (st : List Value) (h : AH) : List (Int32 × Nat) → Option Out
  | [] => J d lo st h
  | q :: r => if v = q.1 then J q.2 lo st h else zswgo J d v lo st h r
def z_geti : Ops := fun _ k _ e lo st h => match st with
  | .ref a :: st => if hK h a = (10 + e.2.2.1, 0) then k lo (.int (hI h a e.2.2.2.1) :: st) h else none
  | _ => none
def z_getl : Ops := fun _ k _ e lo st h => match st with
  | .ref a :: st => if hK h a = (10 + e.2.2.1, 0) then k lo (.long (hL h a e.2.2.2.1) :: st) h else none
  | _ => none
def z_getr : Ops := fun _ k _ e lo st h => match st with
  | .ref a :: st => if hK h a = (10 + e.2.2.1, 0) then k lo (zrf (hR h a e.2.2.2.1) :: st) h else none
  | _ => none
def z_puti : Ops := fun _ k _ e lo st h => match st with
  | .int v :: .ref a :: st => if hK h a = (10 + e.2.2.1, 0) then k lo st (setI h a e.2.2.2.1 v) else none
  | _ => none
def z_putz : Ops := fun _ k _ e lo st h => match st with
  | .int v :: .ref a :: st => if hK h a = (10 + e.2.2.1, 0) ∧ (v = 0 ∨ v = 1) then k lo st (setI h a e.2.2.2.1 v) else none
  | _ => none
def z_putl : Ops := fun _ k _ e lo st h => match st with
  | .long v :: .ref a :: st => if hK h a = (10 + e.2.2.1, 0) then k lo st (setL h a e.2.2.2.1 v) else none
  | _ => none
def z_putr : Ops := fun _ k _ e lo st h => match st with
  | .ref v :: .ref a :: st => if hK h a = (10 + e.2.2.1, 0) then k lo st (setR h a e.2.2.2.1 (some v)) else none
  | _ => none
/-- an index within an array of a tag -/
abbrev zin (h : AH) (a tag : Nat) (i : Int32) : Prop := (hK h a).1 = tag ∧ ¬ (i < 0 ∨ (hK h a).2 ≤ i.toNatClampNeg)
def z_iald (tag : Nat) : Ops := fun _ k _ _ lo st h => match st with
  | .int i :: .ref a :: st => if zin h a tag i then k lo (.int (hI h a i.toNatClampNeg) :: st) h else none
  | _ => none
def z_lald : Ops := fun _ k _ _ lo st h => match st with
  | .int i :: .ref a :: st => if zin h a 2 i then k lo (.long (hL h a i.toNatClampNeg) :: st) h else none
  | _ => none
def z_aald : Ops := fun _ k _ _ lo st h => match st with
  | .int i :: .ref a :: st => if zin h a 3 i then k lo (zrf (hR h a i.toNatClampNeg) :: st) h else none
  | _ => none
def z_sald : Ops := fun _ k _ _ lo st h => match st with
  | .int i :: .ref a :: st => if zin h a 4 i then match hR h a i.toNatClampNeg with
    | some q => if q < 16 then k lo (.float (UInt32.ofNat q) :: st) h else none
    | none => none
    else none
  | _ => none
def z_iast : Ops := fun _ k _ _ lo st h => match st with
  | .int x :: .int i :: .ref a :: st => if zin h a 0 i then k lo st (setI h a i.toNatClampNeg x) else none
  | _ => none
def z_bast : Ops := fun _ k _ _ lo st h => match st with
  | .int x :: .int i :: .ref a :: st => if zin h a 1 i then k lo st (setI h a i.toNatClampNeg (vp_nar .boolean x)) else none
  | _ => none
def z_last : Ops := fun _ k _ _ lo st h => match st with
  | .long x :: .int i :: .ref a :: st => if zin h a 2 i then k lo st (setL h a i.toNatClampNeg x) else none
  | _ => none
def z_aast : Ops := fun _ k _ _ lo st h => match st with
  | .ref v :: .int i :: .ref a :: st => if zin h a 3 i ∧ hK h v = (18, 0) then k lo st (setR h a i.toNatClampNeg (some v)) else none
  | .null :: .int i :: .ref a :: st => if zin h a 3 i then k lo st (setR h a i.toNatClampNeg none) else none
  | _ => none
def z_sast : Ops := fun _ k _ _ lo st h => match st with
  | .float v :: .int i :: .ref a :: st => if zin h a 4 i ∧ v.toNat < 16 then k lo st (setR h a i.toNatClampNeg (some v.toNat)) else none
  | _ => none
def z_alen : Ops := fun _ k _ _ lo st h => match st with
  | .ref a :: st => if (hK h a).1 ≤ 4 then k lo (.int (Int32.ofNat (hK h a).2) :: st) h else none
  | _ => none
def z_sld : Ops := fun E k _ _ lo st h => match st with
  | .int i :: .float s :: st => if s = 99 ∧ ¬ (i < 0 ∨ E.2.2.2 ≤ i.toNatClampNeg) then k lo (.int (E.2.2.1 i.toNatClampNeg) :: st) h else none
  | _ => none
def z_slen : Ops := fun E k _ _ lo st h => match st with
  | .float s :: st => if s = 99 then k lo (.int (Int32.ofNat E.2.2.2) :: st) h else none
  | _ => none
def z_new (nf : Nat → Nat) : Ops := fun _ k _ e lo st h => k lo (.ref (hn h) :: st) (zalloc h (10 + e.2.2.1, 0) (nf e.2.2.1))
def z_newa (tag : Nat) : Ops := fun _ k _ _ lo st h => match st with
  | .int x :: st => if ¬ x < 0 ∧ x.toNatClampNeg ≤ 60000 then k lo (.ref (hn h) :: st) (zalloc h (tag, x.toNatClampNeg) x.toNatClampNeg) else none
  | _ => none
/-- behind a call: what a handler answers where it throws -/
def zthr (E : Evn) (e : Nat) (h : AH) : Option Out := match E.2.1 e with
  | some r => some (.inr (.inr (some (.int r)), h))
  | none => some (.inr (.inl e, h))
/-- is the receiver of a kind -/
def zrcv (h : AH) (c : Nat) : List Value → Bool
  | .ref a :: _ => decide (hK h a = (10 + c, 0))
  | _ => false
/-- a call of an instance method, that may throw -/
def z_call (g : Kt → LV → List Value → AH → Option Value → Option Out) : Ops := fun E k _ e lo st h =>
  if e.2.2.2.1 ≤ st.length ∧ st.length ≤ e.2.2.2.1 + 4 ∧ zrcv h (e.2.2.2.2.1 % 100) (st.take e.2.2.2.1).reverse = true then match E.1 e.2.2.1 (st.take e.2.2.2.1).reverse h with
    | some (.inr v, h') => g k lo (st.drop e.2.2.2.1) h' v
    | some (.inl x, h') => zthr E x h'
    | none => none
  else none
/-- how wide the stack is below n arguments -/
def zbelow (n : Nat) (st : List Value) : Nat := ((st.drop n).map fun v => v.category).sum
/-- a call that must return -/
def z_calln (g : Kt → LV → List Value → AH → Option Value → Option Out) : Ops := fun E k _ e lo st h =>
  if e.2.2.2.1 ≤ st.length ∧ zbelow e.2.2.2.1 st ≤ 8 ∧ (e.2.2.2.2.1 % 100 = 99 ∨ zrcv h (e.2.2.2.2.1 % 100) (st.take e.2.2.2.1).reverse = true) then match E.1 e.2.2.1 (st.take e.2.2.2.1).reverse h with
    | some (.inr v, h') => g k lo (st.drop e.2.2.2.1) h' v
    | _ => none
  else none
def zgi : Kt → LV → List Value → AH → Option Value → Option Out := fun k lo st h v => match v with
  | some (.int r) => k lo (.int r :: st) h
  | _ => none
def zgl : Kt → LV → List Value → AH → Option Value → Option Out := fun k lo st h v => match v with
  | some (.long r) => k lo (.long r :: st) h
  | _ => none
def zgv : Kt → LV → List Value → AH → Option Value → Option Out := fun k lo st h v => match v with
  | none => k lo st h
  | _ => none
def zgr : Kt → LV → List Value → AH → Option Value → Option Out := fun k lo st h v => match v with
  | some (.ref r) => k lo (.ref r :: st) h
  | some .null => k lo (.null :: st) h
  | _ => none
def z_strlen (len : Nat → Nat) : Ops := fun _ k _ _ lo st h => match st with
  | .float s :: st => if s.toNat < 16 ∧ st.length ≤ 4 then k lo (.int (Int32.ofNat (len s.toNat)) :: st) h else none
  | _ => none
def z_strch (len : Nat → Nat) (ch : Nat → Nat → Int32) : Ops := fun _ k _ _ lo st h => match st with
  | .int i :: .float s :: st => if s.toNat < 16 ∧ ¬ (i < 0 ∨ len s.toNat ≤ i.toNatClampNeg) ∧ st.length ≤ 4 then k lo (.int (ch s.toNat i.toNatClampNeg) :: st) h else none
  | _ => none
/-- System.arraycopy of ints, whole rows from their beginning on -/
def z_acopy : Ops := fun _ k _ _ lo st h => match st with
  | .int n :: .int y :: .ref b :: .int x :: .ref a :: st => if (hK h a).1 = 0 ∧ (hK h b).1 = 0 ∧ x = 0 ∧ y = 0 ∧ ¬ n < 0 ∧ n.toNatClampNeg ≤ (hK h a).2 ∧ n.toNatClampNeg ≤ (hK h b).2 ∧ a ≠ b ∧ st.length ≤ 4 then k lo st (zcpy h a b n.toNatClampNeg) else none
  | _ => none
def z_objinit : Ops := fun _ k _ _ lo st h => match st with
  | .ref _ :: st => if st.length ≤ 4 then k lo st h else none
  | _ => none
def z_throw : Ops := fun _ _ _ e _ st h => if st.length ≤ 4 then some (.inr (.inl e.2.2.1, zexc h)) else none
def z_iret : Ops := fun _ _ _ _ _ st h => match st with
  | [.int v] => some (.inr (.inr (some (.int v)), h))
  | _ => none
def z_zret : Ops := fun _ _ _ _ _ st h => match st with
  | [.int v] => if v = 0 ∨ v = 1 then some (.inr (.inr (some (.int v)), h)) else none
  | _ => none
def z_lret : Ops := fun _ _ _ _ _ st h => match st with
  | [.long v] => some (.inr (.inr (some (.long v)), h))
  | _ => none
def z_aret : Ops := fun _ _ _ _ _ st h => match st with
  | [.ref v] => some (.inr (.inr (some (.ref v)), h))
  | [.null] => some (.inr (.inr (some .null), h))
  | _ => none
def z_vret : Ops := fun _ _ _ _ _ st h => match st with
  | [] => some (.inr (.inr none, h))
  | _ => none
def z_none : Ops := fun _ _ _ _ _ _ _ => none

/-- what the strings are: their lengths and signs -/
def zstr : List (List Int32) := [[116, 111, 108, 108, 32, 102, 114, 101, 101, 32, 108, 97, 116, 101, 32, 100, 111, 117, 98, 108, 101, 32, 97, 110, 100, 32, 111, 114, 32, 110, 111, 116, 32, 97, 120, 108, 101, 115, 32, 102, 117, 109, 101, 115, 32, 107, 109, 32, 104, 111, 117, 114, 32, 119, 101, 101, 107, 100, 97, 121, 32, 115, 111, 114, 116, 32, 103, 111, 110, 101, 32, 103, 117, 101, 115, 115, 101, 100, 32], [97, 120, 108, 101, 115], [102, 117, 109, 101, 115], [107, 109], [104, 111, 117, 114], [119, 101, 101, 107, 100, 97, 121], [115, 111, 114, 116], [103, 111, 110, 101], [103, 117, 101, 115, 115, 101, 100], [116, 111, 108, 108], [102, 114, 101, 101], [108, 97, 116, 101], [100, 111, 117, 98, 108, 101], [110, 111, 116], [97, 110, 100], [111, 114]]
def zlen (i : Nat) : Nat := (zstr.getD i []).length
def zch (i k : Nat) : Int32 := (zstr.getD i []).getD k 0
def zSW (i : Nat) : List (Int32 × Nat) × Nat := [([(0, 7), (1, 8), (2, 9), (3, 10)], 11), ([(42, 1), (43, 2), (45, 2), (47, 1), (60, 3), (61, 3), (304, 4), (305, 5), (306, 6)], 7), ([(42, 1), (43, 2), (45, 3), (47, 4), (60, 5), (61, 6), (304, 7)], 8), ([(0, 1), (1, 2), (2, 3), (3, 4), (4, 5), (5, 6)], 2), ([(0, 1), (1, 2), (2, 3), (3, 4), (4, 5), (5, 6)], 7), ([(0, 1), (1, 2), (2, 3), (3, 4), (4, 5), (5, 6), (6, 7), (7, 8), (8, 9), (9, 10)], 11), ([(1, 1), (2, 2), (3, 3), (4, 4), (5, 5), (6, 6), (7, 7)], 8), ([(0, 6), (1, 7), (2, 8), (3, 9), (4, 10), (5, 11)], 12), ([(0, 1), (1, 2), (2, 3), (3, 4), (4, 5), (5, 6), (6, 7), (7, 8), (8, 9), (9, 10)], 11), ([(0, 4), (1, 5), (2, 6), (3, 7), (4, 8), (5, 9), (6, 10), (7, 11), (8, 12), (9, 13), (10, 14), (11, 15), (12, 16), (13, 17), (14, 18), (15, 19), (16, 20), (17, 21), (18, 22), (19, 23), (20, 24), (21, 25), (22, 26), (23, 27), (24, 28), (25, 29)], 30)].getD i ([], 0)
def z_sw : Ops := fun _ _ J e lo st h => match st with
  | .int v :: st => zswgo J (zSW e.2.2.1).2 v lo st h (zSW e.2.2.1).1
  | _ => none
def zops : List Ops := [z_none, z_const, z_lcx, z_lcn, z_lds, z_iload, z_lload, z_aload, z_istore, z_lstore,
  z_astore, z_iinc, zop2 (fun x y => x + y), zop2 (fun x y => x - y), zop2 (fun x y => x * y), zdv2 (fun x y => x / y), zdv2 (fun x y => x - x / y * y), zop1 (fun x => -x), zop2 (fun x y => x <<< (y &&& 31)), zop2 (fun x y => x >>> (y &&& 31)),
  zop2 (fun x y => (x.toUInt32 >>> (y.toUInt32 &&& Int32.toUInt32 31)).toInt32), zop2 (fun x y => x &&& y), zop2 (fun x y => x ||| y), zop2 (fun x y => x ^^^ y), zol2 (fun x y => x + y), zol2 (fun x y => x - y), zol2 (fun x y => x * y), zdl2 (fun x y => x / y), zdl2 (fun x y => x - x / y * y), zol2 (fun x y => x &&& y),
  zol2 (fun x y => x ||| y), zls2 (fun x y => x <<< (y.toInt64 &&& 63)), zls2 (fun x y => x >>> (y.toInt64 &&& 63)), zls2 (fun x y => (x.toUInt64 >>> (y.toInt64.toUInt64 &&& Int64.toUInt64 63)).toInt64), z_i2l, z_l2i, z_lcmp, z_null, z_dup, z_dupx1,
  z_dup2, z_pop, zif1 (fun x => decide (x = 0)), zif1 (fun x => decide (¬ x = 0)), zif1 (fun x => decide (x < 0)), zif1 (fun x => decide (0 ≤ x)), zif1 (fun x => decide (0 < x)), zif1 (fun x => decide (x ≤ 0)), zif2 (fun x y => decide (x = y)), zif2 (fun x y => decide (¬ x = y)),
  zif2 (fun x y => decide (x < y)), zif2 (fun x y => decide (y ≤ x)), zif2 (fun x y => decide (y < x)), zif2 (fun x y => decide (x ≤ y)), z_ifnull, z_goto, z_goto, z_cut, z_sw, z_sw,
  z_geti, z_getl, z_getr, z_puti, z_putz, z_putl, z_putr, z_none, z_none, z_none,
  z_iald 0, z_iald 1, z_lald, z_aald, z_sald, z_iast, z_bast, z_last, z_aast, z_sast,
  z_alen, z_sld, z_slen, z_new znf, z_newa 0, z_newa 1, z_newa 2, z_newa 3, z_newa 4, z_none,
  z_call zgi, z_call zgl, z_call zgv, z_call zgr, z_strlen zlen, z_strch zlen zch, z_acopy, z_objinit, z_throw, z_iret,
  z_lret, z_aret, z_vret, z_zret, z_none, z_calln zgi, z_calln zgl, z_calln zgv, z_calln zgr]
def zop (i : Nat) : Ops := zops.getD i z_none
def zseg (E : Evn) (C : Nat → List MI) : Nat → List MI → Kt
  | 0, _, _, _, _ => none
  | _ + 1, [], _, _, _ => none
  | n + 1, e :: is, lo, st, h => zop e.2.1 E (zseg E C n is) (fun b => zseg E C n (C b)) e lo st h
/-- how long a stretch without a loop's head may be -/
def zfuel : Nat := 700
def zrun (E : Evn) (C : Nat → List MI) : Nat → Nat → LV → AH → Option (Ret × AH)
  | 0, _, _, _ => none
  | n + 1, b, lo, h => match zseg E C zfuel (C b) lo [] h with
    | some (.inl x) => zrun E C n x.1 x.2.1 x.2.2
    | some (.inr r) => some r
    | none => none
theorem zrun_succ {E : Evn} {C : Nat → List MI} : ∀ {n b : Nat} {lo : LV} {h : AH} {r : Ret × AH}, zrun E C n b lo h = some r → zrun E C (n + 1) b lo h = some r := by
  intro n
  induction n with
  | zero => intro b lo h r hr; simp [zrun] at hr
  | succ n ih =>
    intro b lo h r hr
    rw [zrun] at hr ⊢
    cases hs : zseg E C zfuel (C b) lo [] h with
    | none => rw [hs] at hr; cases hr
    | some o =>
      rw [hs] at hr
      cases o with
      | inl x => exact ih hr
      | inr x => exact hr
theorem zrun_le {E : Evn} {C : Nat → List MI} {n m b : Nat} {lo : LV} {h : AH} {r : Ret × AH} (hr : zrun E C n b lo h = some r) (hm : n ≤ m) : zrun E C m b lo h = some r := by
  obtain ⟨k, rfl⟩ := Nat.exists_eq_add_of_le hm
  clear hm
  induction k with
  | zero => exact hr
  | succ k ih => exact zrun_succ ih

/-- a run without a count: what it answers if any count suffices -/
noncomputable def zlim (E : Evn) (C : Nat → List MI) (b : Nat) (lo : LV) (h : AH) : Option (Ret × AH) :=
  @dite (Option (Ret × AH)) (∃ n, zrun E C n b lo h ≠ none) (Classical.propDecidable _) (fun q => zrun E C (Classical.choose q) b lo h) (fun _ => none)
theorem zlim_of {E : Evn} {C : Nat → List MI} {n b : Nat} {lo : LV} {h : AH} {r : Ret × AH} (hr : zrun E C n b lo h = some r) : zlim E C b lo h = some r := by
  have q : ∃ n, zrun E C n b lo h ≠ none := ⟨n, by rw [hr]; exact Option.some_ne_none r⟩
  unfold zlim
  rw [dif_pos q]
  have h1 := Classical.choose_spec q
  cases h2 : zrun E C (Classical.choose q) b lo h with
  | none => exact absurd h2 h1
  | some r2 =>
    have a := zrun_le h2 (Nat.le_max_left (Classical.choose q) n)
    have b := zrun_le hr (Nat.le_max_right (Classical.choose q) n)
    rw [a] at b
    exact b
theorem zlim_to {E : Evn} {C : Nat → List MI} {b : Nat} {lo : LV} {h : AH} {r : Ret × AH} (hr : zlim E C b lo h = some r) : ∃ n, zrun E C n b lo h = some r := by
  unfold zlim at hr
  split at hr
  · exact ⟨_, hr⟩
  · cases hr
/-- the run of a block, unrolled -/
theorem zlim_eq (E : Evn) (C : Nat → List MI) (b : Nat) (lo : LV) (h : AH) : zlim E C b lo h = match zseg E C zfuel (C b) lo [] h with
    | some (.inl x) => zlim E C x.1 x.2.1 x.2.2
    | some (.inr r) => some r
    | none => none := by
  cases hs : zseg E C zfuel (C b) lo [] h with
  | none =>
    cases hl : zlim E C b lo h with
    | none => rfl
    | some r =>
      obtain ⟨n, hn⟩ := zlim_to hl
      cases n with
      | zero => simp [zrun] at hn
      | succ n => rw [zrun, hs] at hn; cases hn
  | some o =>
    cases o with
    | inr r => exact zlim_of (n := 1) (by rw [zrun, hs])
    | inl x =>
      show zlim E C b lo h = zlim E C x.1 x.2.1 x.2.2
      cases hl : zlim E C x.1 x.2.1 x.2.2 with
      | some r =>
        obtain ⟨n, hn⟩ := zlim_to hl
        exact zlim_of (n := n + 1) (by rw [zrun, hs]; exact hn)
      | none =>
        cases hl2 : zlim E C b lo h with
        | none => rfl
        | some r =>
          obtain ⟨n, hn⟩ := zlim_to hl2
          cases n with
          | zero => simp [zrun] at hn
          | succ n =>
            rw [zrun, hs] at hn
            rw [zlim_of hn] at hl
            cases hl
