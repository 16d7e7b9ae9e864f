/-! SOUNDNESS, 7b: what a stretch keeps of the heap, without a machine. -/
def zPk (k : Kt) : Prop := ∀ (lo : LV) (st : List Value) (h : AH) (o : Out), k lo st h = some o → Lok (hn h) lo → Sok (hn h) st → Hok h → zle h (zho o) ∧ zvo o
def zPF (F : Cal) : Prop := ∀ (m : Nat) (as : List Value) (h : AH) (r : Ret) (h' : AH), F m as h = some (r, h') → Sok (hn h) as → Hok h → zle h h' ∧ Hok h' ∧ zrok (hn h') r
theorem zPk.to {k : Kt} (hk : zPk k) {lo : LV} {st : List Value} {h h' : AH} {o : Out} (ho : k lo st h' = some o) (h1 : Lok (hn h') lo) (h2 : Sok (hn h') st) (h3 : Hok h') (hl : zle h h') : zle h (zho o) ∧ zvo o :=
  ⟨hl.tr (hk lo st h' o ho h1 h2 h3).1, (hk lo st h' o ho h1 h2 h3).2⟩
section P
variable {k : Kt} {J : Nat → Kt} {E : Evn} {i : MI}
theorem Pz_const (hk : zPk k) : zPk (z_const E k J i) := by
  intro lo st h o ho h1 h2 h3
  unfold z_const at ho
  repeat' split at ho
  all_goals first | exact hk _ _ _ _ ho (by first | exact h1 | exact h1.set1 trivial | exact h1.set2 trivial | exact h1.set1 h2.hd) (by first | exact h2 | exact h2.tl | exact h2.tl.tl | exact h2.tl.tl.tl | exact Sok.cons trivial h2 | exact Sok.cons trivial h2.tl | exact Sok.cons trivial h2.tl.tl | exact Sok.cons h2.hd h2 | exact Sok.cons trivial (Sok.cons h2.tl.hd (Sok.cons trivial h2.tl.tl)) | exact Sok.cons trivial (Sok.cons h2.tl.hd h2)) h3 | cases ho
theorem Pz_lcx (hk : zPk k) : zPk (z_lcx E k J i) := by
  intro lo st h o ho h1 h2 h3
  unfold z_lcx at ho
  repeat' split at ho
  all_goals first | exact hk _ _ _ _ ho (by first | exact h1 | exact h1.set1 trivial | exact h1.set2 trivial | exact h1.set1 h2.hd) (by first | exact h2 | exact h2.tl | exact h2.tl.tl | exact h2.tl.tl.tl | exact Sok.cons trivial h2 | exact Sok.cons trivial h2.tl | exact Sok.cons trivial h2.tl.tl | exact Sok.cons h2.hd h2 | exact Sok.cons trivial (Sok.cons h2.tl.hd (Sok.cons trivial h2.tl.tl)) | exact Sok.cons trivial (Sok.cons h2.tl.hd h2)) h3 | cases ho
theorem Pz_lcn (hk : zPk k) : zPk (z_lcn E k J i) := by
  intro lo st h o ho h1 h2 h3
  unfold z_lcn at ho
  repeat' split at ho
  all_goals first | exact hk _ _ _ _ ho (by first | exact h1 | exact h1.set1 trivial | exact h1.set2 trivial | exact h1.set1 h2.hd) (by first | exact h2 | exact h2.tl | exact h2.tl.tl | exact h2.tl.tl.tl | exact Sok.cons trivial h2 | exact Sok.cons trivial h2.tl | exact Sok.cons trivial h2.tl.tl | exact Sok.cons h2.hd h2 | exact Sok.cons trivial (Sok.cons h2.tl.hd (Sok.cons trivial h2.tl.tl)) | exact Sok.cons trivial (Sok.cons h2.tl.hd h2)) h3 | cases ho
theorem Pz_null (hk : zPk k) : zPk (z_null E k J i) := by
  intro lo st h o ho h1 h2 h3
  unfold z_null at ho
  repeat' split at ho
  all_goals first | exact hk _ _ _ _ ho (by first | exact h1 | exact h1.set1 trivial | exact h1.set2 trivial | exact h1.set1 h2.hd) (by first | exact h2 | exact h2.tl | exact h2.tl.tl | exact h2.tl.tl.tl | exact Sok.cons trivial h2 | exact Sok.cons trivial h2.tl | exact Sok.cons trivial h2.tl.tl | exact Sok.cons h2.hd h2 | exact Sok.cons trivial (Sok.cons h2.tl.hd (Sok.cons trivial h2.tl.tl)) | exact Sok.cons trivial (Sok.cons h2.tl.hd h2)) h3 | cases ho
theorem Pz_lds (hk : zPk k) : zPk (z_lds E k J i) := by
  intro lo st h o ho h1 h2 h3
  unfold z_lds at ho
  repeat' split at ho
  all_goals first | exact hk _ _ _ _ ho (by first | exact h1 | exact h1.set1 trivial | exact h1.set2 trivial | exact h1.set1 h2.hd) (by first | exact h2 | exact h2.tl | exact h2.tl.tl | exact h2.tl.tl.tl | exact Sok.cons trivial h2 | exact Sok.cons trivial h2.tl | exact Sok.cons trivial h2.tl.tl | exact Sok.cons h2.hd h2 | exact Sok.cons trivial (Sok.cons h2.tl.hd (Sok.cons trivial h2.tl.tl)) | exact Sok.cons trivial (Sok.cons h2.tl.hd h2)) h3 | cases ho
theorem Pz_iload (hk : zPk k) : zPk (z_iload E k J i) := by
  intro lo st h o ho h1 h2 h3
  unfold z_iload at ho
  repeat' split at ho
  all_goals first | exact hk _ _ _ _ ho (by first | exact h1 | exact h1.set1 trivial | exact h1.set2 trivial | exact h1.set1 h2.hd) (by first | exact h2 | exact h2.tl | exact h2.tl.tl | exact h2.tl.tl.tl | exact Sok.cons trivial h2 | exact Sok.cons trivial h2.tl | exact Sok.cons trivial h2.tl.tl | exact Sok.cons h2.hd h2 | exact Sok.cons trivial (Sok.cons h2.tl.hd (Sok.cons trivial h2.tl.tl)) | exact Sok.cons trivial (Sok.cons h2.tl.hd h2)) h3 | cases ho
theorem Pz_lload (hk : zPk k) : zPk (z_lload E k J i) := by
  intro lo st h o ho h1 h2 h3
  unfold z_lload at ho
  repeat' split at ho
  all_goals first | exact hk _ _ _ _ ho (by first | exact h1 | exact h1.set1 trivial | exact h1.set2 trivial | exact h1.set1 h2.hd) (by first | exact h2 | exact h2.tl | exact h2.tl.tl | exact h2.tl.tl.tl | exact Sok.cons trivial h2 | exact Sok.cons trivial h2.tl | exact Sok.cons trivial h2.tl.tl | exact Sok.cons h2.hd h2 | exact Sok.cons trivial (Sok.cons h2.tl.hd (Sok.cons trivial h2.tl.tl)) | exact Sok.cons trivial (Sok.cons h2.tl.hd h2)) h3 | cases ho
theorem Pz_istore (hk : zPk k) : zPk (z_istore E k J i) := by
  intro lo st h o ho h1 h2 h3
  unfold z_istore at ho
  repeat' split at ho
  all_goals first | exact hk _ _ _ _ ho (by first | exact h1 | exact h1.set1 trivial | exact h1.set2 trivial | exact h1.set1 h2.hd) (by first | exact h2 | exact h2.tl | exact h2.tl.tl | exact h2.tl.tl.tl | exact Sok.cons trivial h2 | exact Sok.cons trivial h2.tl | exact Sok.cons trivial h2.tl.tl | exact Sok.cons h2.hd h2 | exact Sok.cons trivial (Sok.cons h2.tl.hd (Sok.cons trivial h2.tl.tl)) | exact Sok.cons trivial (Sok.cons h2.tl.hd h2)) h3 | cases ho
theorem Pz_lstore (hk : zPk k) : zPk (z_lstore E k J i) := by
  intro lo st h o ho h1 h2 h3
  unfold z_lstore at ho
  repeat' split at ho
  all_goals first | exact hk _ _ _ _ ho (by first | exact h1 | exact h1.set1 trivial | exact h1.set2 trivial | exact h1.set1 h2.hd) (by first | exact h2 | exact h2.tl | exact h2.tl.tl | exact h2.tl.tl.tl | exact Sok.cons trivial h2 | exact Sok.cons trivial h2.tl | exact Sok.cons trivial h2.tl.tl | exact Sok.cons h2.hd h2 | exact Sok.cons trivial (Sok.cons h2.tl.hd (Sok.cons trivial h2.tl.tl)) | exact Sok.cons trivial (Sok.cons h2.tl.hd h2)) h3 | cases ho
theorem Pz_astore (hk : zPk k) : zPk (z_astore E k J i) := by
  intro lo st h o ho h1 h2 h3
  unfold z_astore at ho
  repeat' split at ho
  all_goals first | exact hk _ _ _ _ ho (by first | exact h1 | exact h1.set1 trivial | exact h1.set2 trivial | exact h1.set1 h2.hd) (by first | exact h2 | exact h2.tl | exact h2.tl.tl | exact h2.tl.tl.tl | exact Sok.cons trivial h2 | exact Sok.cons trivial h2.tl | exact Sok.cons trivial h2.tl.tl | exact Sok.cons h2.hd h2 | exact Sok.cons trivial (Sok.cons h2.tl.hd (Sok.cons trivial h2.tl.tl)) | exact Sok.cons trivial (Sok.cons h2.tl.hd h2)) h3 | cases ho
theorem Pz_iinc (hk : zPk k) : zPk (z_iinc E k J i) := by
  intro lo st h o ho h1 h2 h3
  unfold z_iinc at ho
  repeat' split at ho
  all_goals first | exact hk _ _ _ _ ho (by first | exact h1 | exact h1.set1 trivial | exact h1.set2 trivial | exact h1.set1 h2.hd) (by first | exact h2 | exact h2.tl | exact h2.tl.tl | exact h2.tl.tl.tl | exact Sok.cons trivial h2 | exact Sok.cons trivial h2.tl | exact Sok.cons trivial h2.tl.tl | exact Sok.cons h2.hd h2 | exact Sok.cons trivial (Sok.cons h2.tl.hd (Sok.cons trivial h2.tl.tl)) | exact Sok.cons trivial (Sok.cons h2.tl.hd h2)) h3 | cases ho
theorem Pz_i2l (hk : zPk k) : zPk (z_i2l E k J i) := by
  intro lo st h o ho h1 h2 h3
  unfold z_i2l at ho
  repeat' split at ho
  all_goals first | exact hk _ _ _ _ ho (by first | exact h1 | exact h1.set1 trivial | exact h1.set2 trivial | exact h1.set1 h2.hd) (by first | exact h2 | exact h2.tl | exact h2.tl.tl | exact h2.tl.tl.tl | exact Sok.cons trivial h2 | exact Sok.cons trivial h2.tl | exact Sok.cons trivial h2.tl.tl | exact Sok.cons h2.hd h2 | exact Sok.cons trivial (Sok.cons h2.tl.hd (Sok.cons trivial h2.tl.tl)) | exact Sok.cons trivial (Sok.cons h2.tl.hd h2)) h3 | cases ho
theorem Pz_l2i (hk : zPk k) : zPk (z_l2i E k J i) := by
  intro lo st h o ho h1 h2 h3
  unfold z_l2i at ho
  repeat' split at ho
  all_goals first | exact hk _ _ _ _ ho (by first | exact h1 | exact h1.set1 trivial | exact h1.set2 trivial | exact h1.set1 h2.hd) (by first | exact h2 | exact h2.tl | exact h2.tl.tl | exact h2.tl.tl.tl | exact Sok.cons trivial h2 | exact Sok.cons trivial h2.tl | exact Sok.cons trivial h2.tl.tl | exact Sok.cons h2.hd h2 | exact Sok.cons trivial (Sok.cons h2.tl.hd (Sok.cons trivial h2.tl.tl)) | exact Sok.cons trivial (Sok.cons h2.tl.hd h2)) h3 | cases ho
theorem Pz_lcmp (hk : zPk k) : zPk (z_lcmp E k J i) := by
  intro lo st h o ho h1 h2 h3
  unfold z_lcmp at ho
  repeat' split at ho
  all_goals first | exact hk _ _ _ _ ho (by first | exact h1 | exact h1.set1 trivial | exact h1.set2 trivial | exact h1.set1 h2.hd) (by first | exact h2 | exact h2.tl | exact h2.tl.tl | exact h2.tl.tl.tl | exact Sok.cons trivial h2 | exact Sok.cons trivial h2.tl | exact Sok.cons trivial h2.tl.tl | exact Sok.cons h2.hd h2 | exact Sok.cons trivial (Sok.cons h2.tl.hd (Sok.cons trivial h2.tl.tl)) | exact Sok.cons trivial (Sok.cons h2.tl.hd h2)) h3 | cases ho
theorem Pz_dup (hk : zPk k) : zPk (z_dup E k J i) := by
  intro lo st h o ho h1 h2 h3
  unfold z_dup at ho
  repeat' split at ho
  all_goals first | exact hk _ _ _ _ ho (by first | exact h1 | exact h1.set1 trivial | exact h1.set2 trivial | exact h1.set1 h2.hd) (by first | exact h2 | exact h2.tl | exact h2.tl.tl | exact h2.tl.tl.tl | exact Sok.cons trivial h2 | exact Sok.cons trivial h2.tl | exact Sok.cons trivial h2.tl.tl | exact Sok.cons h2.hd h2 | exact Sok.cons trivial (Sok.cons h2.tl.hd (Sok.cons trivial h2.tl.tl)) | exact Sok.cons trivial (Sok.cons h2.tl.hd h2)) h3 | cases ho
theorem Pz_dupx1 (hk : zPk k) : zPk (z_dupx1 E k J i) := by
  intro lo st h o ho h1 h2 h3
  unfold z_dupx1 at ho
  repeat' split at ho
  all_goals first | exact hk _ _ _ _ ho (by first | exact h1 | exact h1.set1 trivial | exact h1.set2 trivial | exact h1.set1 h2.hd) (by first | exact h2 | exact h2.tl | exact h2.tl.tl | exact h2.tl.tl.tl | exact Sok.cons trivial h2 | exact Sok.cons trivial h2.tl | exact Sok.cons trivial h2.tl.tl | exact Sok.cons h2.hd h2 | exact Sok.cons trivial (Sok.cons h2.tl.hd (Sok.cons trivial h2.tl.tl)) | exact Sok.cons trivial (Sok.cons h2.tl.hd h2)) h3 | cases ho
theorem Pz_dup2 (hk : zPk k) : zPk (z_dup2 E k J i) := by
  intro lo st h o ho h1 h2 h3
  unfold z_dup2 at ho
  repeat' split at ho
  all_goals first | exact hk _ _ _ _ ho (by first | exact h1 | exact h1.set1 trivial | exact h1.set2 trivial | exact h1.set1 h2.hd) (by first | exact h2 | exact h2.tl | exact h2.tl.tl | exact h2.tl.tl.tl | exact Sok.cons trivial h2 | exact Sok.cons trivial h2.tl | exact Sok.cons trivial h2.tl.tl | exact Sok.cons h2.hd h2 | exact Sok.cons trivial (Sok.cons h2.tl.hd (Sok.cons trivial h2.tl.tl)) | exact Sok.cons trivial (Sok.cons h2.tl.hd h2)) h3 | cases ho
theorem Pz_pop (hk : zPk k) : zPk (z_pop E k J i) := by
  intro lo st h o ho h1 h2 h3
  unfold z_pop at ho
  repeat' split at ho
  all_goals first | exact hk _ _ _ _ ho (by first | exact h1 | exact h1.set1 trivial | exact h1.set2 trivial | exact h1.set1 h2.hd) (by first | exact h2 | exact h2.tl | exact h2.tl.tl | exact h2.tl.tl.tl | exact Sok.cons trivial h2 | exact Sok.cons trivial h2.tl | exact Sok.cons trivial h2.tl.tl | exact Sok.cons h2.hd h2 | exact Sok.cons trivial (Sok.cons h2.tl.hd (Sok.cons trivial h2.tl.tl)) | exact Sok.cons trivial (Sok.cons h2.tl.hd h2)) h3 | cases ho
theorem Pz_geti (hk : zPk k) : zPk (z_geti E k J i) := by
  intro lo st h o ho h1 h2 h3
  unfold z_geti at ho
  repeat' split at ho
  all_goals first | exact hk _ _ _ _ ho (by first | exact h1 | exact h1.set1 trivial | exact h1.set2 trivial | exact h1.set1 h2.hd) (by first | exact h2 | exact h2.tl | exact h2.tl.tl | exact h2.tl.tl.tl | exact Sok.cons trivial h2 | exact Sok.cons trivial h2.tl | exact Sok.cons trivial h2.tl.tl | exact Sok.cons h2.hd h2 | exact Sok.cons trivial (Sok.cons h2.tl.hd (Sok.cons trivial h2.tl.tl)) | exact Sok.cons trivial (Sok.cons h2.tl.hd h2)) h3 | cases ho
theorem Pz_getl (hk : zPk k) : zPk (z_getl E k J i) := by
  intro lo st h o ho h1 h2 h3
  unfold z_getl at ho
  repeat' split at ho
  all_goals first | exact hk _ _ _ _ ho (by first | exact h1 | exact h1.set1 trivial | exact h1.set2 trivial | exact h1.set1 h2.hd) (by first | exact h2 | exact h2.tl | exact h2.tl.tl | exact h2.tl.tl.tl | exact Sok.cons trivial h2 | exact Sok.cons trivial h2.tl | exact Sok.cons trivial h2.tl.tl | exact Sok.cons h2.hd h2 | exact Sok.cons trivial (Sok.cons h2.tl.hd (Sok.cons trivial h2.tl.tl)) | exact Sok.cons trivial (Sok.cons h2.tl.hd h2)) h3 | cases ho
theorem Pz_lald (hk : zPk k) : zPk (z_lald E k J i) := by
  intro lo st h o ho h1 h2 h3
  unfold z_lald at ho
  repeat' split at ho
  all_goals first | exact hk _ _ _ _ ho (by first | exact h1 | exact h1.set1 trivial | exact h1.set2 trivial | exact h1.set1 h2.hd) (by first | exact h2 | exact h2.tl | exact h2.tl.tl | exact h2.tl.tl.tl | exact Sok.cons trivial h2 | exact Sok.cons trivial h2.tl | exact Sok.cons trivial h2.tl.tl | exact Sok.cons h2.hd h2 | exact Sok.cons trivial (Sok.cons h2.tl.hd (Sok.cons trivial h2.tl.tl)) | exact Sok.cons trivial (Sok.cons h2.tl.hd h2)) h3 | cases ho
theorem Pz_alen (hk : zPk k) : zPk (z_alen E k J i) := by
  intro lo st h o ho h1 h2 h3
  unfold z_alen at ho
  repeat' split at ho
  all_goals first | exact hk _ _ _ _ ho (by first | exact h1 | exact h1.set1 trivial | exact h1.set2 trivial | exact h1.set1 h2.hd) (by first | exact h2 | exact h2.tl | exact h2.tl.tl | exact h2.tl.tl.tl | exact Sok.cons trivial h2 | exact Sok.cons trivial h2.tl | exact Sok.cons trivial h2.tl.tl | exact Sok.cons h2.hd h2 | exact Sok.cons trivial (Sok.cons h2.tl.hd (Sok.cons trivial h2.tl.tl)) | exact Sok.cons trivial (Sok.cons h2.tl.hd h2)) h3 | cases ho
theorem Pz_sld (hk : zPk k) : zPk (z_sld E k J i) := by
  intro lo st h o ho h1 h2 h3
  unfold z_sld at ho
  repeat' split at ho
  all_goals first | exact hk _ _ _ _ ho (by first | exact h1 | exact h1.set1 trivial | exact h1.set2 trivial | exact h1.set1 h2.hd) (by first | exact h2 | exact h2.tl | exact h2.tl.tl | exact h2.tl.tl.tl | exact Sok.cons trivial h2 | exact Sok.cons trivial h2.tl | exact Sok.cons trivial h2.tl.tl | exact Sok.cons h2.hd h2 | exact Sok.cons trivial (Sok.cons h2.tl.hd (Sok.cons trivial h2.tl.tl)) | exact Sok.cons trivial (Sok.cons h2.tl.hd h2)) h3 | cases ho
theorem Pz_slen (hk : zPk k) : zPk (z_slen E k J i) := by
  intro lo st h o ho h1 h2 h3
  unfold z_slen at ho
  repeat' split at ho
  all_goals first | exact hk _ _ _ _ ho (by first | exact h1 | exact h1.set1 trivial | exact h1.set2 trivial | exact h1.set1 h2.hd) (by first | exact h2 | exact h2.tl | exact h2.tl.tl | exact h2.tl.tl.tl | exact Sok.cons trivial h2 | exact Sok.cons trivial h2.tl | exact Sok.cons trivial h2.tl.tl | exact Sok.cons h2.hd h2 | exact Sok.cons trivial (Sok.cons h2.tl.hd (Sok.cons trivial h2.tl.tl)) | exact Sok.cons trivial (Sok.cons h2.tl.hd h2)) h3 | cases ho
theorem Pz_objinit (hk : zPk k) : zPk (z_objinit E k J i) := by
  intro lo st h o ho h1 h2 h3
  unfold z_objinit at ho
  repeat' split at ho
  all_goals first | exact hk _ _ _ _ ho (by first | exact h1 | exact h1.set1 trivial | exact h1.set2 trivial | exact h1.set1 h2.hd) (by first | exact h2 | exact h2.tl | exact h2.tl.tl | exact h2.tl.tl.tl | exact Sok.cons trivial h2 | exact Sok.cons trivial h2.tl | exact Sok.cons trivial h2.tl.tl | exact Sok.cons h2.hd h2 | exact Sok.cons trivial (Sok.cons h2.tl.hd (Sok.cons trivial h2.tl.tl)) | exact Sok.cons trivial (Sok.cons h2.tl.hd h2)) h3 | cases ho
theorem Pzop1 {f : Int32 → Int32} (hk : zPk k) : zPk (zop1 f E k J i) := by
  intro lo st h o ho h1 h2 h3
  unfold zop1 at ho
  repeat' split at ho
  all_goals first | exact hk _ _ _ _ ho (by first | exact h1 | exact h1.set1 trivial | exact h1.set2 trivial | exact h1.set1 h2.hd) (by first | exact h2 | exact h2.tl | exact h2.tl.tl | exact h2.tl.tl.tl | exact Sok.cons trivial h2 | exact Sok.cons trivial h2.tl | exact Sok.cons trivial h2.tl.tl | exact Sok.cons h2.hd h2 | exact Sok.cons trivial (Sok.cons h2.tl.hd (Sok.cons trivial h2.tl.tl)) | exact Sok.cons trivial (Sok.cons h2.tl.hd h2)) h3 | cases ho
theorem Pzop2 {f : Int32 → Int32 → Int32} (hk : zPk k) : zPk (zop2 f E k J i) := by
  intro lo st h o ho h1 h2 h3
  unfold zop2 at ho
  repeat' split at ho
  all_goals first | exact hk _ _ _ _ ho (by first | exact h1 | exact h1.set1 trivial | exact h1.set2 trivial | exact h1.set1 h2.hd) (by first | exact h2 | exact h2.tl | exact h2.tl.tl | exact h2.tl.tl.tl | exact Sok.cons trivial h2 | exact Sok.cons trivial h2.tl | exact Sok.cons trivial h2.tl.tl | exact Sok.cons h2.hd h2 | exact Sok.cons trivial (Sok.cons h2.tl.hd (Sok.cons trivial h2.tl.tl)) | exact Sok.cons trivial (Sok.cons h2.tl.hd h2)) h3 | cases ho
theorem Pzdv2 {f : Int32 → Int32 → Int32} (hk : zPk k) : zPk (zdv2 f E k J i) := by
  intro lo st h o ho h1 h2 h3
  unfold zdv2 at ho
  repeat' split at ho
  all_goals first | exact hk _ _ _ _ ho (by first | exact h1 | exact h1.set1 trivial | exact h1.set2 trivial | exact h1.set1 h2.hd) (by first | exact h2 | exact h2.tl | exact h2.tl.tl | exact h2.tl.tl.tl | exact Sok.cons trivial h2 | exact Sok.cons trivial h2.tl | exact Sok.cons trivial h2.tl.tl | exact Sok.cons h2.hd h2 | exact Sok.cons trivial (Sok.cons h2.tl.hd (Sok.cons trivial h2.tl.tl)) | exact Sok.cons trivial (Sok.cons h2.tl.hd h2)) h3 | cases ho
theorem Pzol2 {f : Int64 → Int64 → Int64} (hk : zPk k) : zPk (zol2 f E k J i) := by
  intro lo st h o ho h1 h2 h3
  unfold zol2 at ho
  repeat' split at ho
  all_goals first | exact hk _ _ _ _ ho (by first | exact h1 | exact h1.set1 trivial | exact h1.set2 trivial | exact h1.set1 h2.hd) (by first | exact h2 | exact h2.tl | exact h2.tl.tl | exact h2.tl.tl.tl | exact Sok.cons trivial h2 | exact Sok.cons trivial h2.tl | exact Sok.cons trivial h2.tl.tl | exact Sok.cons h2.hd h2 | exact Sok.cons trivial (Sok.cons h2.tl.hd (Sok.cons trivial h2.tl.tl)) | exact Sok.cons trivial (Sok.cons h2.tl.hd h2)) h3 | cases ho
theorem Pzdl2 {f : Int64 → Int64 → Int64} (hk : zPk k) : zPk (zdl2 f E k J i) := by
  intro lo st h o ho h1 h2 h3
  unfold zdl2 at ho
  repeat' split at ho
  all_goals first | exact hk _ _ _ _ ho (by first | exact h1 | exact h1.set1 trivial | exact h1.set2 trivial | exact h1.set1 h2.hd) (by first | exact h2 | exact h2.tl | exact h2.tl.tl | exact h2.tl.tl.tl | exact Sok.cons trivial h2 | exact Sok.cons trivial h2.tl | exact Sok.cons trivial h2.tl.tl | exact Sok.cons h2.hd h2 | exact Sok.cons trivial (Sok.cons h2.tl.hd (Sok.cons trivial h2.tl.tl)) | exact Sok.cons trivial (Sok.cons h2.tl.hd h2)) h3 | cases ho
theorem Pzls2 {f : Int64 → Int32 → Int64} (hk : zPk k) : zPk (zls2 f E k J i) := by
  intro lo st h o ho h1 h2 h3
  unfold zls2 at ho
  repeat' split at ho
  all_goals first | exact hk _ _ _ _ ho (by first | exact h1 | exact h1.set1 trivial | exact h1.set2 trivial | exact h1.set1 h2.hd) (by first | exact h2 | exact h2.tl | exact h2.tl.tl | exact h2.tl.tl.tl | exact Sok.cons trivial h2 | exact Sok.cons trivial h2.tl | exact Sok.cons trivial h2.tl.tl | exact Sok.cons h2.hd h2 | exact Sok.cons trivial (Sok.cons h2.tl.hd (Sok.cons trivial h2.tl.tl)) | exact Sok.cons trivial (Sok.cons h2.tl.hd h2)) h3 | cases ho
theorem Pz_iald {f : Nat} (hk : zPk k) : zPk (z_iald f E k J i) := by
  intro lo st h o ho h1 h2 h3
  unfold z_iald at ho
  repeat' split at ho
  all_goals first | exact hk _ _ _ _ ho (by first | exact h1 | exact h1.set1 trivial | exact h1.set2 trivial | exact h1.set1 h2.hd) (by first | exact h2 | exact h2.tl | exact h2.tl.tl | exact h2.tl.tl.tl | exact Sok.cons trivial h2 | exact Sok.cons trivial h2.tl | exact Sok.cons trivial h2.tl.tl | exact Sok.cons h2.hd h2 | exact Sok.cons trivial (Sok.cons h2.tl.hd (Sok.cons trivial h2.tl.tl)) | exact Sok.cons trivial (Sok.cons h2.tl.hd h2)) h3 | cases ho
theorem Pz_strlen {f : Nat → Nat} (hk : zPk k) : zPk (z_strlen f E k J i) := by
  intro lo st h o ho h1 h2 h3
  unfold z_strlen at ho
  repeat' split at ho
  all_goals first | exact hk _ _ _ _ ho (by first | exact h1 | exact h1.set1 trivial | exact h1.set2 trivial | exact h1.set1 h2.hd) (by first | exact h2 | exact h2.tl | exact h2.tl.tl | exact h2.tl.tl.tl | exact Sok.cons trivial h2 | exact Sok.cons trivial h2.tl | exact Sok.cons trivial h2.tl.tl | exact Sok.cons h2.hd h2 | exact Sok.cons trivial (Sok.cons h2.tl.hd (Sok.cons trivial h2.tl.tl)) | exact Sok.cons trivial (Sok.cons h2.tl.hd h2)) h3 | cases ho
theorem Pz_strch {f : Nat → Nat} {g : Nat → Nat → Int32} (hk : zPk k) : zPk (z_strch f g E k J i) := by
  intro lo st h o ho h1 h2 h3
  unfold z_strch at ho
  repeat' split at ho
  all_goals first | exact hk _ _ _ _ ho (by first | exact h1 | exact h1.set1 trivial | exact h1.set2 trivial | exact h1.set1 h2.hd) (by first | exact h2 | exact h2.tl | exact h2.tl.tl | exact h2.tl.tl.tl | exact Sok.cons trivial h2 | exact Sok.cons trivial h2.tl | exact Sok.cons trivial h2.tl.tl | exact Sok.cons h2.hd h2 | exact Sok.cons trivial (Sok.cons h2.tl.hd (Sok.cons trivial h2.tl.tl)) | exact Sok.cons trivial (Sok.cons h2.tl.hd h2)) h3 | cases ho
theorem Pz_aload (hk : zPk k) : zPk (z_aload E k J i) := by
  intro lo st h o ho h1 h2 h3
  unfold z_aload at ho
  split at ho
  · rename_i v hg
    exact hk _ _ _ _ ho h1 (Sok.cons (h1.get hg) h2) h3
  · exact hk _ _ _ _ ho h1 (Sok.cons trivial h2) h3
  · exact hk _ _ _ _ ho h1 (Sok.cons trivial h2) h3
  · cases ho
theorem Pz_goto (hJ : ∀ b, zPk (J b)) : zPk (z_goto E k J i) := hJ _
theorem Pzif1 {f : Int32 → Bool} (hk : zPk k) (hJ : ∀ b, zPk (J b)) : zPk (zif1 f E k J i) := by
  intro lo st h o ho h1 h2 h3
  unfold zif1 at ho
  split at ho
  · split at ho
    · exact hJ _ _ _ _ _ ho h1 h2.tl h3
    · exact hk _ _ _ _ ho h1 h2.tl h3
  · cases ho
theorem Pzif2 {f : Int32 → Int32 → Bool} (hk : zPk k) (hJ : ∀ b, zPk (J b)) : zPk (zif2 f E k J i) := by
  intro lo st h o ho h1 h2 h3
  unfold zif2 at ho
  split at ho
  · split at ho
    · exact hJ _ _ _ _ _ ho h1 h2.tl.tl h3
    · exact hk _ _ _ _ ho h1 h2.tl.tl h3
  · cases ho
theorem Pz_ifnull (hk : zPk k) (hJ : ∀ b, zPk (J b)) : zPk (z_ifnull E k J i) := by
  intro lo st h o ho h1 h2 h3
  unfold z_ifnull at ho
  split at ho
  · exact hk _ _ _ _ ho h1 h2.tl h3
  · exact hJ _ _ _ _ _ ho h1 h2.tl h3
  · cases ho
theorem Pzswgo (hJ : ∀ b, zPk (J b)) {d : Nat} {v : Int32} {lo : LV} {st : List Value} {h : AH} {o : Out} (h1 : Lok (hn h) lo) (h2 : Sok (hn h) st) (h3 : Hok h) : ∀ (L : List (Int32 × Nat)), zswgo J d v lo st h L = some o → zle h (zho o) ∧ zvo o
  | [], ho => hJ _ _ _ _ _ ho h1 h2 h3
  | q :: r, ho => by
    unfold zswgo at ho
    split at ho
    · exact hJ _ _ _ _ _ ho h1 h2 h3
    · exact Pzswgo hJ h1 h2 h3 r ho
theorem Pz_sw (hJ : ∀ b, zPk (J b)) : zPk (z_sw E k J i) := by
  intro lo st h o ho h1 h2 h3
  unfold z_sw at ho
  split at ho
  · exact Pzswgo hJ h1 h2.tl h3 _ ho
  · cases ho
theorem Pz_cut : zPk (z_cut E k J i) := by
  intro lo st h o ho h1 h2 h3
  unfold z_cut at ho
  split at ho
  · cases ho
    exact ⟨zle.rf, h1.can, h3⟩
  · cases ho
theorem Pz_getr (hk : zPk k) : zPk (z_getr E k J i) := by
  intro lo st h o ho h1 h2 h3
  unfold z_getr at ho
  split at ho
  · split at ho
    · rename_i hka
      exact hk _ _ _ _ ho h1 (Sok.cons (zrf_ok fun j hj => h3.lt (by rw [hka]; show 10 + i.2.2.1 ≠ 4; omega) hj) h2.tl) h3
    · cases ho
  · cases ho
theorem Pz_aald (hk : zPk k) : zPk (z_aald E k J i) := by
  intro lo st h o ho h1 h2 h3
  unfold z_aald at ho
  split at ho
  · split at ho
    · rename_i hz
      exact hk _ _ _ _ ho h1 (Sok.cons (zrf_ok fun j hj => h3.lt (by rw [hz.1]; decide) hj) h2.tl.tl) h3
    · cases ho
  · cases ho
theorem Pz_sald (hk : zPk k) : zPk (z_sald E k J i) := by
  intro lo st h o ho h1 h2 h3
  unfold z_sald at ho
  split at ho
  · split at ho
    · split at ho
      · split at ho
        · exact hk _ _ _ _ ho h1 (Sok.cons trivial h2.tl.tl) h3
        · cases ho
      · cases ho
    · cases ho
  · cases ho
theorem Pz_puti (hk : zPk k) : zPk (z_puti E k J i) := by
  intro lo st h o ho h1 h2 h3
  unfold z_puti at ho
  split at ho
  · split at ho
    · exact hk.to ho h1 h2.tl.tl (h3.setI h2.tl.hd) zle.rf
    · cases ho
  · cases ho
theorem Pz_putz (hk : zPk k) : zPk (z_putz E k J i) := by
  intro lo st h o ho h1 h2 h3
  unfold z_putz at ho
  split at ho
  · split at ho
    · exact hk.to ho h1 h2.tl.tl (h3.setI h2.tl.hd) zle.rf
    · cases ho
  · cases ho
theorem Pz_putl (hk : zPk k) : zPk (z_putl E k J i) := by
  intro lo st h o ho h1 h2 h3
  unfold z_putl at ho
  split at ho
  · split at ho
    · exact hk.to ho h1 h2.tl.tl (h3.setL h2.tl.hd) zle.rf
    · cases ho
  · cases ho
theorem Pz_putr (hk : zPk k) : zPk (z_putr E k J i) := by
  intro lo st h o ho h1 h2 h3
  unfold z_putr at ho
  split at ho
  · split at ho
    · exact hk.to ho h1 h2.tl.tl (h3.setR h2.tl.hd (fun _ j hj => by cases hj; exact h2.hd)) zle.rf
    · cases ho
  · cases ho
theorem Pz_iast (hk : zPk k) : zPk (z_iast E k J i) := by
  intro lo st h o ho h1 h2 h3
  unfold z_iast at ho
  split at ho
  · split at ho
    · exact hk.to ho h1 h2.tl.tl.tl (h3.setI h2.tl.tl.hd) zle.rf
    · cases ho
  · cases ho
theorem Pz_bast (hk : zPk k) : zPk (z_bast E k J i) := by
  intro lo st h o ho h1 h2 h3
  unfold z_bast at ho
  split at ho
  · split at ho
    · exact hk.to ho h1 h2.tl.tl.tl (h3.setI h2.tl.tl.hd) zle.rf
    · cases ho
  · cases ho
theorem Pz_last (hk : zPk k) : zPk (z_last E k J i) := by
  intro lo st h o ho h1 h2 h3
  unfold z_last at ho
  split at ho
  · split at ho
    · exact hk.to ho h1 h2.tl.tl.tl (h3.setL h2.tl.tl.hd) zle.rf
    · cases ho
  · cases ho
theorem Pz_aast (hk : zPk k) : zPk (z_aast E k J i) := by
  intro lo st h o ho h1 h2 h3
  unfold z_aast at ho
  split at ho
  · split at ho
    · exact hk.to ho h1 h2.tl.tl.tl (h3.setR h2.tl.tl.hd (fun _ j hj => by cases hj; exact h2.hd)) zle.rf
    · cases ho
  · split at ho
    · exact hk.to ho h1 h2.tl.tl.tl (h3.setR h2.tl.tl.hd (fun _ j hj => by cases hj)) zle.rf
    · cases ho
  · cases ho
theorem Pz_sast (hk : zPk k) : zPk (z_sast E k J i) := by
  intro lo st h o ho h1 h2 h3
  unfold z_sast at ho
  split at ho
  · split at ho
    · rename_i hz
      exact hk.to ho h1 h2.tl.tl.tl (h3.setR h2.tl.tl.hd (fun h4 => absurd hz.1.1 h4)) zle.rf
    · cases ho
  · cases ho
theorem Pz_new {f : Nat → Nat} (hk : zPk k) : zPk (z_new f E k J i) := by
  intro lo st h o ho h1 h2 h3
  exact hk.to (show k lo (.ref (hn h) :: st) (zalloc h (10 + i.2.2.1, 0) (f i.2.2.1)) = some o from ho) (h1.up (Nat.le_succ _)) (Sok.cons (Nat.lt_succ_self _) (h2.up (Nat.le_succ _))) h3.alloc zle.alloc
theorem Pz_newa {f : Nat} (hk : zPk k) : zPk (z_newa f E k J i) := by
  intro lo st h o ho h1 h2 h3
  unfold z_newa at ho
  split at ho
  · split at ho
    · exact hk.to ho (h1.up (Nat.le_succ _)) (Sok.cons (Nat.lt_succ_self _) (h2.tl.up (Nat.le_succ _))) h3.alloc zle.alloc
    · cases ho
  · cases ho
theorem Pz_acopy (hk : zPk k) : zPk (z_acopy E k J i) := by
  intro lo st h o ho h1 h2 h3
  unfold z_acopy at ho
  split at ho
  · split at ho
    · exact hk.to ho h1 h2.tl.tl.tl.tl.tl (h3.cpy h2.tl.tl.hd) zle.rf
    · cases ho
  · cases ho
theorem Pz_throw : zPk (z_throw E k J i) := by
  intro lo st h o ho h1 h2 h3
  unfold z_throw at ho
  split at ho
  · cases ho
    exact ⟨⟨Nat.le_refl _, Nat.le_succ _, Nat.le_add_right _ _⟩, trivial, h3.exc⟩
  · cases ho
theorem Pcall_ret {g : Kt → LV → List Value → AH → Option Value → Option Out} {n : Nat} (hg : ∀ lo st h v o, g k lo st h v = some o → k lo (v.toList ++ st) h = some o) (hk : zPk k) {lo : LV} {st : List Value} {h h' : AH} {v : Option Value} {o : Out} (h1 : Lok (hn h) lo) (h2 : Sok (hn h) st) (q1 : zle h h') (q2 : Hok h') (q3 : zrok (hn h') (.inr v)) (ho : g k lo (st.drop n) h' v = some o) : zle h (zho o) ∧ zvo o :=
  hk.to (hg _ _ _ _ _ ho) (h1.up q1.1) (fun w hw => by
    rcases List.mem_append.mp hw with hw | hw
    · cases v with
      | none => cases hw
      | some v => rw [List.mem_singleton.mp hw]; exact q3
    · exact (Sok.up (fun v hv => h2 v (List.mem_of_mem_drop hv)) q1.1) w hw) q2 q1
theorem Pz_call {g : Kt → LV → List Value → AH → Option Value → Option Out} (hF : zPF E.1) (hg : ∀ lo st h v o, g k lo st h v = some o → k lo (v.toList ++ st) h = some o) (hk : zPk k) : zPk (z_call g E k J i) := by
  intro lo st h o ho h1 h2 h3
  unfold z_call at ho
  split at ho
  · split at ho
    · rename_i v h' hcall
      obtain ⟨q1, q2, q3⟩ := hF _ _ _ _ _ hcall (fun v hv => h2 v (List.mem_of_mem_take (List.mem_reverse.mp hv))) h3
      exact Pcall_ret hg hk h1 h2 q1 q2 q3 ho
    · rename_i x h' hcall
      obtain ⟨q1, q2, q3⟩ := hF _ _ _ _ _ hcall (fun v hv => h2 v (List.mem_of_mem_take (List.mem_reverse.mp hv))) h3
      unfold zthr at ho
      split at ho <;> cases ho <;> exact ⟨q1, trivial, q2⟩
    · cases ho
  · cases ho
theorem Pz_calln {g : Kt → LV → List Value → AH → Option Value → Option Out} (hF : zPF E.1) (hg : ∀ lo st h v o, g k lo st h v = some o → k lo (v.toList ++ st) h = some o) (hk : zPk k) : zPk (z_calln g E k J i) := by
  intro lo st h o ho h1 h2 h3
  unfold z_calln at ho
  split at ho
  · split at ho
    · rename_i v h' hcall
      obtain ⟨q1, q2, q3⟩ := hF _ _ _ _ _ hcall (fun v hv => h2 v (List.mem_of_mem_take (List.mem_reverse.mp hv))) h3
      exact Pcall_ret hg hk h1 h2 q1 q2 q3 ho
    · cases ho
  · cases ho
theorem Pz_iret : zPk (z_iret E k J i) := by
  intro lo st h o ho h1 h2 h3
  unfold z_iret at ho
  split at ho
  · cases ho; exact ⟨zle.rf, trivial, h3⟩
  · cases ho
theorem Pz_zret : zPk (z_zret E k J i) := by
  intro lo st h o ho h1 h2 h3
  unfold z_zret at ho
  split at ho
  · split at ho
    · cases ho; exact ⟨zle.rf, trivial, h3⟩
    · cases ho
  · cases ho
theorem Pz_lret : zPk (z_lret E k J i) := by
  intro lo st h o ho h1 h2 h3
  unfold z_lret at ho
  split at ho
  · cases ho; exact ⟨zle.rf, trivial, h3⟩
  · cases ho
theorem Pz_aret : zPk (z_aret E k J i) := by
  intro lo st h o ho h1 h2 h3
  unfold z_aret at ho
  split at ho
  · cases ho; exact ⟨zle.rf, h2.hd, h3⟩
  · cases ho; exact ⟨zle.rf, trivial, h3⟩
  · cases ho
theorem Pz_vret : zPk (z_vret E k J i) := by
  intro lo st h o ho h1 h2 h3
  unfold z_vret at ho
  split at ho
  · cases ho; exact ⟨zle.rf, trivial, h3⟩
  · cases ho
theorem Pz_none : zPk (z_none E k J i) := fun lo st h o ho => by cases ho
end P
theorem zops_P {k : Kt} {J : Nat → Kt} {E : Evn} {i : MI} (hF : zPF E.1) (hk : zPk k) (hJ : ∀ b, zPk (J b)) : ∀ f ∈ zops, zPk (f E k J i) :=
  List.forall_mem_cons.mpr ⟨Pz_none, List.forall_mem_cons.mpr ⟨Pz_const hk, List.forall_mem_cons.mpr ⟨Pz_lcx hk, List.forall_mem_cons.mpr ⟨Pz_lcn hk, List.forall_mem_cons.mpr ⟨Pz_lds hk, List.forall_mem_cons.mpr ⟨Pz_iload hk, List.forall_mem_cons.mpr ⟨Pz_lload hk, List.forall_mem_cons.mpr ⟨Pz_aload hk, List.forall_mem_cons.mpr ⟨Pz_istore hk, List.forall_mem_cons.mpr ⟨Pz_lstore hk, List.forall_mem_cons.mpr ⟨Pz_astore hk, List.forall_mem_cons.mpr ⟨Pz_iinc hk, List.forall_mem_cons.mpr ⟨Pzop2 hk, List.forall_mem_cons.mpr ⟨Pzop2 hk, List.forall_mem_cons.mpr ⟨Pzop2 hk, List.forall_mem_cons.mpr ⟨Pzdv2 hk, List.forall_mem_cons.mpr ⟨Pzdv2 hk, List.forall_mem_cons.mpr ⟨Pzop1 hk, List.forall_mem_cons.mpr ⟨Pzop2 hk, List.forall_mem_cons.mpr ⟨Pzop2 hk, List.forall_mem_cons.mpr ⟨Pzop2 hk, List.forall_mem_cons.mpr ⟨Pzop2 hk, List.forall_mem_cons.mpr ⟨Pzop2 hk, List.forall_mem_cons.mpr ⟨Pzop2 hk, List.forall_mem_cons.mpr ⟨Pzol2 hk, List.forall_mem_cons.mpr ⟨Pzol2 hk, List.forall_mem_cons.mpr ⟨Pzol2 hk, List.forall_mem_cons.mpr ⟨Pzdl2 hk, List.forall_mem_cons.mpr ⟨Pzdl2 hk, List.forall_mem_cons.mpr ⟨Pzol2 hk, List.forall_mem_cons.mpr ⟨Pzol2 hk, List.forall_mem_cons.mpr ⟨Pzls2 hk, List.forall_mem_cons.mpr ⟨Pzls2 hk, List.forall_mem_cons.mpr ⟨Pzls2 hk, List.forall_mem_cons.mpr ⟨Pz_i2l hk, List.forall_mem_cons.mpr ⟨Pz_l2i hk, List.forall_mem_cons.mpr ⟨Pz_lcmp hk, List.forall_mem_cons.mpr ⟨Pz_null hk, List.forall_mem_cons.mpr ⟨Pz_dup hk, List.forall_mem_cons.mpr ⟨Pz_dupx1 hk, List.forall_mem_cons.mpr ⟨Pz_dup2 hk, List.forall_mem_cons.mpr ⟨Pz_pop hk, List.forall_mem_cons.mpr ⟨Pzif1 hk hJ, List.forall_mem_cons.mpr ⟨Pzif1 hk hJ, List.forall_mem_cons.mpr ⟨Pzif1 hk hJ, List.forall_mem_cons.mpr ⟨Pzif1 hk hJ, List.forall_mem_cons.mpr ⟨Pzif1 hk hJ, List.forall_mem_cons.mpr ⟨Pzif1 hk hJ, List.forall_mem_cons.mpr ⟨Pzif2 hk hJ, List.forall_mem_cons.mpr ⟨Pzif2 hk hJ, List.forall_mem_cons.mpr ⟨Pzif2 hk hJ, List.forall_mem_cons.mpr ⟨Pzif2 hk hJ, List.forall_mem_cons.mpr ⟨Pzif2 hk hJ, List.forall_mem_cons.mpr ⟨Pzif2 hk hJ, List.forall_mem_cons.mpr ⟨Pz_ifnull hk hJ, List.forall_mem_cons.mpr ⟨Pz_goto hJ, List.forall_mem_cons.mpr ⟨Pz_goto hJ, List.forall_mem_cons.mpr ⟨Pz_cut, List.forall_mem_cons.mpr ⟨Pz_sw hJ, List.forall_mem_cons.mpr ⟨Pz_sw hJ, List.forall_mem_cons.mpr ⟨Pz_geti hk, List.forall_mem_cons.mpr ⟨Pz_getl hk, List.forall_mem_cons.mpr ⟨Pz_getr hk, List.forall_mem_cons.mpr ⟨Pz_puti hk, List.forall_mem_cons.mpr ⟨Pz_putz hk, List.forall_mem_cons.mpr ⟨Pz_putl hk, List.forall_mem_cons.mpr ⟨Pz_putr hk, List.forall_mem_cons.mpr ⟨Pz_none, List.forall_mem_cons.mpr ⟨Pz_none, List.forall_mem_cons.mpr ⟨Pz_none, List.forall_mem_cons.mpr ⟨Pz_iald hk, List.forall_mem_cons.mpr ⟨Pz_iald hk, List.forall_mem_cons.mpr ⟨Pz_lald hk, List.forall_mem_cons.mpr ⟨Pz_aald hk, List.forall_mem_cons.mpr ⟨Pz_sald hk, List.forall_mem_cons.mpr ⟨Pz_iast hk, List.forall_mem_cons.mpr ⟨Pz_bast hk, List.forall_mem_cons.mpr ⟨Pz_last hk, List.forall_mem_cons.mpr ⟨Pz_aast hk, List.forall_mem_cons.mpr ⟨Pz_sast hk, List.forall_mem_cons.mpr ⟨Pz_alen hk, List.forall_mem_cons.mpr ⟨Pz_sld hk, List.forall_mem_cons.mpr ⟨Pz_slen hk, List.forall_mem_cons.mpr ⟨Pz_new hk, List.forall_mem_cons.mpr ⟨Pz_newa hk, List.forall_mem_cons.mpr ⟨Pz_newa hk, List.forall_mem_cons.mpr ⟨Pz_newa hk, List.forall_mem_cons.mpr ⟨Pz_newa hk, List.forall_mem_cons.mpr ⟨Pz_newa hk, List.forall_mem_cons.mpr ⟨Pz_none, List.forall_mem_cons.mpr ⟨Pz_call hF zgi_ok hk, List.forall_mem_cons.mpr ⟨Pz_call hF zgl_ok hk, List.forall_mem_cons.mpr ⟨Pz_call hF zgv_ok hk, List.forall_mem_cons.mpr ⟨Pz_call hF zgr_ok hk, List.forall_mem_cons.mpr ⟨Pz_strlen hk, List.forall_mem_cons.mpr ⟨Pz_strch hk, List.forall_mem_cons.mpr ⟨Pz_acopy hk, List.forall_mem_cons.mpr ⟨Pz_objinit hk, List.forall_mem_cons.mpr ⟨Pz_throw, List.forall_mem_cons.mpr ⟨Pz_iret, List.forall_mem_cons.mpr ⟨Pz_lret, List.forall_mem_cons.mpr ⟨Pz_aret, List.forall_mem_cons.mpr ⟨Pz_vret, List.forall_mem_cons.mpr ⟨Pz_zret, List.forall_mem_cons.mpr ⟨Pz_none, List.forall_mem_cons.mpr ⟨Pz_calln hF zgi_ok hk, List.forall_mem_cons.mpr ⟨Pz_calln hF zgl_ok hk, List.forall_mem_cons.mpr ⟨Pz_calln hF zgv_ok hk, List.forall_mem_cons.mpr ⟨Pz_calln hF zgr_ok hk, fun _ h => absurd h List.not_mem_nil⟩⟩⟩⟩⟩⟩⟩⟩⟩⟩⟩⟩⟩⟩⟩⟩⟩⟩⟩⟩⟩⟩⟩⟩⟩⟩⟩⟩⟩⟩⟩⟩⟩⟩⟩⟩⟩⟩⟩⟩⟩⟩⟩⟩⟩⟩⟩⟩⟩⟩⟩⟩⟩⟩⟩⟩⟩⟩⟩⟩⟩⟩⟩⟩⟩⟩⟩⟩⟩⟩⟩⟩⟩⟩⟩⟩⟩⟩⟩⟩⟩⟩⟩⟩⟩⟩⟩⟩⟩⟩⟩⟩⟩⟩⟩⟩⟩⟩⟩⟩⟩⟩⟩⟩⟩⟩⟩⟩⟩
theorem zop_P {n : Nat} {k : Kt} {J : Nat → Kt} {E : Evn} {i : MI} (hF : zPF E.1) (hk : zPk k) (hJ : ∀ b, zPk (J b)) : zPk (zop n E k J i) := by
  unfold zop
  rw [List.getD_eq_getElem?_getD]
  cases h : zops[n]? with
  | none => exact Pz_none (k := k) (J := J) (E := E) (i := i)
  | some f => exact zops_P hF hk hJ f (List.mem_of_getElem? h)
theorem zseg_P {E : Evn} {C : Nat → List MI} (hF : zPF E.1) : ∀ (n : Nat) (is : List MI), zPk (zseg E C n is)
  | 0, _ => fun lo st h o ho => by cases ho
  | n + 1, [] => fun lo st h o ho => by cases ho
  | n + 1, e :: is => zop_P (k := zseg E C n is) (J := fun b => zseg E C n (C b)) hF (zseg_P hF n is) (fun b => zseg_P hF n (C b))
theorem zrun_P {E : Evn} {C : Nat → List MI} (hF : zPF E.1) : ∀ (n b : Nat) (lo : LV) (h : AH) (r : Ret) (h' : AH), zrun E C n b lo h = some (r, h') → Lok (hn h) lo → Hok h → zle h h' ∧ Hok h' ∧ zrok (hn h') r
  | 0, _, _, _, _, _, hr, _, _ => by cases hr
  | n + 1, b, lo, h, r, h', hr, h1, h3 => by
    rw [zrun] at hr
    cases hs : zseg E C zfuel (C b) lo [] h with
    | none => rw [hs] at hr; cases hr
    | some o =>
      rw [hs] at hr
      obtain ⟨a1, a2⟩ := zseg_P hF zfuel (C b) lo [] h o hs h1 (fun _ hv => by cases hv) h3
      cases o with
      | inr x => cases hr; exact ⟨a1, a2.2, a2.1⟩
      | inl x =>
        obtain ⟨b1, b2⟩ := zrun_P hF n x.1 x.2.1 x.2.2 r h' hr a2.1 a2.2
        exact ⟨a1.tr b1, b2⟩
theorem Lok.args {n : Nat} : ∀ (as : List Value) (k : Nat), Sok n as → Lok n (lv_args k as)
  | [], _, _ => fun q hq => by cases hq
  | v :: as, k, hs => fun q hq => by
    unfold lv_args at hq
    rcases List.mem_cons.mp hq with rfl | hq
    · exact hs.hd
    · exact Lok.args as _ hs.tl q hq
theorem zev_P {xs : Nat → Int32} {L : Nat} : ∀ d, zPF (zev xs L d)
  | 0 => fun m as h r h' hr => by cases hr
  | d + 1 => fun m as h r h' hr h2 h3 => by
    unfold zev at hr
    split at hr
    case isFalse => cases hr
    obtain ⟨n, hn⟩ := zlim_to hr
    exact zrun_P (E := (zev xs L d, zH m, xs, L)) (zev_P d) n 0 (lv_args 0 as) h r h' hn (Lok.args as 0 h2) h3
