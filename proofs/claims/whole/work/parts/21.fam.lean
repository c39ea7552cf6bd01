/-! One rule an instruction kind. -/
section Fam
variable {d : Nat} {M M' : XM} {pc n idx k : Nat} {L S : List Value} {h : XH} {Q : XO → XH → Prop}
theorem f_iconst {z : Int} {v : Int32} (hf : xfetch M pc = some (.iconst z, n)) (hv : Int32.ofInt z = v) : EvQ d M pc L S h Q = EvQ d M (pc + 1) L (.int v :: S) h Q := by subst hv; exact evx hf rfl
theorem f_bipush {z : Int} {v : Int32} (hf : xfetch M pc = some (.bipush z, n)) (hv : (Int8.ofInt z).toInt32 = v) : EvQ d M pc L S h Q = EvQ d M (pc + 2) L (.int v :: S) h Q := by subst hv; exact evx hf rfl
theorem f_sipush {z : Int} {v : Int32} (hf : xfetch M pc = some (.sipush z, n)) (hv : (Int16.ofInt z).toInt32 = v) : EvQ d M pc L S h Q = EvQ d M (pc + 3) L (.int v :: S) h Q := by subst hv; exact evx hf rfl
theorem f_lconst {z : Fin 2} {v : Int64} (hf : xfetch M pc = some (.lconst z, n)) (hv : Int64.ofNat (z : Nat) = v) : EvQ d M pc L S h Q = EvQ d M (pc + 1) L (.long v :: S) h Q := by subst hv; exact evx hf rfl
theorem f_dconst (hf : xfetch M pc = some (.dconst 0, n)) : EvQ d M pc L S h Q = EvQ d M (pc + 1) L (.double FP.dconst0 :: S) h Q := evx hf rfl
theorem f_null (hf : xfetch M pc = some (.aconst_null, n)) : EvQ d M pc L S h Q = EvQ d M (pc + 1) L (.null :: S) h Q := evx hf rfl
theorem f_iload_n {z : Fin 4} {x : Int32} (hf : xfetch M pc = some (.iload_n z, n)) (hl : L[(z : Nat)]? = some (.int x)) : EvQ d M pc L S h Q = EvQ d M (pc + 1) L (.int x :: S) h Q := evx hf (by show xiload _ _ _ _ _ = _; unfold xiload xlo; rw [hl]; rfl)
theorem f_iload {x : Int32} (hf : xfetch M pc = some (.iload k, n)) (hl : L[k]? = some (.int x)) : EvQ d M pc L S h Q = EvQ d M (pc + 2) L (.int x :: S) h Q := evx hf (by show xiload _ _ _ _ _ = _; unfold xiload xlo; rw [hl]; rfl)
theorem f_aload_n {z : Fin 4} {x : Nat} (hf : xfetch M pc = some (.aload_n z, n)) (hl : L[(z : Nat)]? = some (.ref x)) : EvQ d M pc L S h Q = EvQ d M (pc + 1) L (.ref x :: S) h Q := evx hf (by show xaload _ _ _ _ _ = _; unfold xaload xlo; rw [hl]; rfl)
theorem f_aload {x : Nat} (hf : xfetch M pc = some (.aload k, n)) (hl : L[k]? = some (.ref x)) : EvQ d M pc L S h Q = EvQ d M (pc + 2) L (.ref x :: S) h Q := evx hf (by show xaload _ _ _ _ _ = _; unfold xaload xlo; rw [hl]; rfl)
theorem f_lload_n {z : Fin 4} {x : Int64} (hf : xfetch M pc = some (.lload_n z, n)) (hl : L[(z : Nat)]? = some (.long x)) : EvQ d M pc L S h Q = EvQ d M (pc + 1) L (.long x :: S) h Q := evx hf (by show xlload _ _ _ _ _ = _; unfold xlload xlo; rw [hl]; rfl)
theorem f_lload {x : Int64} (hf : xfetch M pc = some (.lload k, n)) (hl : L[k]? = some (.long x)) : EvQ d M pc L S h Q = EvQ d M (pc + 2) L (.long x :: S) h Q := evx hf (by show xlload _ _ _ _ _ = _; unfold xlload xlo; rw [hl]; rfl)
theorem f_dload_n {z : Fin 4} {x : UInt64} (hf : xfetch M pc = some (.dload_n z, n)) (hl : L[(z : Nat)]? = some (.double x)) : EvQ d M pc L S h Q = EvQ d M (pc + 1) L (.double x :: S) h Q := evx hf (by show xdload _ _ _ _ _ = _; unfold xdload xlo; rw [hl]; rfl)
theorem f_dload {x : UInt64} (hf : xfetch M pc = some (.dload k, n)) (hl : L[k]? = some (.double x)) : EvQ d M pc L S h Q = EvQ d M (pc + 2) L (.double x :: S) h Q := evx hf (by show xdload _ _ _ _ _ = _; unfold xdload xlo; rw [hl]; rfl)
theorem f_istore_n {z : Fin 4} {x : Int32} {L' : List Value} (hf : xfetch M pc = some (.istore_n z, n)) (hk : (z : Nat) < L.length) (hl : xsto1 L (z : Nat) (.int x) = L') : EvQ d M pc L (.int x :: S) h Q = EvQ d M (pc + 1) L' S h Q := evx hf ((if_pos hk).trans (by rw [hl]; rfl) : (if (z : Nat) < L.length then nx (pc + 1) (xsto1 L (z : Nat) (.int x)) S h else none) = _)
theorem f_istore {x : Int32} {L' : List Value} (hf : xfetch M pc = some (.istore k, n)) (hk : k < L.length) (hl : xsto1 L k (.int x) = L') : EvQ d M pc L (.int x :: S) h Q = EvQ d M (pc + 2) L' S h Q := evx hf ((if_pos hk).trans (by rw [hl]; rfl) : (if k < L.length then nx (pc + 2) (xsto1 L k (.int x)) S h else none) = _)
theorem f_astore_n {z : Fin 4} {x : Nat} {L' : List Value} (hf : xfetch M pc = some (.astore_n z, n)) (hk : (z : Nat) < L.length) (hl : xsto1 L (z : Nat) (.ref x) = L') : EvQ d M pc L (.ref x :: S) h Q = EvQ d M (pc + 1) L' S h Q := evx hf ((if_pos hk).trans (by rw [hl]; rfl) : (if (z : Nat) < L.length then nx (pc + 1) (xsto1 L (z : Nat) (.ref x)) S h else none) = _)
theorem f_astore {x : Nat} {L' : List Value} (hf : xfetch M pc = some (.astore k, n)) (hk : k < L.length) (hl : xsto1 L k (.ref x) = L') : EvQ d M pc L (.ref x :: S) h Q = EvQ d M (pc + 2) L' S h Q := evx hf ((if_pos hk).trans (by rw [hl]; rfl) : (if k < L.length then nx (pc + 2) (xsto1 L k (.ref x)) S h else none) = _)
theorem f_lstore_n {z : Fin 4} {x : Int64} {L' : List Value} (hf : xfetch M pc = some (.lstore_n z, n)) (hk : (z : Nat) + 1 < L.length) (hl : xsto2 L (z : Nat) (.long x) = L') : EvQ d M pc L (.long x :: S) h Q = EvQ d M (pc + 1) L' S h Q := evx hf ((if_pos hk).trans (by rw [hl]; rfl) : (if (z : Nat) + 1 < L.length then nx (pc + 1) (xsto2 L (z : Nat) (.long x)) S h else none) = _)
theorem f_lstore {x : Int64} {L' : List Value} (hf : xfetch M pc = some (.lstore k, n)) (hk : k + 1 < L.length) (hl : xsto2 L k (.long x) = L') : EvQ d M pc L (.long x :: S) h Q = EvQ d M (pc + 2) L' S h Q := evx hf ((if_pos hk).trans (by rw [hl]; rfl) : (if k + 1 < L.length then nx (pc + 2) (xsto2 L k (.long x)) S h else none) = _)
theorem f_dstore {x : UInt64} {L' : List Value} (hf : xfetch M pc = some (.dstore k, n)) (hk : k + 1 < L.length) (hl : xsto2 L k (.double x) = L') : EvQ d M pc L (.double x :: S) h Q = EvQ d M (pc + 2) L' S h Q := evx hf ((if_pos hk).trans (by rw [hl]; rfl) : (if k + 1 < L.length then nx (pc + 2) (xsto2 L k (.double x)) S h else none) = _)
theorem f_iinc {z : Int} {x v : Int32} {L' : List Value} (hf : xfetch M pc = some (.iinc k z, n)) (hx : L[k]? = some (.int x)) (hv : Int32.ofInt z = v) (hl : xsto1 L k (.int (x + v)) = L') : EvQ d M pc L S h Q = EvQ d M (pc + 3) L' S h Q := by
  subst hv
  refine evx hf ?_
  show xlo L k _ = _
  unfold xlo
  rw [hx]
  dsimp only
  rw [hl]
  rfl
theorem f_iadd {x y : Int32} (hf : xfetch M pc = some (.iadd, n)) : EvQ d M pc L (.int y :: .int x :: S) h Q = EvQ d M (pc + 1) L (.int (x + y) :: S) h Q := evx hf rfl
theorem f_isub {x y : Int32} (hf : xfetch M pc = some (.isub, n)) : EvQ d M pc L (.int y :: .int x :: S) h Q = EvQ d M (pc + 1) L (.int (x - y) :: S) h Q := evx hf rfl
theorem f_imul {x y : Int32} (hf : xfetch M pc = some (.imul, n)) : EvQ d M pc L (.int y :: .int x :: S) h Q = EvQ d M (pc + 1) L (.int (x * y) :: S) h Q := evx hf rfl
theorem f_iand {x y : Int32} (hf : xfetch M pc = some (.iand, n)) : EvQ d M pc L (.int y :: .int x :: S) h Q = EvQ d M (pc + 1) L (.int (x &&& y) :: S) h Q := evx hf rfl
theorem f_ior {x y : Int32} (hf : xfetch M pc = some (.ior, n)) : EvQ d M pc L (.int y :: .int x :: S) h Q = EvQ d M (pc + 1) L (.int (x ||| y) :: S) h Q := evx hf rfl
theorem f_ishl {x y : Int32} (hf : xfetch M pc = some (.ishl, n)) : EvQ d M pc L (.int y :: .int x :: S) h Q = EvQ d M (pc + 1) L (.int (x <<< (y &&& 31)) :: S) h Q := evx hf rfl
theorem f_ishr {x y : Int32} (hf : xfetch M pc = some (.ishr, n)) : EvQ d M pc L (.int y :: .int x :: S) h Q = EvQ d M (pc + 1) L (.int (x >>> (y &&& 31)) :: S) h Q := evx hf rfl
theorem f_land {x y : Int64} (hf : xfetch M pc = some (.land, n)) : EvQ d M pc L (.long y :: .long x :: S) h Q = EvQ d M (pc + 1) L (.long (x &&& y) :: S) h Q := evx hf rfl
theorem f_lor {x y : Int64} (hf : xfetch M pc = some (.lor, n)) : EvQ d M pc L (.long y :: .long x :: S) h Q = EvQ d M (pc + 1) L (.long (x ||| y) :: S) h Q := evx hf rfl
theorem f_lshl {x : Int64} {y : Int32} (hf : xfetch M pc = some (.lshl, n)) : EvQ d M pc L (.int y :: .long x :: S) h Q = EvQ d M (pc + 1) L (.long (x <<< (y.toInt64 &&& 63)) :: S) h Q := evx hf rfl
theorem f_lshr {x : Int64} {y : Int32} (hf : xfetch M pc = some (.lshr, n)) : EvQ d M pc L (.int y :: .long x :: S) h Q = EvQ d M (pc + 1) L (.long (x >>> (y.toInt64 &&& 63)) :: S) h Q := evx hf rfl
theorem f_lcmp {x y : Int64} (hf : xfetch M pc = some (.lcmp, n)) : EvQ d M pc L (.long y :: .long x :: S) h Q = EvQ d M (pc + 1) L (.int (lg_cmp x y) :: S) h Q := evx hf rfl
theorem f_ineg {x : Int32} (hf : xfetch M pc = some (.ineg, n)) : EvQ d M pc L (.int x :: S) h Q = EvQ d M (pc + 1) L (.int (-x) :: S) h Q := evx hf rfl
theorem f_i2l {x : Int32} (hf : xfetch M pc = some (.i2l, n)) : EvQ d M pc L (.int x :: S) h Q = EvQ d M (pc + 1) L (.long x.toInt64 :: S) h Q := evx hf rfl
theorem f_i2c {x : Int32} (hf : xfetch M pc = some (.i2c, n)) : EvQ d M pc L (.int x :: S) h Q = EvQ d M (pc + 1) L (.int (x.toUInt32 % 65536).toInt32 :: S) h Q := evx hf rfl
theorem f_i2d {x : Int32} (hf : xfetch M pc = some (.i2d, n)) : EvQ d M pc L (.int x :: S) h Q = EvQ d M (pc + 1) L (.double (FP.i2d x) :: S) h Q := evx hf rfl
theorem f_dcmp {x y : UInt64} {op : CmpOp} (hf : xfetch M pc = some (.dcmp op, n)) : EvQ d M pc L (.double y :: .double x :: S) h Q = EvQ d M (pc + 1) L (.int (Op.cmpValue (FP.dcmp x y) op) :: S) h Q := evx hf rfl
theorem f_dup_i {x : Int32} (hf : xfetch M pc = some (.dup, n)) : EvQ d M pc L (.int x :: S) h Q = EvQ d M (pc + 1) L (.int x :: .int x :: S) h Q := evx hf rfl
theorem f_dup_a {x : Nat} (hf : xfetch M pc = some (.dup, n)) : EvQ d M pc L (.ref x :: S) h Q = EvQ d M (pc + 1) L (.ref x :: .ref x :: S) h Q := evx hf rfl
theorem f_pop {x : Int32} (hf : xfetch M pc = some (.pop, n)) : EvQ d M pc L (.int x :: S) h Q = EvQ d M (pc + 1) L S h Q := evx hf rfl
theorem f_dup2 {y : Int32} {x : Nat} (hf : xfetch M pc = some (.dup2, n)) : EvQ d M pc L (.int y :: .ref x :: S) h Q = EvQ d M (pc + 1) L (.int y :: .ref x :: .int y :: .ref x :: S) h Q := evx hf rfl
theorem f_dup_x1 {y : Int32} {x : Nat} (hf : xfetch M pc = some (.dup_x1, n)) : EvQ d M pc L (.int y :: .ref x :: S) h Q = EvQ d M (pc + 1) L (.int y :: .ref x :: .int y :: S) h Q := evx hf rfl
theorem f_goto {off : Int} {q : Nat} (hf : xfetch M pc = some (.goto off, n)) (hq : (pc : Int) + off = (q : Int)) : EvQ d M pc L S h Q = EvQ d M q L S h Q := evx hf (by show xj _ _ _ _ _ = _; unfold xj; rw [hq, if_pos (by omega)]; rfl)
theorem f_ldc {j o : Nat} {tx : String} (hf : xfetch M pc = some (.ldc idx, n)) (ho : xm_own M = o) (h1 : xlk sT o idx = some tx) (h2 : xldc (o * 1000 + idx) = some j) : EvQ d M pc L S h Q = EvQ d M (pc + 2) L (.ref (1000000 + j) :: S) h Q := by
  subst ho
  exact evx hf (by unfold xstep; dsimp only; rw [h1, h2]; rfl)
/-! effects -/
def eif (c : ClassFile.Cond) (x y : Int32) (a b : Prop) : Prop := match c with
  | .eq => if x = y then a else b
  | .ne => if x ≠ y then a else b
  | .lt => if x < y then a else b
  | .ge => if y ≤ x then a else b
  | .gt => if y < x then a else b
  | .le => if x ≤ y then a else b
theorem aft_xif {c : ClassFile.Cond} {x y : Int32} {a b : Option XR} : Aft d M pc L Q (xif c x y a b) = eif c x y (Aft d M pc L Q a) (Aft d M pc L Q b) := by
  cases c <;> exact aft_ite
theorem f_if {c : ClassFile.Cond} {off : Int} {q : Nat} {x : Int32} (hf : xfetch M pc = some (.ifCond c off, n)) (hq : (pc : Int) + off = (q : Int)) : EvQ d M pc L (.int x :: S) h Q = eif c x 0 (EvQ d M q L S h Q) (EvQ d M (pc + 3) L S h Q) := by
  rw [evq hf]
  show Aft d M pc L Q (if 0 ≤ (pc : Int) + off then _ else _) = _
  rw [hq, if_pos (by omega), aft_xif]
  unfold xj
  rw [hq, if_pos (by omega)]
  rfl
theorem f_icmp {c : ClassFile.Cond} {off : Int} {q : Nat} {x y : Int32} (hf : xfetch M pc = some (.if_icmp c off, n)) (hq : (pc : Int) + off = (q : Int)) : EvQ d M pc L (.int y :: .int x :: S) h Q = eif c x y (EvQ d M q L S h Q) (EvQ d M (pc + 3) L S h Q) := by
  rw [evq hf]
  show Aft d M pc L Q (if 0 ≤ (pc : Int) + off then _ else _) = _
  rw [hq, if_pos (by omega), aft_xif]
  unfold xj
  rw [hq, if_pos (by omega)]
  rfl
theorem f_ifnull {off : Int} {x : Nat} (hf : xfetch M pc = some (.ifnull off, n)) : EvQ d M pc L (.ref x :: S) h Q = EvQ d M (pc + 3) L S h Q := evx hf rfl
theorem f_getfield {ci k : Nat} {nest : Bool} {a : Nat} (hf : xfetch M pc = some (.getfield idx, n)) (ht : xlk fT (xm_own M) idx = some (ci, k, nest)) : EvQ d M pc L (.ref a :: S) h Q = egf (hget h a) ci k (fun v => EvQ d M (pc + 3) L (v :: S) h Q) := by
  rw [evq hf]
  unfold xstep
  dsimp only
  rw [ht]
  exact aft_gf
theorem f_putfield {ci k : Nat} {nest : Bool} {a : Nat} {v : Value} {r : vw_C} (hf : xfetch M pc = some (.putfield idx, n)) (ht : xlk fT (xm_own M) idx = some (ci, k, nest)) (hr : vwCl[ci]? = some r) (hc : ((!(r.2.1 k).2.2.2) || ((!nest) && (xm_y M).name == "<init>" && (Nat.beq (xm_own M) ci))) = true) : EvQ d M pc L (v :: .ref a :: S) h Q = epf (hget h a) ci k v (fun e => EvQ d M (pc + 3) L S (hset h a e) Q) := by
  rw [evq hf]
  unfold xstep
  dsimp only
  rw [ht]
  dsimp only
  rw [hr]
  dsimp only
  rw [hc]
  show Aft d M pc L Q (xpf (hget h a) ci k v fun e => nx (pc + 3) L S (hset h a e)) = _
  exact aft_pf
theorem f_iaload {i : Int32} {a : Nat} (hf : xfetch M pc = some (.iaload, n)) (ho : Nat.beq (xm_own M) 11 = false) : EvQ d M pc L (.int i :: .ref a :: S) h Q = ega (hget h a) 0 i (fun x => EvQ d M (pc + 1) L (.int x :: S) h Q) := by
  rw [evq hf]
  show Aft d M pc L Q (bif Nat.beq (xm_own M) 11 && Nat.beq a 2000000 then (if i < 0 ∨ h.2.2.2.2.1 ≤ i.toNatClampNeg then none else nx (pc + 1) L (.int (h.2.2.2.2.2 i.toNatClampNeg) :: S) h)
          else xga (hget h a) 0 i fun x => nx (pc + 1) L (.int x :: S) h) = _
  rw [ho]
  show Aft d M pc L Q (xga (hget h a) 0 i fun x => nx (pc + 1) L (.int x :: S) h) = _
  exact aft_ga
theorem f_baload {i : Int32} {a : Nat} (hf : xfetch M pc = some (.baload, n)) : EvQ d M pc L (.int i :: .ref a :: S) h Q = ega (hget h a) 1 i (fun x => EvQ d M (pc + 1) L (.int x :: S) h Q) := by
  rw [evq hf]
  show Aft d M pc L Q (xga (hget h a) 1 i fun x => nx (pc + 1) L (.int x :: S) h) = _
  exact aft_ga
theorem f_caload {i : Int32} {a : Nat} (hf : xfetch M pc = some (.caload, n)) : EvQ d M pc L (.int i :: .ref a :: S) h Q = ega (hget h a) 2 i (fun x => EvQ d M (pc + 1) L (.int x :: S) h Q) := by
  rw [evq hf]
  show Aft d M pc L Q (xga (hget h a) 2 i fun x => nx (pc + 1) L (.int x :: S) h) = _
  exact aft_ga
theorem f_laload {i : Int32} {a : Nat} (hf : xfetch M pc = some (.laload, n)) : EvQ d M pc L (.int i :: .ref a :: S) h Q = egl (hget h a) i (fun x => EvQ d M (pc + 1) L (.long x :: S) h Q) := by
  rw [evq hf]
  show Aft d M pc L Q (xgl (hget h a) i fun x => nx (pc + 1) L (.long x :: S) h) = _
  exact aft_gl
theorem f_daload {i : Int32} {a : Nat} (hf : xfetch M pc = some (.daload, n)) : EvQ d M pc L (.int i :: .ref a :: S) h Q = egd (hget h a) i (fun x => EvQ d M (pc + 1) L (.double x :: S) h Q) := by
  rw [evq hf]
  show Aft d M pc L Q (xgd (hget h a) i fun x => nx (pc + 1) L (.double x :: S) h) = _
  exact aft_gd
theorem f_aaload {i : Int32} {a : Nat} (hf : xfetch M pc = some (.aaload, n)) : EvQ d M pc L (.int i :: .ref a :: S) h Q = egr (hget h a) i (fun x => EvQ d M (pc + 1) L (va_rf x :: S) h Q) := by
  rw [evq hf]
  show Aft d M pc L Q (xgr (hget h a) i fun x => nx (pc + 1) L (va_rf x :: S) h) = _
  exact aft_gr
theorem f_iastore {i x : Int32} {a : Nat} (hf : xfetch M pc = some (.iastore, n)) : EvQ d M pc L (.int x :: .int i :: .ref a :: S) h Q = epa (hget h a) 0 i x (fun e => EvQ d M (pc + 1) L S (hset h a e) Q) := by
  rw [evq hf]
  show Aft d M pc L Q (xpa (hget h a) 0 i x fun e => nx (pc + 1) L S (hset h a e)) = _
  exact aft_pa
theorem f_bastore {i x : Int32} {a : Nat} (hf : xfetch M pc = some (.bastore, n)) : EvQ d M pc L (.int x :: .int i :: .ref a :: S) h Q = epa (hget h a) 1 i (vp_nar .boolean x) (fun e => EvQ d M (pc + 1) L S (hset h a e) Q) := by
  rw [evq hf]
  show Aft d M pc L Q (xpa (hget h a) 1 i (vp_nar .boolean x) fun e => nx (pc + 1) L S (hset h a e)) = _
  exact aft_pa
theorem f_castore {i x : Int32} {a : Nat} (hf : xfetch M pc = some (.castore, n)) : EvQ d M pc L (.int x :: .int i :: .ref a :: S) h Q = epa (hget h a) 2 i (vp_nar .char x) (fun e => EvQ d M (pc + 1) L S (hset h a e) Q) := by
  rw [evq hf]
  show Aft d M pc L Q (xpa (hget h a) 2 i (vp_nar .char x) fun e => nx (pc + 1) L S (hset h a e)) = _
  exact aft_pa
theorem f_lastore {i : Int32} {x : Int64} {a : Nat} (hf : xfetch M pc = some (.lastore, n)) : EvQ d M pc L (.long x :: .int i :: .ref a :: S) h Q = epl (hget h a) i x (fun e => EvQ d M (pc + 1) L S (hset h a e) Q) := by
  rw [evq hf]
  show Aft d M pc L Q (xpl (hget h a) i x fun e => nx (pc + 1) L S (hset h a e)) = _
  exact aft_pl
theorem f_dastore {i : Int32} {x : UInt64} {a : Nat} (hf : xfetch M pc = some (.dastore, n)) : EvQ d M pc L (.double x :: .int i :: .ref a :: S) h Q = epd (hget h a) i x (fun e => EvQ d M (pc + 1) L S (hset h a e) Q) := by
  rw [evq hf]
  show Aft d M pc L Q (xpd (hget h a) i x fun e => nx (pc + 1) L S (hset h a e)) = _
  exact aft_pd
theorem f_alen {a : Nat} (hf : xfetch M pc = some (.arraylength, n)) (ho : Nat.beq (xm_own M) 11 = false) : EvQ d M pc L (.ref a :: S) h Q = elen (hget h a) (fun x => EvQ d M (pc + 1) L (.int x :: S) h Q) := by
  rw [evq hf]
  show Aft d M pc L Q (xlen M h a fun x => nx (pc + 1) L (.int x :: S) h) = _
  unfold xlen
  rw [ho]
  generalize hget h a = e
  rcases e with _ | (⟨u, n, g⟩ | ⟨cj, fs⟩) <;> rfl
theorem f_idiv {x y : Int32} (hf : xfetch M pc = some (.idiv, n)) : EvQ d M pc L (.int y :: .int x :: S) h Q = if y = 0 then False else EvQ d M (pc + 1) L (.int (x / y) :: S) h Q := by
  rw [evq hf]
  show Aft d M pc L Q (if y = 0 then none else nx (pc + 1) L (.int (x / y) :: S) h) = _
  exact aft_ite
theorem f_irem {x y : Int32} (hf : xfetch M pc = some (.irem, n)) : EvQ d M pc L (.int y :: .int x :: S) h Q = if y = 0 then False else EvQ d M (pc + 1) L (.int (x % y) :: S) h Q := by
  rw [evq hf]
  show Aft d M pc L Q (if y = 0 then none else nx (pc + 1) L (.int (x % y) :: S) h) = _
  exact aft_ite
theorem f_ddiv {x y : UInt64} (hf : xfetch M pc = some (.ddiv, n)) : EvQ d M pc L (.double y :: .double x :: S) h Q = if FP.ddiv x y &&& 0x7fffffffffffffff ≤ 0x7ff0000000000000 then EvQ d M (pc + 1) L (.double (FP.ddiv x y) :: S) h Q else False := by
  rw [evq hf]
  show Aft d M pc L Q (if FP.ddiv x y &&& 0x7fffffffffffffff ≤ 0x7ff0000000000000 then nx (pc + 1) L (.double (FP.ddiv x y) :: S) h else none) = _
  exact aft_ite
theorem f_static {As rest : List Value} (hf : xfetch M pc = some (.invokestatic idx, n)) (hp : xlk pT (xm_own M) idx = none) (hm : xlk mT (xm_own M) idx = some M') (hs : xm_st M' = true) (ha : xpop (xm_n M') [] S = some (As, rest)) (hc : xle4 rest = true ∧ As.all xc1 = true ∧ As.length ≤ xm_maxL M') : EvQ (d + 1) M pc L S h Q = Call d M' As h (Bck (d + 1) M M' pc L rest Q) := by
  rw [evq hf]
  unfold xstep
  dsimp only
  rw [hp]
  dsimp only
  rw [hm]
  dsimp only
  rw [hs]
  dsimp only [cond_true]
  rw [ha]
  dsimp only
  unfold xcall
  rw [if_pos hc]
  rfl
theorem f_virtual {As rest : List Value} {b : Nat} (hf : xfetch M pc = some (.invokevirtual idx, n)) (hp : xlk pT (xm_own M) idx = none) (hm : xlk mT (xm_own M) idx = some M') (hs : (!(xm_st M') && !((xm_y M').name == "<init>")) = true) (ha : xpop (xm_n M') [] S = some (As, .ref b :: rest)) (hc : xle4 rest = true ∧ (Value.ref b :: As).all xc1 = true ∧ (Value.ref b :: As).length ≤ xm_maxL M') : EvQ (d + 1) M pc L S h Q = eob (hget h b) (xm_own M') (Call d M' (.ref b :: As) h (Bck (d + 1) M M' pc L rest Q)) := by
  rw [evq hf]
  unfold xstep
  dsimp only
  rw [hp]
  dsimp only
  rw [hm]
  dsimp only
  rw [hs]
  dsimp only [cond_true]
  rw [ha]
  dsimp only
  unfold eob
  generalize hget h b = e
  rcases e with _ | (⟨u, n, g⟩ | ⟨cj, fs⟩)
  · rfl
  · rfl
  · show Aft (d + 1) M pc L Q (bif Nat.beq cj (xm_own M') then xcall M' (.ref b :: As) rest h else none) = bif Nat.beq cj (xm_own M') then Call d M' (.ref b :: As) h (Bck (d + 1) M M' pc L rest Q) else False
    cases Nat.beq cj (xm_own M')
    · rfl
    · show Aft (d + 1) M pc L Q (xcall M' (.ref b :: As) rest h) = Call d M' (.ref b :: As) h (Bck (d + 1) M M' pc L rest Q)
      unfold xcall
      rw [if_pos hc]
      rfl
theorem f_prim_pure {k0 : Nat} {S' : List Value} (hf : xfetch M pc = some (.invokestatic idx, n)) (hp : xlk pT (xm_own M) idx = some k0) (hk : Nat.ble k0 3 = true) (hx : xprim M k0 pc L S h = nx (pc + 3) L S' h) : EvQ d M pc L S h Q = EvQ d M (pc + 3) L S' h Q := by
  rw [evq hf]
  unfold xstep
  dsimp only
  rw [hp]
  dsimp only
  rw [hk]
  dsimp only [cond_true]
  rw [hx]
  rfl
theorem f_copy {x y z : Int32} {a0 a : Nat} (hf : xfetch M pc = some (.invokestatic idx, n)) (hp : xlk pT (xm_own M) idx = some 3) (h4 : xle4 S = true) : EvQ d M pc L (.int z :: .int y :: .ref a :: .int x :: .ref a0 :: S) h Q = ecp (hget h a0) (hget h a) x y z (fun e => EvQ d M (pc + 3) L S (hset h a e) Q) := by
  rw [evq hf]
  unfold xstep
  dsimp only
  rw [hp]
  show Aft d M pc L Q (bif xle4 S then _ else _) = _
  rw [h4]
  show Aft d M pc L Q (xcp (hget h a0) (hget h a) x y z fun e => nx (pc + 3) L S (hset h a e)) = _
  exact aft_cp
theorem f_charAt {i : Int32} {j : Nat} (hf : xfetch M pc = some (.invokevirtual idx, n)) (hp : xlk pT (xm_own M) idx = some 4) (h4 : xle4 S = true) (hj : j < 7) : EvQ d M pc L (.int i :: .ref (1000000 + j) :: S) h Q = if i < 0 ∨ (xstr j).length ≤ i.toNatClampNeg then False else EvQ d M (pc + 3) L (.int (Int32.ofNat ((xstr j).getD i.toNatClampNeg 0)) :: S) h Q := by
  rw [evq hf]
  unfold xstep
  dsimp only
  rw [hp]
  have e1 : (Nat.ble 1000000 (1000000 + j) && Nat.blt (1000000 + j) 1000007) = true := by
    rw [Bool.and_eq_true]
    exact ⟨Nat.ble_eq_true_of_le (by omega), Nat.ble_eq_true_of_le (by omega)⟩
  have e2 : 1000000 + j - 1000000 = j := by omega
  show Aft d M pc L Q (bif xle4 S && (Nat.ble 1000000 (1000000 + j) && Nat.blt (1000000 + j) 1000007) then _ else _) = _
  rw [h4, e1, e2]
  exact aft_ite
theorem f_slen {j : Nat} (hf : xfetch M pc = some (.invokevirtual idx, n)) (hp : xlk pT (xm_own M) idx = some 5) (h4 : xle4 S = true) (hj : j < 7) : EvQ d M pc L (.ref (1000000 + j) :: S) h Q = EvQ d M (pc + 3) L (.int (Int32.ofNat (xstr j).length) :: S) h Q := by
  rw [evq hf]
  unfold xstep
  dsimp only
  rw [hp]
  have e1 : (Nat.ble 1000000 (1000000 + j) && Nat.blt (1000000 + j) 1000007) = true := by
    rw [Bool.and_eq_true]
    exact ⟨Nat.ble_eq_true_of_le (by omega), Nat.ble_eq_true_of_le (by omega)⟩
  have e2 : 1000000 + j - 1000000 = j := by omega
  show Aft d M pc L Q (bif xle4 S && (Nat.ble 1000000 (1000000 + j) && Nat.blt (1000000 + j) 1000007) then _ else _) = _
  rw [h4, e1, e2]
  rfl
theorem f_sempty {j : Nat} (hf : xfetch M pc = some (.invokevirtual idx, n)) (hp : xlk pT (xm_own M) idx = some 6) (h4 : xle4 S = true) (hj : j < 7) : EvQ d M pc L (.ref (1000000 + j) :: S) h Q = EvQ d M (pc + 3) L (.int 0 :: S) h Q := by
  rw [evq hf]
  unfold xstep
  dsimp only
  rw [hp]
  have e1 : (Nat.ble 1000000 (1000000 + j) && Nat.blt (1000000 + j) 1000007) = true := by
    rw [Bool.and_eq_true]
    exact ⟨Nat.ble_eq_true_of_le (by omega), Nat.ble_eq_true_of_le (by omega)⟩
  show Aft d M pc L Q (bif xle4 S && (Nat.ble 1000000 (1000000 + j) && Nat.blt (1000000 + j) 1000007) then _ else _) = _
  rw [h4, e1]
  rfl
theorem f_throw {E ic : Nat} (hf : xfetch M pc = some (.new idx, n)) (h1 : xlk cT (xm_own M) idx = none) (h2 : xlk tT (xm_own M) idx = some (E, ic)) (h3 : (xle4 S && (Nat.blt (xm_own M) 11 && ((xm_hh M).isEmpty && xthrow M pc E ic))) = true) : EvQ d M pc L S h Q = Q (.inr E) (hexc h) := by
  rw [evq hf]
  unfold xstep
  dsimp only
  rw [h1]
  dsimp only
  rw [h2]
  dsimp only
  rw [h3]
  rfl
theorem f_ireturn {x : Int32} (hf : xfetch M pc = some (.ireturn, n)) (hr : xm_ret M = some .int) : EvQ d M pc L [.int x] h Q = Q (.inl (some (.int x))) h := by
  rw [evq hf]; unfold xstep; dsimp only; rw [hr]; rfl
theorem f_zreturn {x : Int32} (hf : xfetch M pc = some (.ireturn, n)) (hr : xm_ret M = some .boolean) : EvQ d M pc L [.int x] h Q = if x = 0 ∨ x = 1 then Q (.inl (some (.int x))) h else False := by
  rw [evq hf]; unfold xstep; dsimp only; rw [hr]; exact aft_ite
theorem f_lreturn {x : Int64} (hf : xfetch M pc = some (.lreturn, n)) (hr : xm_ret M = some .long) : EvQ d M pc L [.long x] h Q = Q (.inl (some (.long x))) h := by
  rw [evq hf]; unfold xstep; dsimp only; rw [hr]; rfl
theorem f_dreturn {x : UInt64} (hf : xfetch M pc = some (.dreturn, n)) (hr : xm_ret M = some .double) : EvQ d M pc L [.double x] h Q = Q (.inl (some (.double x))) h := by
  rw [evq hf]; unfold xstep; dsimp only; rw [hr]; rfl
theorem f_areturn {x : Nat} {C : String} (hf : xfetch M pc = some (.areturn, n)) (hr : xm_ret M = some (.object C)) : EvQ d M pc L [.ref x] h Q = Q (.inl (some (.ref x))) h := by
  rw [evq hf]; unfold xstep; dsimp only; rw [hr]; rfl
theorem f_return (hf : xfetch M pc = some (.return_, n)) (hr : xm_ret M = none) : EvQ d M pc L [] h Q = Q (.inl none) h := by
  rw [evq hf]; unfold xstep; dsimp only; rw [hr]; rfl
theorem f_siaload {i : Int32} (hf : xfetch M pc = some (.iaload, n)) (ho : Nat.beq (xm_own M) 11 = true) : EvQ d M pc L (.int i :: .ref 2000000 :: S) h Q = if i < 0 ∨ h.2.2.2.2.1 ≤ i.toNatClampNeg then False else EvQ d M (pc + 1) L (.int (h.2.2.2.2.2 i.toNatClampNeg) :: S) h Q := by
  rw [evq hf]
  unfold xstep
  dsimp only
  rw [ho]
  exact aft_ite
theorem f_salen (hf : xfetch M pc = some (.arraylength, n)) (ho : Nat.beq (xm_own M) 11 = true) : EvQ d M pc L (.ref 2000000 :: S) h Q = EvQ d M (pc + 1) L (.int (Int32.ofNat h.2.2.2.2.1) :: S) h Q := by
  rw [evq hf]
  unfold xstep
  dsimp only
  unfold xlen
  rw [ho]
  rfl
theorem f_lookup {dft o : Int} {ps : Array (Int × Int)} {x : Int32} {q : Nat} (hf : xfetch M pc = some (.lookupswitch dft ps, n)) (hs : ((ps.toList.zip (ps.toList.drop 1)).all (fun q => decide (q.1.1 < q.2.1))) = true) (ho : Op.lookupswitch.offset ps.toList dft x.toInt = o) (hq : (pc : Int) + o = (q : Int)) : EvQ d M pc L (.int x :: S) h Q = EvQ d M q L S h Q := by
  refine evx hf ?_
  show (bif (ps.toList.zip (ps.toList.drop 1)).all (fun q => decide (q.1.1 < q.2.1)) then xj pc (Op.lookupswitch.offset ps.toList dft x.toInt) L S h else none) = _
  rw [hs, ho]
  show xj pc o L S h = _
  unfold xj
  rw [hq, if_pos (by omega)]
  rfl
end Fam
