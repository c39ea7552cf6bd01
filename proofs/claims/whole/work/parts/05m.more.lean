theorem wMaxS : XMem (.static Lib.Math.max.name) := (xm_r 501 (by decide +kernel) (by decide +kernel))
theorem wMaxC : XMem (.code Lib.Math.max.name Lib.Math.max.code 2 (some .int)) := (xm_r 502 (by decide +kernel) (by decide +kernel))
theorem wMinS : XMem (.static Lib.Math.min.name) := (xm_r 337 (by decide +kernel) (by decide +kernel))
theorem wMinC : XMem (.code Lib.Math.min.name Lib.Math.min.code 2 (some .int)) := (xm_r 338 (by decide +kernel) (by decide +kernel))
theorem wMathI : XMem (.initialized "java/lang/Math") := (xm_r 15 (by decide +kernel) (by decide +kernel))
theorem wCpS : XMem (.static arraycopyName) := (xm_r 223 (by decide +kernel) (by decide +kernel))
theorem wCpN : XMem (.native arraycopyName) := (xm_r 224 (by decide +kernel) (by decide +kernel))
theorem wSysI : XMem (.initialized "java/lang/System") := (xm_r 14 (by decide +kernel) (by decide +kernel))
theorem wObjI : XMem (.instanceMethod objectInit) := (xm_r 32 (by decide +kernel) (by decide +kernel))
theorem wObjC : XMem (.code objectInit ⟨#[0xb1]⟩ 1 none) := (xm_r 33 (by decide +kernel) (by decide +kernel))
theorem wArr_int : XMem (.arrayClass .int) := (xm_r 56 (by decide +kernel) (by decide +kernel))
theorem wArr_boolean : XMem (.arrayClass .boolean) := (xm_r 1104 (by decide +kernel) (by decide +kernel))
theorem wArr_char : XMem (.arrayClass .char) := (xm_r 140 (by decide +kernel) (by decide +kernel))
theorem wArr_long : XMem (.arrayClass .long) := (xm_r 1430 (by decide +kernel) (by decide +kernel))
theorem wArr_double : XMem (.arrayClass .double) := (xm_r 1431 (by decide +kernel) (by decide +kernel))
theorem wOver : Cond.arrayOver (.object RX4) ∈ lw_tbl := List.mem_append_right _ (List.mem_of_getElem? (i := 112) (by decide +kernel))
def xnames : List String := ["java/lang/RuntimeException", "java/lang/Exception"]
/-- the words of a throw -/
def tAt (q : Nat × Nat × Nat) : Prop := (∀ w ∈ vx_atS (RN (q.1 / 1000)) q.2.2 (EN q.2.1) xnames, w ∈ lw_tbl ∧ stab w = true) ∧ (∀ w ∈ Cond.classLink (RN (q.1 / 1000)) (q.1 % 1000) (EN q.2.1) :: Cond.initialized (EN q.2.1) :: vx_atS (RN (q.1 / 1000)) q.2.2 (EN q.2.1) xnames, vx_ot w = true)
theorem tAt_0 : tAt (8071, 0, 75) := ⟨by decide +kernel, by decide +kernel⟩
theorem tAt_1 : tAt (8085, 1, 89) := ⟨by decide +kernel, by decide +kernel⟩
theorem tAt_2 : tAt (8124, 2, 128) := ⟨by decide +kernel, by decide +kernel⟩
theorem tAt_4 : tAt (8250, 5, 254) := ⟨by decide +kernel, by decide +kernel⟩
theorem tAt_5 : tAt (8299, 4, 303) := ⟨by decide +kernel, by decide +kernel⟩
theorem tT_at : ∀ q ∈ tT, q.2.1 ≠ 3 → tAt q := List.forall_mem_cons.mpr ⟨fun _ => tAt_0, List.forall_mem_cons.mpr ⟨fun _ => tAt_1, List.forall_mem_cons.mpr ⟨fun _ => tAt_2, List.forall_mem_cons.mpr ⟨fun z => absurd rfl z, List.forall_mem_cons.mpr ⟨fun _ => tAt_4, List.forall_mem_cons.mpr ⟨fun _ => tAt_5, (fun _ h => nomatch h)⟩⟩⟩⟩⟩⟩
