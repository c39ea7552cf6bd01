/-! What the pools link: by own class * 1000 + pool index. Each entry with its words, by place. -/
/-- words that stay true as tables warm -/
def stab : Cond → Bool
  | .fieldLinkNest _ _ _ _ _ _ => true
  | .castable _ _ => true
  | .declares _ => true
  | w => goodWord w
theorem stab_pay {w : Cond} {args : Array Value} {s : State} (hw : stab w = true) (h : w.before args s = true) (a' : Array Value) (U : State) (hW : s.WarmedH U.vm) : w.before a' U = true := by
  have key : ∀ w' : Cond, goodWord w' = true → w'.before args s = true → w'.before a' U = true := fun w' g h => word_at hW (good_of_word g) h
  cases w with
  | fieldLinkNest a i b n d x => exact va_Nw.use rfl (va_Nw.warmF hW (va_Nw.of rfl h))
  | castable a b =>
    have h1 : (Cond.castable a b).before args (s.setVm U.vm) = true := by rw [Cond.castable_setVm hW.alike]; exact h
    exact va_tabs (A := args) (u := s.setVm U.vm) (U := U) rfl rfl h1
  | declares x =>
    have h1 : (Cond.declares x).before args (s.setVm U.vm) = true := Cond.faceAtom_setVm hW.alike _ rfl h
    exact va_tabs (A := args) (u := s.setVm U.vm) (U := U) rfl rfl h1
  | _ => exact key _ hw h
/-- a word that holds in every method: of the tables, and one that stays -/
def XMem (w : Cond) : Prop := w ∈ lw_tbl ∧ stab w = true
def XT : List Cond := lw_tbl.filter stab
theorem XMem.inT {w : Cond} (h : XMem w) : w ∈ XT := List.mem_filter.mpr h
theorem xm_r {w : Cond} (i : Nat) (h : tables_1[i]? = some w) (g : stab w = true) : XMem w := ⟨List.mem_append_right _ (List.mem_of_getElem? h), g⟩
theorem xm_l {w : Cond} (i : Nat) (h : (k2_sels lw_privs)[i]? = some w) (g : stab w = true) : XMem w := ⟨List.mem_append_left _ (List.mem_of_getElem? h), g⟩
