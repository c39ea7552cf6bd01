def R_law : String := "BuildingCensusLaw"
def lw_P (b : Addr) (xs : List Int32) (args : Array Value) (s : State) : Prop := args = #[.ref b] ∧ s.IntsAt b xs ∧ xs.length ≤ 3072 ∧ (Jvm.Cond.and given_1 narrow_1).before args s = true
/-- what a walk over the start with the record d0 says of its end, said of the start itself -/
theorem lw_closed {s t : State} {o : Outcome} {d0 : Drawn} {L : List Loc} {k n : Nat} (hd0 : s.drawn.sameBut d0 lw_cs) (hv : ∃ v, o = .returned v) (hW : (s.setDrawn d0).WarmedH t.vm) (hs : (s.setDrawn d0).sameButNew ({ t with vm := s.vm } : State) L k n) : State.butDraws s t lw_cs (fun t1 => Framed s o t1 L k n) := by
  have h2 : t.drawn = d0 := congrArg State.drawn hs.1
  refine ⟨⟨hv, hW, State.sameButNew.setDrawn hs s.drawn⟩, ?_, by decide⟩
  rw [h2]
  exact hd0
def lw_Q (_ : Array Value) (s : State) (o : Outcome) (t : State) : Prop := o = .returned (some (.int 1)) ∧ State.butDraws s t lw_cs (fun t1 => Framed s o t1 [] 603072 7194730)
def lw_Z (below : List Frame) (a : Array Value) (s : State) : State → Prop := fun t => ∃ o, t.status = .running ∧ Ended t below o ∧ lw_Q a s o t
/-- the law's own end, with 1 on the stack, nothing written that was there before, its room as the claim has it; d0: the record of draws at this point (at the entry s.drawn: begin with 'refine W.base ?_' and 'have hd0 := Drawn.sameBut.refl s.drawn lw_cs') -/
theorem lw_ret {p : Program} {l : Launch} {e : Env} {s : State} {m : MethodId} {below : List Frame} {meth : Method} {c : Code} {b : Nat} {d0 : Drawn} (hd0 : s.drawn.sameBut d0 lw_cs) (hx : p.tables.exec = Jvm.exec) (hb : c.code = code) (hr : meth.sig.returnType = ret) (hlocks : meth.locks = false) {pc : Nat} {H : Heap} {ls : Array Slot} (hdg : decode code pc = .ok (.ireturn, 1)) : W p l e room_1 (s.setDrawn d0) m #[Value.ref b] below meth c H [] 603072 7194730 (lw_Z below #[Value.ref b] s) (F0 m pc ls [.int 1]) := by
  intro T hT X
  obtain ⟨fs, hret, hrun, hended, hW, hframe⟩ := X.leave (v := some (.int 1)) (hlocks := hlocks) (fun h => by rw [hr] at h; cases h)
  have hmeth' : T.vm.method? m = some meth := X.method'
  refine ⟨T.setFrames fs, ?_, .returned (some (.int 1)), hrun, hended, rfl, lw_closed hd0 ⟨_, rfl⟩ hW hframe⟩
  jvm_step X.here [X.here.top, hx, hb, hdg, hmeth', hr, ret, narrow_b1]
  (try refine ⟨rfl, ?_⟩); (try refine ⟨rfl, ?_⟩)
  first | (intro acts; rw [hret _ acts rfl rfl rfl]) | rw [hret _ _ rfl rfl rfl]
  exact Steps.refl _
/-- what holds at the law's entry: the machine, the code, the tables' words (any of lw_tbl by 'hts w (by decide +kernel)'), the script of L ints xs at the cell b, what the Statement gives of the start (any of its parts by flat_of_before) -/
def lw_At (p : Program) (s : State) (m : MethodId) (meth : Method) (c : Code) (b L : Nat) (xs : Nat → Int32) : Prop :=
  p.tables.exec = Jvm.exec ∧ c.code = code ∧ meth.sig.returnType = ret ∧ c.maxLocals = 9 ∧ s.vm.findClass R_law = some m.cls ∧ (∀ w ∈ lw_tbl, w.before #[Value.ref b] s = true) ∧ va_X b L xs s s.heap ∧ b < s.heap.size ∧ meth.locks = false ∧ (Jvm.Cond.and given_1 narrow_1).before #[Value.ref b] s = true
/-! what the tables and the statement give at the start -/
theorem stIn0 : ∀ w ∈ wsJ00, w ∈ lw_tbl := by decide +kernel
theorem stIn1 : ∀ w ∈ wsJx000600, w ∈ lw_tbl := by decide +kernel
theorem st_none {α : Type} {l : List α} {n k : Nat} (h : l.length = n) : l[k + n]? = none := List.getElem?_eq_none (by omega)
theorem wt {args : Array Value} {s : State} (hts : ∀ w ∈ lw_tbl, w.before args s = true) {w : Cond} (i : Nat) (h : tables_1[i]? = some w) : w.before args s = true := hts w (List.mem_append_right _ (List.mem_of_getElem? h))
theorem st_Kn {args : Array Value} {s : State} (hts : ∀ w ∈ lw_tbl, w.before args s = true) (c : Nat) : ∃ q : ClassId × (Nat → Nat), ∀ r : vw_C, vwCl[c]? = some r → u_Kn s r.1 r.2.1 r.2.2 q.1 q.2 := by
  have key : ∀ {C : String} {T : u_T} {N n : Nat}, (∀ w ∈ u_ws C T N, w ∈ lw_tbl) → (Cond.instantiable C n).before args s = true → ∃ q : ClassId × (Nat → Nat), u_Kn s C T N q.1 q.2 := fun h1 h2 => by
    obtain ⟨cC, iS, h⟩ := u_known hts h1 h2
    exact ⟨(cC, iS), h⟩
  match c with
  | 0 =>
    obtain ⟨q, hq⟩ := key (C := RJ0) (T := TJ0) (N := 2) (n := 4) stIn0 (wt hts 378 (by decide +kernel))
    exact ⟨q, fun r hr => by obtain rfl := Option.some.inj (show some (RJ0, TJ0, 2) = some r from hr); exact hq⟩
  | 1 =>
    obtain ⟨q, hq⟩ := key (C := RJx00060) (T := TJx00060) (N := 6) (n := 6) stIn1 (wt hts 360 (by decide +kernel))
    exact ⟨q, fun r hr => by obtain rfl := Option.some.inj (show some (RJx00060, TJx00060, 6) = some r from hr); exact hq⟩
  | 2 =>
    obtain ⟨q, hq⟩ := key (C := RX1) (T := TX1) (N := 1) (n := 1) inX1 (wt hts 96 (by decide +kernel))
    exact ⟨q, fun r hr => by obtain rfl := Option.some.inj (show some (RX1, TX1, 1) = some r from hr); exact hq⟩
  | 3 =>
    obtain ⟨q, hq⟩ := key (C := RX2) (T := TX2) (N := 3) (n := 3) inX2 (wt hts 106 (by decide +kernel))
    exact ⟨q, fun r hr => by obtain rfl := Option.some.inj (show some (RX2, TX2, 3) = some r from hr); exact hq⟩
  | 4 =>
    obtain ⟨q, hq⟩ := key (C := RX3) (T := TX3) (N := 3) (n := 3) inX3 (wt hts 125 (by decide +kernel))
    exact ⟨q, fun r hr => by obtain rfl := Option.some.inj (show some (RX3, TX3, 3) = some r from hr); exact hq⟩
  | 5 =>
    obtain ⟨q, hq⟩ := key (C := RX4) (T := TX4) (N := 5) (n := 5) inX4 (wt hts 35 (by decide +kernel))
    exact ⟨q, fun r hr => by obtain rfl := Option.some.inj (show some (RX4, TX4, 5) = some r from hr); exact hq⟩
  | 6 =>
    obtain ⟨q, hq⟩ := key (C := RX5) (T := TX5) (N := 3) (n := 3) inX5 (wt hts 41 (by decide +kernel))
    exact ⟨q, fun r hr => by obtain rfl := Option.some.inj (show some (RX5, TX5, 3) = some r from hr); exact hq⟩
  | 7 =>
    obtain ⟨q, hq⟩ := key (C := RX6) (T := TX6) (N := 1) (n := 1) inX6 (wt hts 86 (by decide +kernel))
    exact ⟨q, fun r hr => by obtain rfl := Option.some.inj (show some (RX6, TX6, 1) = some r from hr); exact hq⟩
  | 8 =>
    obtain ⟨q, hq⟩ := key (C := RX7) (T := TX7) (N := 12) (n := 12) inX7 (wt hts 27 (by decide +kernel))
    exact ⟨q, fun r hr => by obtain rfl := Option.some.inj (show some (RX7, TX7, 12) = some r from hr); exact hq⟩
  | 9 =>
    obtain ⟨q, hq⟩ := key (C := RX8) (T := TX8) (N := 22) (n := 22) inX8 (wt hts 1032 (by decide +kernel))
    exact ⟨q, fun r hr => by obtain rfl := Option.some.inj (show some (RX8, TX8, 22) = some r from hr); exact hq⟩
  | k + 10 =>
    refine ⟨(0, fun _ => 0), fun r hr => ?_⟩
    rw [st_none (n := 10) rfl] at hr
    cases hr
theorem st_arr {args : Array Value} {s : State} {ty : FieldType} (h : (Cond.arrayClass ty).before args s = true) : ∃ cA : ClassId, ArrOfT s cA ty ∧ s.vm.findClass ("[" ++ ty.toString) = some cA := by
  obtain ⟨c, k, comp, h1, h2, h3⟩ := Cond.arrayClass_spec (args := args) (first := s) (o := none) (s := s) (idx := []) h
  exact ⟨c, fun n z => ⟨(fun k h => by cases h), k, h2, comp, h3⟩, h1⟩
theorem st_K {args : Array Value} {s : State} (hts : ∀ w ∈ lw_tbl, w.before args s = true) : ∃ (D : va_G) (aC : Nat → ClassId), va_K D vwCl (xtys aC) s := by
  obtain ⟨D, hD⟩ := Classical.axiomOfChoice (st_Kn hts)
  obtain ⟨c0, a0, f0⟩ := st_arr (hts _ wArr_int.1)
  obtain ⟨c1, a1, f1⟩ := st_arr (hts _ wArr_boolean.1)
  obtain ⟨c2, a2, f2⟩ := st_arr (hts _ wArr_char.1)
  obtain ⟨c3, a3, f3⟩ := st_arr (hts _ wArr_long.1)
  obtain ⟨c4, a4, f4⟩ := st_arr (hts _ wArr_double.1)
  obtain ⟨comp, c5, k5, g1, g2, g3, g4, g5⟩ := Cond.arrayOver_spec (args := args) (first := s) (o := none) (s := s) (idx := []) (hts _ wOver)
  refine ⟨(fun c => (D c).1, fun c => (D c).2), fun i => match i with | 0 => c0 | 1 => c1 | 2 => c2 | 3 => c3 | 4 => c4 | _ => c5, fun c q hq => hD c q hq, fun k q hk => ?_⟩
  match k with
  | 0 => obtain rfl := Option.some.inj (show some (c0, FieldType.int) = some q from hk); exact ⟨a0, f0⟩
  | 1 => obtain rfl := Option.some.inj (show some (c1, FieldType.boolean) = some q from hk); exact ⟨a1, f1⟩
  | 2 => obtain rfl := Option.some.inj (show some (c2, FieldType.char) = some q from hk); exact ⟨a2, f2⟩
  | 3 => obtain rfl := Option.some.inj (show some (c3, FieldType.long) = some q from hk); exact ⟨a3, f3⟩
  | 4 => obtain rfl := Option.some.inj (show some (c4, FieldType.double) = some q from hk); exact ⟨a4, f4⟩
  | 5 => obtain rfl := Option.some.inj (show some (c5, FieldType.object RX4) = some q from hk); exact ⟨fun n z => ⟨(fun k h => by cases h), k5, g3, comp, g4⟩, ⟨k5, comp, g3, g4, g1, g5⟩⟩
  | k + 6 =>
    rw [st_none (n := 6) rfl] at hk
    cases hk
abbrev stF : List Cond := flatC (Cond.and given_1 narrow_1)
abbrev stV (i : Nat) : Term := .field (.string RX0 (9 + 2 * i)) "java/lang/String" "value" "[B"
theorem stM1 : ∀ i : Nat, i < 7 → Cond.exactly (.string RX0 (9 + 2 * i)) "java/lang/String" ∈ stF := by decide +kernel
theorem stM2 : ∀ i : Nat, i < 7 → Cond.eq (.field (.string RX0 (9 + 2 * i)) "java/lang/String" "coder" "B") (.int 0) ∈ stF := by decide +kernel
theorem stM3 : ∀ i : Nat, i < 7 → Cond.arrayOf (stV i) .byte ∈ stF := by decide +kernel
theorem stM4 : ∀ i : Nat, i < 7 → Cond.eq (.length (stV i)) (.int (Int32.ofNat (lenF.getD i 0))) ∈ stF := by decide +kernel
theorem stM5 : ∀ i : Nat, i < 7 → ∀ j : Nat, j < lenF.getD i 0 → Cond.eq (.elem (stV i) (.int (Int32.ofNat j))) (.int ((bytF.getD i []).getD j 0)) ∈ stF := by decide +kernel
theorem stM6 : ∀ E : Nat, E < 6 → ∀ F : Nat, F < 6 → E ≠ F → Cond.not (.castable (EN E) (EN F)) ∈ stF := by decide +kernel
theorem stB0 : ∀ i : Nat, i < 7 → ∀ j : Nat, j < 7 → (bytF.getD i []).getD 0 0 = (bytF.getD j []).getD 0 0 → i = j := by decide +kernel
theorem stL0 : ∀ i : Nat, i < 7 → 0 < lenF.getD i 0 := by decide +kernel
def stS (s : State) (i a v : Nat) : Prop := va_O "java/lang/String" a (fun q => s.heap.size ≤ q) s s.heap ∧ va_OF "java/lang/String" "coder" "B" (.int 0) a (fun q => s.heap.size ≤ q) s s.heap ∧ va_OF "java/lang/String" "value" "[B" (.ref v) a (fun q => s.heap.size ≤ q) s s.heap ∧ va_T .byte v (lenF.getD i 0) (fun j => .int ((bytF.getD i []).getD j 0)) (fun q => s.heap.size ≤ q) s s.heap
theorem st_S1 {args : Array Value} {s : State} (hs : ∀ w ∈ stF, w.before args s = true) {i : Nat} (hi : i < 7) : ∃ a v : Nat, stS s i a v ∧ (Term.string RX0 (9 + 2 * i)).eval args s none [] s = some (.ref a) := by
  obtain ⟨adK, adV, h1, h2⟩ := vk_Sof (args := args) (s := s) (N := 1) (tm := fun _ => Term.string RX0 (9 + 2 * i)) (len := [lenF.getD i 0]) (byt := [bytF.getD i []]) (A := fun q => s.heap.size ≤ q)
    (fun k hk => by obtain rfl : k = 0 := by omega
                    exact Nat.lt_of_le_of_lt (lenF_le i hi) (by decide)) (fun _ _ => hs _ (stM1 i hi)) (fun _ _ => hs _ (stM2 i hi)) (fun _ _ => hs _ (stM3 i hi))
    (fun k hk => by obtain rfl : k = 0 := by omega
                    exact hs _ (stM4 i hi))
    (fun k hk j hj => by obtain rfl : k = 0 := by omega
                         exact hs _ (stM5 i hi j hj)) (fun a b ha hb hn => absurd (show a = b by omega) hn) (fun a h => Nat.not_le.mpr h)
  exact ⟨adK 0, adV 0, h1.1 0 (by decide), h2 0 (by decide)⟩
theorem st_ofdet {o n d : String} {v v' : Value} {t : Nat} {A : Nat → Prop} {U : State} {H : Heap} (h : va_OF o n d v t A U H) (h' : va_OF o n d v' t A U H) : v = v' := by
  obtain ⟨cf, k, i, f, cell, a1, a2, a3, a4, a5, a6⟩ := h
  obtain ⟨cf', k', i', f', cell', b1, b2, b3, b4, b5, b6⟩ := h'
  cases a1.symm.trans b1
  cases a3.symm.trans b3
  exact Option.some.inj (a5.symm.trans b5)
theorem st_tdet {ty : FieldType} {t N N' : Nat} {f f' : Nat → Value} {A : Nat → Prop} {U : State} {H : Heap} (h : va_T ty t N f A U H) (h' : va_T ty t N' f' A U H) (n : 0 < N) (n' : 0 < N') : f 0 = f' 0 := by
  obtain ⟨cell, a1, a2, a3, a4, a5, a6, a7⟩ := h
  obtain ⟨cell', b1, b2, b3, b4, b5, b6, b7⟩ := h'
  cases a1.symm.trans b1
  exact Option.some.inj ((a6 0 n).symm.trans (b6 0 n'))
theorem xldc_sp {n j : Nat} (h : xldc n = some j) : n = 12009 + 2 * j ∧ j < 7 := by
  unfold xldc at h
  split at h <;> first | (cases h; exact ⟨rfl, by decide⟩) | cases h
theorem st_B {args : Array Value} {s : State} {b : Nat} (hts : ∀ w ∈ lw_tbl, w.before args s = true) (hs : ∀ w ∈ stF, w.before args s = true) : ∃ sp : Nat → Nat, sp 2000000 = b ∧ XB (fun q => s.heap.size ≤ q) sp s s.heap := by
  have h0 : ∀ i : Nat, ∃ q : Nat × Nat, (i < 7 → stS s i q.1 q.2 ∧ (Term.string RX0 (9 + 2 * i)).eval args s none [] s = some (.ref q.1)) ∧ (i = 1000000 → q.1 = b) := by
    intro i
    by_cases hi : i < 7
    · obtain ⟨a, v, h⟩ := st_S1 hs hi
      exact ⟨(a, v), fun _ => h, fun e => by omega⟩
    · exact ⟨(b, 0), fun e => absurd e hi, fun _ => rfl⟩
  obtain ⟨ad, had⟩ := Classical.axiomOfChoice h0
  have hA : ∀ a : Nat, a < s.heap.size → ¬ (fun q => s.heap.size ≤ q) a := fun a h => Nat.not_le.mpr h
  have hsp : (fun j : Nat => (ad (1000000 + j - 1000000)).1) = fun j => (ad j).1 := by
    funext j
    rw [Nat.add_sub_cancel_left]
  refine ⟨fun a => (ad (a - 1000000)).1, (had 1000000).2 rfl, vx_Zqof (wt hts 266 (by decide +kernel)) (wt hts 9 (by decide +kernel)) (hs _ (by decide +kernel)) hA, vx_Zqof (wt hts 268 (by decide +kernel)) (wt hts 9 (by decide +kernel)) (hs _ (by decide +kernel)) hA, fun q hq => ?_, fun E F a b n => va_Nc.of (hs _ (stM6 E a F b n)), va_AO.of (hts _ wOver), fun j => (ad j).2, ?_⟩
  · have hm := hts _ (List.mem_append_right _ (sT_mem q hq))
    cases hc : s.vm.findClass (RN (q.1 / 1000)) with
    | none => simp [Cond.before, Cond.holds, Cond.value, hc] at hm
    | some cur =>
      obtain ⟨k, cf, i, a, -, -, -, -, -, ev⟩ := Cond.stringRef_spec (args := args) (first := s) (o := none) (s := s) (idx := []) hc hm
      refine ⟨a, vk_R.of hm ev, fun j hj => ?_⟩
      obtain ⟨e, hj7⟩ := xldc_sp hj
      have d1 : q.1 / 1000 = 12 := by omega
      have d2 : q.1 % 1000 = 9 + 2 * j := by omega
      rw [d1, d2] at ev
      have ev2 := ((had j).1 hj7).2
      have e3 : some (Value.ref a) = some (Value.ref (ad j).1) := ev.symm.trans ev2
      show a = (ad (1000000 + j - 1000000)).1
      rw [Nat.add_sub_cancel_left]
      exact Value.ref.inj (Option.some.inj e3)
  · show SZ (fun j : Nat => (ad (1000000 + j - 1000000)).1) (fun j => (ad j).2) (fun q => s.heap.size ≤ q) s s.heap
    rw [hsp]
    refine ⟨⟨fun i hi => ((had i).1 hi).1, fun i j hi hj e => ?_⟩, va_Zof (wt hts 579 (by decide +kernel)) (wt hts 18 (by decide +kernel)) (va_eqi (hs _ (by decide +kernel))) hA, va_Zqof (wt hts 595 (by decide +kernel)) (wt hts 22 (by decide +kernel)) (hs _ (by decide +kernel)) hA⟩
    have e : (ad i).1 = (ad j).1 := e
    obtain ⟨⟨-, -, q3, q4⟩, -⟩ := (had i).1 hi
    obtain ⟨⟨-, -, r3, r4⟩, -⟩ := (had j).1 hj
    rw [← e] at r3
    have ev : (ad i).2 = (ad j).2 := Value.ref.inj (st_ofdet q3 r3)
    rw [← ev] at r4
    exact stB0 i hi j hj (Value.int.inj (st_tdet q4 r4 (stL0 i hi) (stL0 j hj)))
theorem st_flags {l : Launch} (hflags : l.flags = flags0) : l.stackTraces = false := by
  unfold Launch.stackTraces
  rw [hflags]
  decide +kernel
set_option maxHeartbeats 1000000 in
theorem whole_start {p : Program} {e : Env} {s : State} {m : MethodId} {below : List Frame} {meth : Method} {c : Code} (l : Launch) (hflags : l.flags = flags0) (hname : meth.name = "law") (htbl : ∀ q ∈ c.exceptionTable.toList, False) {b L : Nat} {xs : Nat → Int32} (hL : L ≤ 3072) (C0 : lw_At p s m meth c b L xs) : W p l e room_1 s m #[Value.ref b] below meth c s.heap [] 0 0 (lw_Z below #[Value.ref b] s) (entryFrame m ([Value.ref b] : List Value).toArray 9) := by
  obtain ⟨hx, hb, hr, hml, hown, hts, hX, hbl, hlocks, hgv⟩ := C0
  have hs : ∀ w ∈ stF, w.before #[Value.ref b] s = true := flat_of_before _ hgv
  have htx : ∀ w ∈ XT, w.before #[Value.ref b] s = true := fun w hw => hts w (List.mem_filter.mp hw).1
  obtain ⟨D, aC, hK⟩ := st_K hts
  obtain ⟨sp, hsp, hB⟩ := st_B (b := b) hts hs
  obtain ⟨f, h2, hex, h2a, h2b⟩ := law_ex hL xs
  have hl := lv_entry [Value.ref b] (n := 9) (Nat.le_of_ble_eq_true rfl)
  rw [lg_entry_eq]
  generalize (lg_sl [Value.ref b] ++ List.replicate (9 - (lg_sl [Value.ref b]).length) Slot.unset).toArray = ls at hl ⊢
  have hlv : lv_has ls 9 [(0, .ref b)] := hl
  refine body_run (st_flags hflags) f 13 m_L_law 0 _ [] _ _ h2 hex p e room_1 s m _ below meth c _ (fun q => s.heap.size ≤ q) D aC sp (L, xs) 0 0 [] ls [] s.heap [] 0 0 ?_ hB (List.eq_nil_iff_forall_not_mem.mpr htbl) (Nat.le_of_ble_eq_true rfl) (Nat.le_of_ble_eq_true rfl) (by show _ ≤ 0 + 603072; omega) (by show _ ≤ 0 + 7194730; omega) ?_ ⟨?_, ?_, ?_⟩
  · exact ⟨hx, hb, hml, hown, htx, hK, fun q hq => hq, hname, kd_L_law, Nat.le_of_ble_eq_true rfl, Nat.le_of_ble_eq_true rfl, fun _ => ⟨b, hsp, hX, hbl, Nat.not_le.mpr hbl⟩, hB.2.2.1, hB.2.2.2.2⟩
  · refine ⟨⟨hlv.1, rfl, hlv.2.1, fun i v hv => ?_⟩, rfl, ⟨⟨rfl, Nat.zero_le _⟩, fun k => Or.inl ⟨rfl, rfl⟩⟩, fun k q hq => by simp at hq, ⟨fun i j x y hx => by simp at hx, fun k q hq => by simp at hq⟩, va_S.rf, rfl, rfl, fun _ => rfl⟩
    match i, hv with
    | 0, hv => cases hv; exact Or.inr ⟨.ref b, Or.inr ⟨Nat.le_of_ble_eq_true rfl, by rw [hsp]⟩, lv_at hlv 0 rfl⟩
    | 1, hv => cases hv; exact Or.inl ⟨_, rfl⟩
    | 2, hv => cases hv; exact Or.inl ⟨_, rfl⟩
    | 3, hv => cases hv; exact Or.inl ⟨_, rfl⟩
    | 4, hv => cases hv; exact Or.inl ⟨_, rfl⟩
    | 5, hv => cases hv; exact Or.inl ⟨_, rfl⟩
    | 6, hv => cases hv; exact Or.inl ⟨_, rfl⟩
    | 7, hv => cases hv; exact Or.inl ⟨_, rfl⟩
    | 8, hv => cases hv; exact Or.inl ⟨_, rfl⟩
    | k + 9, hv =>
      rw [st_none (n := 9) rfl] at hv
      cases hv
  · intro pc i n L S h' v ls st H locs cells slots ws' ho hE hf hx9 X
    obtain ⟨hm, hn⟩ := xfetch_spec hf
    have hd : decode code pc = .ok (i, n) := dec_of (M := m_L_law) kd_L_law hf
    obtain ⟨rfl, hk⟩ := ret_spec hx9
    have e1 := X.2.2.2.2.2.2.1
    have e2 := X.2.2.2.2.2.2.2.1
    cases ho
    rcases hk with ⟨x9, ty, rfl, rfl, hv, hr9, hna⟩ | ⟨x9, rfl, rfl, hv, hr9⟩ | ⟨x9, rfl, rfl, hv, hr9⟩ | ⟨u, nm, rfl, rfl, hv, hr9, hu⟩ | ⟨rfl, rfl, hv, hr9⟩
    · cases hv
      obtain rfl : n = 1 := n_of hn rfl (by decide)
      obtain ⟨_, _, rfl, q1, rfl⟩ := X.2.1
      cases q1
      refine va_forget (fun q hq => X.2.2.2.2.2.1.2.2 q hq) (W.widen (k := 603072) (n := 7194730) (by omega) (by omega) ?_)
      exact W.base (lw_ret (Drawn.sameBut.refl s.drawn lw_cs) hx hb hr hlocks hd)
    · cases hv
    · cases hv
    · cases hv
      rcases hu with h | ⟨a, h⟩ <;> cases h
    · cases hv
  · intro pc i n L S h' E ls st H locs cells slots ws' ho
    cases ho
  · intro pc L rest E ls st1 H1 locs1 cells1 slots1 ws' ce q9 ho
    cases ho
set_option maxHeartbeats 4000000 in
theorem lw_walk (l : Launch) (hflags : l.flags = flags0) (b : Addr) (xs : List Int32) : MetFree l x (headSpec (Jvm.Cond.code x code maxLocals ret :: tables_1) room_1) (lw_P b xs) (fun _ _ _ _ _ => True) lw_Q := by
  refine MetFree.of_bodyS (code := code) (maxLocals := maxLocals) (ret := ret) (by decide) ?_ ?_
  · intro args s m h hn
    obtain ⟨meth, c, h1, h2, h3, h4, h5, h6, -, -⟩ := Cond.code_spec hn (atoms_spec (ws := Jvm.Cond.code x code maxLocals ret :: tables_1) h _ List.mem_cons_self)
    exact ⟨meth, c, h1, h2, h3, h4, h5, h6⟩
  · intro p e s m args below meth c s₁ B hml0 hP _
    obtain ⟨rfl, hx, hbd, hgv⟩ := hP
    obtain ⟨scr, harrAt, hlist, hof, hsmall⟩ := hx
    obtain ⟨hcb, hkn, -, -⟩ := State.arrayAt?_spec harrAt
    have hown : s.vm.findClass R_law = some m.cls := findClass_of_methodNamed B.named
    have hts0 : ∀ c ∈ (Jvm.Cond.code x code maxLocals ret :: tables_1), c.before #[Value.ref b] s = true := atoms_spec (ws := Jvm.Cond.code x code maxLocals ret :: tables_1) B.pre
    have hts : ∀ w ∈ lw_tbl, w.before #[Value.ref b] s = true := k2_hts_sels lw_privs (fun w hw => hts0 w (List.mem_cons_of_mem _ hw)) lw_privs_ok
    have hml : c.maxLocals = 9 := B.maxLocals_eq (hts0 _ List.mem_cons_self)
    have X₀ : Stand p l e room_1 s m #[Value.ref b] below meth c s₁ [] 0 0 := Stand.of_body B
    have hh0 : s₁.heap = s.heap := by rw [B.state]; rfl
    have hsz : scr.slots.size = xs.length := by rw [← Array.length_toList, hlist, List.length_map]
    have hval : ∀ j : Nat, j < xs.length → scr.slots[j]? = some (.int (xs.getD j 0)) := fun j hj => by
      rw [← Array.getElem?_toList, hlist]
      simp [hj]
    have hbl : b < s.heap.size := (Array.getElem?_eq_some_iff.mp hcb).1
    have hX : va_X b xs.length (fun j => xs.getD j 0) s s.heap := ⟨scr, hcb, hof, hkn, hsz, hval⟩
    have ht : ∀ q ∈ c.exceptionTable.toList, False := by
      obtain ⟨meth9, c9, h1, h2, -, -, -, -, h7, -⟩ := Cond.code_spec B.named (hts0 _ List.mem_cons_self)
      cases Option.some.inj (h1.symm.trans B.method)
      cases Option.some.inj (h2.symm.trans X₀.code)
      intro q hq
      rw [Array.isEmpty_iff.mp h7] at hq
      cases hq
    have K : W p l e room_1 s m #[Value.ref b] below meth c s₁.heap [] 0 0 (lw_Z below #[Value.ref b] s) (entryFrame m ([Value.ref b] : List Value).toArray 9) := by
      rw [hh0]
      exact whole_start l hflags (name_of_methodNamed B.named B.method).1 ht hbd ⟨B.exec, B.bytes, B.returns, hml, hown, hts, hX, hbl, B.notSynchronized, hgv⟩
    obtain ⟨t, a1, o, b1, b2, b3⟩ := K s₁ rfl X₀
    exact ⟨t, o, a1, b1, b2, b3⟩
theorem lw_pre_spec {args : Array Value} {s : State} (h : (Jvm.Cond.and given_1 narrow_1).before args s = true) (hr : rest_1_c.before args s = true) : ∃ (b : Addr) (xs : List Int32), lw_P b xs args s := by
  have hs := flat_of_before _ h
  have hq := flat_of_before _ hr
  have hc : (Cond.count 1).before args s = true := hs _ (by decide +kernel)
  have harr : (Cond.arrayOf (.arg 0) .int).before args s = true := hs _ (by decide +kernel)
  have hle : (Cond.le (.length (.arg 0)) (.int 3072)).before args s = true := hs _ (by decide +kernel)
  have hlen : (Cond.isInt (.length (.arg 0))).before args s = true := hq _ (by decide +kernel)
  have hall : (Cond.all (.arg 0) (.isInt (.elem (.arg 0) (.index 0)))).before args s = true := hq _ (by decide +kernel)
  obtain ⟨b, xs, hb, hx⟩ := State.ints_of_pre rfl harr hlen hall
  have hsm : xs.length < 2 ^ 31 := hx.choose_spec.2.2.2
  have hev : (Term.length (.arg 0)).eval args s none [] s = some (.int xs.length.toInt32) := hx.length_eval hb
  have hv := Cond.le_ints hev (show (Term.int 3072).eval args s none [] s = some (.int 3072) from rfl)
  have hd : xs.length.toInt32 ≤ 3072 := by
    simpa [Cond.before, Cond.holds, hv] using hle
  have hN : xs.length ≤ 3072 := (Int32.ofNat_le_ofNat hsm (by decide)).mp (show Int32.ofNat xs.length ≤ Int32.ofNat 3072 from hd)
  exact ⟨b, xs, Cond.one_arg hc (show args[0]? = some (.ref b) from hb), hx, hN, h⟩
theorem lw_comes (l : Launch) (hflags : l.flags = flags0) : Comes l x (Jvm.Cond.code x code maxLocals ret :: tables_1) room_1 (fun tb e args s => Calls_1 tb e args s ∧ rest_1 tb e args s ∧ Pre_1 tb e args s)
    (fun _ _ args s o t => lw_Q args s o t) := by
  intro p e ha hc hk s m args below hf hfit hheap happ hpre
  obtain ⟨b, xs, hP⟩ := lw_pre_spec hpre.2.2 hpre.2.1
  obtain ⟨k, o, h1, h2, h3, hQ⟩ := lw_walk l hflags b xs p e ha hc hk s m args below hf ((Spec.applies_iff_loose hf).mp happ).1 hP trivial
  exact ⟨k, o, h1, h2, h3, hQ⟩
theorem lw_frame {s t : State} {o : Outcome} {args : Array Value} (h : State.butDraws s t lw_cs (fun t1 => Framed s o t1 [] 603072 7194730)) :
    State.butDraws s t [Jvm.Choice.named "NaN.bits"] (fun t1 => Framed s o t1 (fieldLocs frame_1_writes args s ++ arrayLocs frame_1_arrays args s ++ staticLocs frame_1_statics s) 603072 7194730) := h
theorem lw_limb (L : Cond) (hL : ∀ (args : Array Value) (s t : State), L.after args s (.returned (some (.int 1))) t = true) :
    ArmFor flags0 classFile x code maxLocals ret World_1 tables_1 room_1 Calls_1 rest_1 Pre_1
      (fun tb e a s o t => postC L tb e a s o t ∧ State.butDraws s t [Jvm.Choice.named "NaN.bits"] (fun t1 => Framed s o t1 (fieldLocs frame_1_writes a s ++ arrayLocs frame_1_arrays a s ++ staticLocs frame_1_statics s) 603072 7194730)) := by
  intro l hflags _ _ p e ha hc hk s m args below hf hfit hheap happ hpre
  obtain ⟨k, o, h1, h2, h3, rfl, hF⟩ := lw_comes l hflags p e ha hc hk s m args below hf hfit hheap happ hpre
  exact ⟨k, _, h1, h2, h3, hL args s _, lw_frame hF⟩
theorem i_vc : Claimed_1_1 ∧ Claimed_1_2 := ⟨lw_limb limb_1_1 (fun args s t => by simp [limb_1_1, Cond.after, Cond.holds, Cond.value]), lw_limb limb_1_2 (fun args s t => Cond.after_iff.mpr (by
  first | (rw [show limb_1_2 = Cond.eq .result (.int 1) from rfl, Cond.eq_ints (x := 1) (y := 1) rfl rfl]; simp; done) | (simp [limb_1_2, Cond.value, Term.eval]; done)))⟩
