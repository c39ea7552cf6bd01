/-! One step of the pure reading is a step of the machine. -/
abbrev xtys (aC : Nat → ClassId) : List (ClassId × FieldType) := [(aC 0, .int), (aC 1, .boolean), (aC 2, .char), (aC 3, .long), (aC 4, .double), (aC 5, .object RX4)]
/-- what holds all through an invocation -/
def XC (p : Program) (R : Room) (s : State) (m : MethodId) (args : Array Value) (meth : Method) (c : Code) (M : XM) (A : Nat → Prop) (D : va_G) (aC : Nat → ClassId) (sp : Nat → Nat) (sc : Nat × (Nat → Int32)) : Prop :=
  p.tables.exec = Jvm.exec ∧ c.code = xm_cc M ∧ c.maxLocals = xm_maxL M ∧ s.vm.findClass (RN (xm_own M)) = some m.cls ∧ (∀ w ∈ XT, w.before args s = true) ∧ va_K D vwCl (xtys aC) s ∧ (∀ q, s.heap.size ≤ q → A q) ∧
  meth.name = (xm_y M).name ∧ (∀ q ∈ xm_k M, decode (xm_cc M) q.1 = .ok q.2) ∧ 6 ≤ R.frames ∧ 200 ≤ R.locals ∧ (xm_own M = 11 → ∃ b : Nat, sp 2000000 = b ∧ va_X b sc.1 sc.2 s s.heap ∧ b < s.heap.size ∧ ¬ A b) ∧
  (∀ q ∈ sT, ∃ sa : Nat, vk_R (RN (q.1 / 1000)) (q.1 % 1000) q.2 sa s ∧ ∀ j, xldc q.1 = some j → sa = sp (1000000 + j)) ∧ va_AO RX4 s ∧ SX A sp s s.heap
/-- where a run of it stands -/
def XS (s : State) (A : Nat → Prop) (D : va_G) (aC : Nat → ClassId) (sp : Nat → Nat) (sc : Nat × (Nat → Int32)) (M : XM) (c0 k0 : Nat) (ws : va_W) (L S : List Value) (h : XH) (ls : Array Slot) (st : List Value) (H : Heap) (locs : List Loc) (cells slots : Nat) : Prop :=
  LR ws sp L ls (xm_maxL M) ∧ SR ws sp S st ∧ WR aC ws sp h ∧ va_P D vwCl ws H ∧ va_D A ws ∧ va_S A s.heap H locs ∧ cells + c0 = h.2.2.1 ∧ slots + k0 = h.2.2.2.1 ∧ (xm_own M = 11 → h.2.2.2.2 = sc)
theorem nx_inj {a a' : Nat} {b b' c c' : List Value} {d d' : XH} (h : nx a b c d = some (.inl (a', b', c', d'))) : a' = a ∧ b' = b ∧ c' = c ∧ d' = d := by
  have h1 := Option.some.inj h
  injection h1 with h2
  injection h2 with h3 h4
  injection h4 with h5 h6
  injection h6 with h7 h8
  exact ⟨h3.symm, h5.symm, h7.symm, h8.symm⟩
theorem xj_inj {pc a' : Nat} {off : Int} {b b' c c' : List Value} {d d' : XH} (h : xj pc off b c d = some (.inl (a', b', c', d'))) : (pc : Int) + off = (a' : Int) ∧ b' = b ∧ c' = c ∧ d' = d := by
  unfold xj at h
  split at h
  · next h0 =>
    obtain ⟨h1, h2⟩ := nx_inj h
    refine ⟨?_, h2⟩
    rw [h1]
    exact (Int.toNat_of_nonneg h0).symm
  · cases h
theorem xfetch_spec {M : XM} {pc n : Nat} {i : Instr} (h : xfetch M pc = some (i, n)) : (pc, i, n) ∈ xm_k M ∧ (xln i = 0 ∨ xln i = n) := by
  unfold xfetch at h
  split at h
  · next j k hk =>
    cases hb : (Nat.beq (xln j) 0 || Nat.beq (xln j) k) with
    | false => rw [hb] at h; cases h
    | true =>
      rw [hb] at h
      cases h
      refine ⟨xlook_mem hk, ?_⟩
      rcases Bool.or_eq_true_iff.mp hb with h | h
      · exact Or.inl (Nat.eq_of_beq_eq_true h)
      · exact Or.inr (Nat.eq_of_beq_eq_true h)
  · cases h
theorem dec_of {M : XM} {pc n : Nat} {i : Instr} (hdec : ∀ q ∈ xm_k M, decode (xm_cc M) q.1 = .ok q.2) (hf : xfetch M pc = some (i, n)) : decode (xm_cc M) pc = .ok (i, n) := hdec (pc, i, n) (xfetch_spec hf).1
theorem n_of {a b n : Nat} (h : a = 0 ∨ a = n) (ha : a = b) (hb : b ≠ 0) : n = b := by
  rcases h with h | h
  · exact absurd (ha.symm.trans h) hb
  · exact h.symm.trans ha
theorem lv_has.mem {ls : Array Slot} {n : Nat} {l : List (Nat × Value)} (h : lv_has ls n l) {i : Nat} {w : Value} (hm : (i, w) ∈ l) : ls[i]? = some (.val w) := h.2.2 _ hm
theorem xinv_len (L : List Value) (i : Nat) : (xinv L i).length = L.length := by
  cases i with
  | zero => rfl
  | succ k =>
    simp only [xinv]
    split
    · rw [List.length_set]
    · rw [List.length_set]
    · rfl
theorem xinv_get {L : List Value} {i j : Nat} {v : Value} (h : (xinv L i)[j]? = some v) : (∃ k, v = .retAddr k) ∨ (L[j]? = some v ∧ (j + 1 = i → v.category ≠ 2)) := by
  cases i with
  | zero => exact Or.inr ⟨h, fun q => by omega⟩
  | succ k =>
    have key : ∀ (L' : List Value), L' = L.set k xjunk → L'[j]? = some v → (∃ k, v = .retAddr k) ∨ (L[j]? = some v ∧ (j + 1 = k + 1 → v.category ≠ 2)) := by
      intro L' e h
      rw [e] at h
      by_cases hj : k = j
      · subst hj
        rw [List.getElem?_set] at h
        simp only [if_true] at h
        split at h
        · cases h; exact Or.inl ⟨_, rfl⟩
        · cases h
      · rw [List.getElem?_set_ne hj] at h
        exact Or.inr ⟨h, fun q => by omega⟩
    simp only [xinv] at h
    split at h
    · exact key _ rfl h
    · exact key _ rfl h
    · next h1 h2 =>
      refine Or.inr ⟨h, fun q => ?_⟩
      have hj : j = k := by omega
      subst hj
      have hg : L.getD j xjunk = v := by rw [List.getD_eq_getElem?_getD, h]; rfl
      rw [hg] at h1 h2
      cases v with
      | long x => exact absurd rfl (h1 x)
      | double x => exact absurd rfl (h2 x)
      | _ => exact fun z => by cases z
theorem LR.sto1 {ws : va_W} {sp : Nat → Nat} {L : List Value} {ls ls' : Array Slot} {nL i : Nat} {v w : Value} (h : LR ws sp L ls nL) (hv : VR ws sp v w ∨ ∃ k, v = .retAddr k) (h' : lv_has ls' nL ((i, w) :: (lvAll ls).filter (fun q => !(q.1 == i) && !(q.1 + 1 == i && q.2.category == 2)))) : LR ws sp (xsto1 L i v) ls' nL := by
  refine ⟨h'.1, by unfold xsto1; rw [List.length_set, xinv_len]; exact h.2.1, h'.2.1, fun j v' hj => ?_⟩
  unfold xsto1 at hj
  by_cases hji : i = j
  · subst hji
    rw [List.getElem?_set] at hj
    simp only [if_true] at hj
    split at hj
    · cases hj
      rcases hv with hv | hv
      · exact Or.inr ⟨w, hv, h'.mem List.mem_cons_self⟩
      · exact Or.inl hv
    · cases hj
  · rw [List.getElem?_set_ne hji] at hj
    rcases xinv_get hj with h1 | ⟨h1, h2⟩
    · exact Or.inl h1
    · rcases h.2.2.2 j v' h1 with h3 | ⟨w', h4, h5⟩
      · exact Or.inl h3
      · refine Or.inr ⟨w', h4, h'.mem (List.mem_cons_of_mem _ (List.mem_filter.mpr ⟨lvAll_mem h5, ?_⟩))⟩
        have hc := h4.cat
        simp only [Bool.and_eq_true, Bool.not_eq_true', beq_eq_false_iff_ne, ne_eq, Bool.and_eq_false_iff]
        refine ⟨fun q => hji q.symm, ?_⟩
        by_cases hq : j + 1 = i
        · right
          have := h2 hq
          rw [hc]
          exact this
        · exact Or.inl hq
theorem LR.sto2 {ws : va_W} {sp : Nat → Nat} {L : List Value} {ls ls' : Array Slot} {nL i : Nat} {v w : Value} (h : LR ws sp L ls nL) (hv : VR ws sp v w) (h' : lv_has ls' nL ((i, w) :: (lvAll ls).filter (fun q => !(q.1 == i) && (!(q.1 == i + 1) && !(q.1 + 1 == i && q.2.category == 2))))) : LR ws sp (xsto2 L i v) ls' nL := by
  refine ⟨h'.1, by unfold xsto2; rw [List.length_set, List.length_set, xinv_len]; exact h.2.1, h'.2.1, fun j v' hj => ?_⟩
  unfold xsto2 at hj
  by_cases hj1 : i + 1 = j
  · subst hj1
    rw [List.getElem?_set] at hj
    simp only [if_true] at hj
    split at hj
    · cases hj; exact Or.inl ⟨_, rfl⟩
    · cases hj
  · rw [List.getElem?_set_ne hj1] at hj
    by_cases hji : i = j
    · subst hji
      rw [List.getElem?_set] at hj
      simp only [if_true] at hj
      split at hj
      · cases hj
        exact Or.inr ⟨w, hv, h'.mem List.mem_cons_self⟩
      · cases hj
    · rw [List.getElem?_set_ne hji] at hj
      rcases xinv_get hj with h1 | ⟨h1, h2⟩
      · exact Or.inl h1
      · rcases h.2.2.2 j v' h1 with h3 | ⟨w', h4, h5⟩
        · exact Or.inl h3
        · refine Or.inr ⟨w', h4, h'.mem (List.mem_cons_of_mem _ (List.mem_filter.mpr ⟨lvAll_mem h5, ?_⟩))⟩
          have hc := h4.cat
          simp only [Bool.and_eq_true, Bool.not_eq_true', beq_eq_false_iff_ne, ne_eq, Bool.and_eq_false_iff]
          refine ⟨fun q => hji q.symm, fun q => hj1 q.symm, ?_⟩
          by_cases hq : j + 1 = i
          · right
            have := h2 hq
            rw [hc]
            exact this
          · exact Or.inl hq
section Step
variable {p : Program} {l : Launch} {e : Env} {R : Room} {s : State} {m : MethodId} {args : Array Value} {below : List Frame} {meth : Method} {c : Code} {Q : State → Prop}
variable {M : XM} {A : Nat → Prop} {D : va_G} {aC : Nat → ClassId} {sp : Nat → Nat} {sc : Nat × (Nat → Int32)} {c0 k0 : Nat}
variable {ws : va_W} {L S L' S' : List Value} {h h' : XH} {ls : Array Slot} {st : List Value} {H : Heap} {locs : List Loc} {cells slots : Nat} {pc pc' q : Nat}
/-- the goal behind a step -/
def XK (p : Program) (l : Launch) (e : Env) (R : Room) (s : State) (m : MethodId) (args : Array Value) (below : List Frame) (meth : Method) (c : Code) (Q : State → Prop) (M : XM) (A : Nat → Prop) (D : va_G) (aC : Nat → ClassId) (sp : Nat → Nat) (sc : Nat × (Nat → Int32)) (c0 k0 : Nat) (ws : va_W) (pc' : Nat) (L' S' : List Value) (h' : XH) : Prop :=
  ∀ (ls' : Array Slot) (st' : List Value) (H' : Heap) (locs' : List Loc) (cells' slots' : Nat) (ws' : va_W), Ext ws ws' → XS s A D aC sp sc M c0 k0 ws' L' S' h' ls' st' H' locs' cells' slots' → W p l e R s m args below meth c H' locs' cells' slots' Q (F0 m pc' ls' st')
theorem XK.stk (k : XK p l e R s m args below meth c Q M A D aC sp sc c0 k0 ws pc' L S' h) (X : XS s A D aC sp sc M c0 k0 ws L S h ls st H locs cells slots) {st' : List Value} (hS : SR ws sp S' st') : W p l e R s m args below meth c H locs cells slots Q (F0 m pc' ls st') :=
  k ls st' H locs cells slots ws Ext.rf ⟨X.1, hS, X.2.2⟩
theorem XK.loc (k : XK p l e R s m args below meth c Q M A D aC sp sc c0 k0 ws pc' L' S' h) (X : XS s A D aC sp sc M c0 k0 ws L S h ls st H locs cells slots) {ls' : Array Slot} {st' : List Value} (hL : LR ws sp L' ls' (xm_maxL M)) (hS : SR ws sp S' st') : W p l e R s m args below meth c H locs cells slots Q (F0 m pc' ls' st') :=
  k ls' st' H locs cells slots ws Ext.rf ⟨hL, hS, X.2.2⟩
theorem st_ii {f : Int32 → Int32 → Int32} (hx : xii f L q S h = some (.inl (pc', L', S', h'))) (X : XS s A D aC sp sc M c0 k0 ws L S h ls st H locs cells slots) (k : XK p l e R s m args below meth c Q M A D aC sp sc c0 k0 ws pc' L' S' h')
    (row : ∀ (x y : Int32) (rest : List Value), W p l e R s m args below meth c H locs cells slots Q (F0 m q ls (.int (f x y) :: rest)) → W p l e R s m args below meth c H locs cells slots Q (F0 m pc ls (.int y :: .int x :: rest))) : W p l e R s m args below meth c H locs cells slots Q (F0 m pc ls st) := by
  unfold xii at hx
  split at hx
  · obtain ⟨rfl, rfl, rfl, rfl⟩ := nx_inj hx
    obtain ⟨_, _, rfl, e1, _, _, rfl, e2, hT⟩ := X.2.1
    cases e1; cases e2
    exact row _ _ _ (k.stk X ⟨_, _, rfl, rfl, hT⟩)
  · cases hx
theorem st_ll {f : Int64 → Int64 → Int64} (hx : xll f L q S h = some (.inl (pc', L', S', h'))) (X : XS s A D aC sp sc M c0 k0 ws L S h ls st H locs cells slots) (k : XK p l e R s m args below meth c Q M A D aC sp sc c0 k0 ws pc' L' S' h')
    (row : ∀ (x y : Int64) (rest : List Value), W p l e R s m args below meth c H locs cells slots Q (F0 m q ls (.long (f x y) :: rest)) → W p l e R s m args below meth c H locs cells slots Q (F0 m pc ls (.long y :: .long x :: rest))) : W p l e R s m args below meth c H locs cells slots Q (F0 m pc ls st) := by
  unfold xll at hx
  split at hx
  · obtain ⟨rfl, rfl, rfl, rfl⟩ := nx_inj hx
    obtain ⟨_, _, rfl, e1, _, _, rfl, e2, hT⟩ := X.2.1
    cases e1; cases e2
    exact row _ _ _ (k.stk X ⟨_, _, rfl, rfl, hT⟩)
  · cases hx
theorem st_li {f : Int64 → Int32 → Int64} (hx : xli f L q S h = some (.inl (pc', L', S', h'))) (X : XS s A D aC sp sc M c0 k0 ws L S h ls st H locs cells slots) (k : XK p l e R s m args below meth c Q M A D aC sp sc c0 k0 ws pc' L' S' h')
    (row : ∀ (x : Int64) (y : Int32) (rest : List Value), W p l e R s m args below meth c H locs cells slots Q (F0 m q ls (.long (f x y) :: rest)) → W p l e R s m args below meth c H locs cells slots Q (F0 m pc ls (.int y :: .long x :: rest))) : W p l e R s m args below meth c H locs cells slots Q (F0 m pc ls st) := by
  unfold xli at hx
  split at hx
  · obtain ⟨rfl, rfl, rfl, rfl⟩ := nx_inj hx
    obtain ⟨_, _, rfl, e1, _, _, rfl, e2, hT⟩ := X.2.1
    cases e1; cases e2
    exact row _ _ _ (k.stk X ⟨_, _, rfl, rfl, hT⟩)
  · cases hx
theorem LR.at (hL : LR ws sp L ls q) {i : Nat} {v : Value} (hv : L[i]? = some v) (hj : ∀ k, v ≠ .retAddr k) : ∃ w, VR ws sp v w ∧ ls[i]? = some (.val w) := by
  rcases hL.2.2.2 i v hv with ⟨k, h⟩ | h
  · exact absurd h (hj k)
  · exact h
theorem st_iload {i : Nat} (hx : xiload L i q S h = some (.inl (pc', L', S', h'))) (X : XS s A D aC sp sc M c0 k0 ws L S h ls st H locs cells slots) (k : XK p l e R s m args below meth c Q M A D aC sp sc c0 k0 ws pc' L' S' h')
    (row : ∀ x : Int32, ls[i]? = some (.val (.int x)) → W p l e R s m args below meth c H locs cells slots Q (F0 m q ls (.int x :: st)) → W p l e R s m args below meth c H locs cells slots Q (F0 m pc ls st)) : W p l e R s m args below meth c H locs cells slots Q (F0 m pc ls st) := by
  unfold xiload xlo at hx
  split at hx
  · next hv =>
    dsimp only at hx
    split at hx
    · obtain ⟨rfl, rfl, rfl, rfl⟩ := nx_inj hx
      obtain ⟨w, h1, h2⟩ := X.1.at hv (fun _ => by intro z; cases z)
      cases h1
      exact row _ h2 (k.stk X ⟨_, _, rfl, rfl, X.2.1⟩)
    · cases hx
  · cases hx
theorem st_lload {i : Nat} (hx : xlload L i q S h = some (.inl (pc', L', S', h'))) (X : XS s A D aC sp sc M c0 k0 ws L S h ls st H locs cells slots) (k : XK p l e R s m args below meth c Q M A D aC sp sc c0 k0 ws pc' L' S' h')
    (row : ∀ x : Int64, ls[i]? = some (.val (.long x)) → W p l e R s m args below meth c H locs cells slots Q (F0 m q ls (.long x :: st)) → W p l e R s m args below meth c H locs cells slots Q (F0 m pc ls st)) : W p l e R s m args below meth c H locs cells slots Q (F0 m pc ls st) := by
  unfold xlload xlo at hx
  split at hx
  · next hv =>
    dsimp only at hx
    split at hx
    · obtain ⟨rfl, rfl, rfl, rfl⟩ := nx_inj hx
      obtain ⟨w, h1, h2⟩ := X.1.at hv (fun _ => by intro z; cases z)
      cases h1
      exact row _ h2 (k.stk X ⟨_, _, rfl, rfl, X.2.1⟩)
    · cases hx
  · cases hx
theorem st_dload {i : Nat} (hx : xdload L i q S h = some (.inl (pc', L', S', h'))) (X : XS s A D aC sp sc M c0 k0 ws L S h ls st H locs cells slots) (k : XK p l e R s m args below meth c Q M A D aC sp sc c0 k0 ws pc' L' S' h')
    (row : ∀ x : UInt64, ls[i]? = some (.val (.double x)) → W p l e R s m args below meth c H locs cells slots Q (F0 m q ls (.double x :: st)) → W p l e R s m args below meth c H locs cells slots Q (F0 m pc ls st)) : W p l e R s m args below meth c H locs cells slots Q (F0 m pc ls st) := by
  unfold xdload xlo at hx
  split at hx
  · next hv =>
    dsimp only at hx
    split at hx
    · obtain ⟨rfl, rfl, rfl, rfl⟩ := nx_inj hx
      obtain ⟨w, h1, h2⟩ := X.1.at hv (fun _ => by intro z; cases z)
      cases h1
      exact row _ h2 (k.stk X ⟨_, _, rfl, rfl, X.2.1⟩)
    · cases hx
  · cases hx
/-- a reference's value -/
theorem VR.ref {a : Nat} {w : Value} (hv : VR ws sp (.ref a) w) : ∃ b, w = .ref b := by
  rcases hv with ⟨_, q, _, h⟩ | ⟨_, h⟩
  · exact ⟨_, h⟩
  · exact ⟨_, h⟩
theorem st_aload {i : Nat} (hx : xaload L i q S h = some (.inl (pc', L', S', h'))) (X : XS s A D aC sp sc M c0 k0 ws L S h ls st H locs cells slots) (k : XK p l e R s m args below meth c Q M A D aC sp sc c0 k0 ws pc' L' S' h')
    (row : ∀ x : Nat, ls[i]? = some (.val (.ref x)) → W p l e R s m args below meth c H locs cells slots Q (F0 m q ls (.ref x :: st)) → W p l e R s m args below meth c H locs cells slots Q (F0 m pc ls st)) : W p l e R s m args below meth c H locs cells slots Q (F0 m pc ls st) := by
  unfold xaload xlo at hx
  split at hx
  · next hv =>
    dsimp only at hx
    split at hx
    · obtain ⟨rfl, rfl, rfl, rfl⟩ := nx_inj hx
      obtain ⟨w, h1, h2⟩ := X.1.at hv (fun _ => by intro z; cases z)
      obtain ⟨b, rfl⟩ := h1.ref
      exact row _ h2 (k.stk X ⟨_, _, rfl, h1, X.2.1⟩)
    · cases hx
  · cases hx
theorem st_istore {i : Nat} (hx : xistore L i q S h = some (.inl (pc', L', S', h'))) (X : XS s A D aC sp sc M c0 k0 ws L S h ls st H locs cells slots) (k : XK p l e R s m args below meth c Q M A D aC sp sc c0 k0 ws pc' L' S' h')
    (row : ∀ (x : Int32) (rest : List Value), i < xm_maxL M → lv_has ls (xm_maxL M) (lvAll ls) → (∀ ls' : Array Slot, lv_has ls' (xm_maxL M) ((i, .int x) :: (lvAll ls).filter (fun q => !(q.1 == i) && !(q.1 + 1 == i && q.2.category == 2))) → W p l e R s m args below meth c H locs cells slots Q (F0 m q ls' rest)) → W p l e R s m args below meth c H locs cells slots Q (F0 m pc ls (.int x :: rest))) : W p l e R s m args below meth c H locs cells slots Q (F0 m pc ls st) := by
  unfold xistore at hx
  split at hx
  · split at hx
    · next hi =>
      obtain ⟨rfl, rfl, rfl, rfl⟩ := nx_inj hx
      obtain ⟨_, _, rfl, e1, hT⟩ := X.2.1
      cases e1
      refine row _ _ (by rw [← X.1.2.1]; exact hi) (lvAll_has X.1.1 X.1.2.2.1) fun ls' hl => ?_
      exact k.loc X (X.1.sto1 (Or.inl rfl) hl) hT
    · cases hx
  · cases hx
theorem st_astore {i : Nat} (hx : xastore L i q S h = some (.inl (pc', L', S', h'))) (X : XS s A D aC sp sc M c0 k0 ws L S h ls st H locs cells slots) (k : XK p l e R s m args below meth c Q M A D aC sp sc c0 k0 ws pc' L' S' h')
    (row : ∀ (x : Nat) (rest : List Value), i < xm_maxL M → lv_has ls (xm_maxL M) (lvAll ls) → (∀ ls' : Array Slot, lv_has ls' (xm_maxL M) ((i, .ref x) :: (lvAll ls).filter (fun q => !(q.1 == i) && !(q.1 + 1 == i && q.2.category == 2))) → W p l e R s m args below meth c H locs cells slots Q (F0 m q ls' rest)) → W p l e R s m args below meth c H locs cells slots Q (F0 m pc ls (.ref x :: rest))) : W p l e R s m args below meth c H locs cells slots Q (F0 m pc ls st) := by
  unfold xastore at hx
  split at hx
  · split at hx
    · next hi =>
      obtain ⟨rfl, rfl, rfl, rfl⟩ := nx_inj hx
      obtain ⟨_, _, rfl, e1, hT⟩ := X.2.1
      obtain ⟨b, rfl⟩ := e1.ref
      refine row _ _ (by rw [← X.1.2.1]; exact hi) (lvAll_has X.1.1 X.1.2.2.1) fun ls' hl => ?_
      exact k.loc X (X.1.sto1 (Or.inl e1) hl) hT
    · cases hx
  · cases hx
theorem st_lstore {i : Nat} (hx : xlstore L i q S h = some (.inl (pc', L', S', h'))) (X : XS s A D aC sp sc M c0 k0 ws L S h ls st H locs cells slots) (k : XK p l e R s m args below meth c Q M A D aC sp sc c0 k0 ws pc' L' S' h')
    (row : ∀ (x : Int64) (rest : List Value), i + 1 < xm_maxL M → lv_has ls (xm_maxL M) (lvAll ls) → (∀ ls' : Array Slot, lv_has ls' (xm_maxL M) ((i, .long x) :: (lvAll ls).filter (fun q => !(q.1 == i) && (!(q.1 == i + 1) && !(q.1 + 1 == i && q.2.category == 2)))) → W p l e R s m args below meth c H locs cells slots Q (F0 m q ls' rest)) → W p l e R s m args below meth c H locs cells slots Q (F0 m pc ls (.long x :: rest))) : W p l e R s m args below meth c H locs cells slots Q (F0 m pc ls st) := by
  unfold xlstore at hx
  split at hx
  · split at hx
    · next hi =>
      obtain ⟨rfl, rfl, rfl, rfl⟩ := nx_inj hx
      obtain ⟨_, _, rfl, e1, hT⟩ := X.2.1
      cases e1
      refine row _ _ (by rw [← X.1.2.1]; exact hi) (lvAll_has X.1.1 X.1.2.2.1) fun ls' hl => ?_
      exact k.loc X (X.1.sto2 rfl hl) hT
    · cases hx
  · cases hx
theorem st_dstore {i : Nat} (hx : xdstore L i q S h = some (.inl (pc', L', S', h'))) (X : XS s A D aC sp sc M c0 k0 ws L S h ls st H locs cells slots) (k : XK p l e R s m args below meth c Q M A D aC sp sc c0 k0 ws pc' L' S' h')
    (row : ∀ (x : UInt64) (rest : List Value), i + 1 < xm_maxL M → lv_has ls (xm_maxL M) (lvAll ls) → (∀ ls' : Array Slot, lv_has ls' (xm_maxL M) ((i, .double x) :: (lvAll ls).filter (fun q => !(q.1 == i) && (!(q.1 == i + 1) && !(q.1 + 1 == i && q.2.category == 2)))) → W p l e R s m args below meth c H locs cells slots Q (F0 m q ls' rest)) → W p l e R s m args below meth c H locs cells slots Q (F0 m pc ls (.double x :: rest))) : W p l e R s m args below meth c H locs cells slots Q (F0 m pc ls st) := by
  unfold xdstore at hx
  split at hx
  · split at hx
    · next hi =>
      obtain ⟨rfl, rfl, rfl, rfl⟩ := nx_inj hx
      obtain ⟨_, _, rfl, e1, hT⟩ := X.2.1
      cases e1
      refine row _ _ (by rw [← X.1.2.1]; exact hi) (lvAll_has X.1.1 X.1.2.2.1) fun ls' hl => ?_
      exact k.loc X (X.1.sto2 rfl hl) hT
    · cases hx
  · cases hx
end Step
