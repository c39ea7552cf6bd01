theorem lv_args_mem : ∀ (Bs : List Value) (k i : Nat) (w : Value), (∀ b ∈ Bs, b.category ≠ 2) → Bs[i]? = some w → (k + i, w) ∈ lv_args k Bs
  | [], _, _, _, _, h => by simp at h
  | b :: Bs, k, 0, w, _, h => by
    simp at h
    subst h
    exact List.mem_cons_self
  | b :: Bs, k, i + 1, w, hc, h => by
    refine List.mem_cons_of_mem _ ?_
    rw [if_neg (hc b List.mem_cons_self)]
    have := lv_args_mem Bs (k + 1) i w (fun b hb => hc b (List.mem_cons_of_mem _ hb)) (by simpa using h)
    rw [show k + (i + 1) = k + 1 + i by omega]
    exact this
theorem lg_sl_len : ∀ (Bs : List Value), (∀ b ∈ Bs, b.category ≠ 2) → (lg_sl Bs).length = Bs.length
  | [], _ => rfl
  | b :: Bs, hc => by
    have h1 := lg_sl_len Bs (fun b hb => hc b (List.mem_cons_of_mem _ hb))
    unfold lg_sl at h1 ⊢
    rw [List.flatMap_cons, if_neg (hc b List.mem_cons_self), List.length_append, h1, List.length_cons]
    simp; omega
theorem SR.c1 {ws : va_W} {sp : Nat → Nat} : ∀ {As Bs : List Value}, SR ws sp As Bs → As.all xc1 = true → ∀ b ∈ Bs, b.category ≠ 2
  | [], _, h, _, b, hb => by rw [h] at hb; cases hb
  | a :: As, _, ⟨w, T', h1, h2, h3⟩, hall, b, hb => by
    rw [List.all_cons, Bool.and_eq_true] at hall
    rw [h1] at hb
    rcases List.mem_cons.mp hb with rfl | hb
    · rw [h2.cat]
      cases a with
      | int x => exact fun z => by cases z
      | ref x => exact fun z => by cases z
      | null => decide
      | _ => exact absurd hall.1 (by intro z; cases z)
    · exact SR.c1 h3 hall.2 b hb
section Body
/-- what ends an invocation -/
def XEnd (p : Program) (l : Launch) (e : Env) (R : Room) (s : State) (m : MethodId) (args : Array Value) (below : List Frame) (meth : Method) (c : Code) (Q : State → Prop) (M : XM) (A : Nat → Prop) (D : va_G) (aC : Nat → ClassId) (sp : Nat → Nat) (sc : Nat × (Nat → Int32)) (c0 k0 : Nat) (ws : va_W) (o : XO) (h2 : XH) : Prop :=
  (∀ (pc : Nat) (i : Instr) (n : Nat) (L S : List Value) (h' : XH) (v : Option Value) (ls : Array Slot) (st : List Value) (H : Heap) (locs : List Loc) (cells slots : Nat) (ws' : va_W), o = .inl v → Ext ws ws' → xfetch M pc = some (i, n) → xstep M i pc L S h' = some (.inr (.inl (v, h2))) → XS s A D aC sp sc M c0 k0 ws' L S h' ls st H locs cells slots → W p l e R s m args below meth c H locs cells slots Q (F0 m pc ls st)) ∧
  (∀ (pc : Nat) (i : Instr) (n : Nat) (L S : List Value) (h' : XH) (E : Nat) (ls : Array Slot) (st : List Value) (H : Heap) (locs : List Loc) (cells slots : Nat) (ws' : va_W), o = .inr E → Ext ws ws' → xfetch M pc = some (i, n) → xstep M i pc L S h' = some (.inr (.inr (.inl (E, h2)))) → XS s A D aC sp sc M c0 k0 ws' L S h' ls st H locs cells slots → W p l e R s m args below meth c H locs cells slots Q (F0 m pc ls st)) ∧
  (∀ (pc : Nat) (L rest : List Value) (E : Nat) (ls : Array Slot) (st1 : List Value) (H1 : Heap) (locs1 : List Loc) (cells1 slots1 : Nat) (ws' : va_W) (ce : Cell) (q9 : Addr), o = .inr E → xm_hh M = [] → xm_own M < 11 → Ext ws ws' → XS s A D aC sp sc M c0 k0 ws' L rest h2 ls st1 H1 locs1 cells1 slots1 → H1[q9]? = some ce → ce.vm = .none → s.vm.findClass (EN E) = some ce.cls → vx_W p l e R s m args below meth c H1 locs1 cells1 slots1 Q (F0 m pc ls st1) q9)
theorem XEnd.mono {p : Program} {l : Launch} {e : Env} {R : Room} {s : State} {m : MethodId} {args : Array Value} {below : List Frame} {meth : Method} {c : Code} {Q : State → Prop} {M : XM} {A : Nat → Prop} {D : va_G} {aC : Nat → ClassId} {sp : Nat → Nat} {sc : Nat × (Nat → Int32)} {c0 k0 : Nat} {ws ws1 : va_W} {o : XO} {h2 : XH} (h : XEnd p l e R s m args below meth c Q M A D aC sp sc c0 k0 ws o h2) (E : Ext ws ws1) : XEnd p l e R s m args below meth c Q M A D aC sp sc c0 k0 ws1 o h2 :=
  ⟨fun pc i n L S h' v ls st H locs cells slots ws' a b => h.1 pc i n L S h' v ls st H locs cells slots ws' a (E.tr b), fun pc i n L S h' v ls st H locs cells slots ws' a b => h.2.1 pc i n L S h' v ls st H locs cells slots ws' a (E.tr b), fun pc L rest v ls st H locs cells slots ws' ce q9 a b c d => h.2.2 pc L rest v ls st H locs cells slots ws' ce q9 a b c (E.tr d)⟩
/-- what a run of so much fuel says of the machine -/
def BR (l : Launch) (f : Nat) : Prop := ∀ (d : Nat) (M : XM) (pc : Nat) (L S : List Value) (h : XH) (o : XO) (h2 : XH), ex f d M pc L S h = some (o, h2) →
  ∀ (p : Program) (e : Env) (R : Room) (s : State) (m : MethodId) (args : Array Value) (below : List Frame) (meth : Method) (c : Code) (Q : State → Prop) (A : Nat → Prop) (D : va_G) (aC : Nat → ClassId) (sp : Nat → Nat) (sc : Nat × (Nat → Int32)) (c0 k0 : Nat) (ws : va_W) (ls : Array Slot) (st : List Value) (H : Heap) (locs : List Loc) (cells slots : Nat),
  XC p R s m args meth c M A D aC sp sc → XB A sp s s.heap → c.exceptionTable.toList = tableOf (xm_hh M) → d + 7 ≤ R.frames → 60 * d + 260 ≤ R.locals → h2.2.2.1 ≤ c0 + R.cells → h2.2.2.2.1 ≤ k0 + R.slots →
  XS s A D aC sp sc M c0 k0 ws L S h ls st H locs cells slots →
  XEnd p l e R s m args below meth c Q M A D aC sp sc c0 k0 ws o h2 →
  W p l e R s m args below meth c H locs cells slots Q (F0 m pc ls st)
theorem XMem.at {w : Cond} (h : XMem w) {args : Array Value} {s : State} (hts : ∀ w ∈ XT, w.before args s = true) : w.before args s = true := hts _ h.inT
set_option maxHeartbeats 4000000 in
theorem met_of {l : Launch} (hl : l.stackTraces = false) {f : Nat} (ih : BR l f) {M : XM} (hP : xmP M) (hno : xm_own M ≠ 11) {d : Nat} {As : List Value} {h h1 : XH} {o : XO} (hex : ex f d M 0 (xentry M As) [] h = some (o, h1)) (hall : As.all xc1 = true) (hlen : As.length ≤ xm_maxL M) : XMet l M d As h o h1 := by
  intro D aC sp ws sz Bs hSR hWR
  have hg := ex_ge _ _ _ _ _ _ _ _ _ hex
  have hg1 := hg.1
  have hg2 := hg.2.1
  have key : ∀ p e s m args below meth c s₁, BodyLoose p l (xm_y M) (headSpec (xws M) (XRoom d (h1.2.2.1 - h.2.2.1) (h1.2.2.2.1 - h.2.2.2.1))) (xm_cc M) (xm_maxL M) (xm_ret M) e s m args below meth c s₁ → c.maxLocals = xm_maxL M → c.exceptionTable.toList = tableOf (xm_hh M) → va_Pc Bs (XPre D aC sp ws sz) args s →
      W p l e (headSpec (xws M) (XRoom d (h1.2.2.1 - h.2.2.1) (h1.2.2.2.1 - h.2.2.2.1))).room s m args below meth c s.heap [] 0 0 (vx_MQ below (XQ D aC sp ws sz o h1) (XX D aC sp ws sz o h1) args s (h1.2.2.1 - h.2.2.1) (h1.2.2.2.1 - h.2.2.2.1) (va_A ws sz)) (entryFrame m args (xm_maxL M)) := by
    intro p e s m args below meth c s₁ B hml htbl hv
    obtain ⟨rfl, rfl, hP0, hK0, hD0, hB0⟩ := hv
    have hts : ∀ w ∈ XT, w.before Bs.toArray s = true := fun w hw => atoms_spec (ws := xws M) B.pre w (List.mem_cons_of_mem _ hw)
    have hc1 := hSR.c1 hall
    have hsl := lg_sl_len Bs hc1
    have hBl : Bs.length ≤ xm_maxL M := by rw [hSR.len]; exact hlen
    have hlv := lv_entry Bs (n := xm_maxL M) (by rw [hsl]; exact hBl)
    rw [lg_entry_eq]
    generalize (lg_sl Bs ++ List.replicate (xm_maxL M - (lg_sl Bs).length) Slot.unset).toArray = ls at hlv ⊢
    have hown : s.vm.findClass (RN (xm_own M)) = some m.cls := by rw [hP.2.2.2.2.2.2.2.2.2.1]; exact findClass_of_methodNamed B.named
    have hLR : LR ws sp (xentry M As) ls (xm_maxL M) := by
      refine ⟨hlv.1, by unfold xentry; rw [List.length_append, List.length_replicate]; omega, hlv.2.1, fun i v hv => ?_⟩
      unfold xentry at hv
      by_cases hi : i < As.length
      · rw [List.getElem?_append_left hi] at hv
        obtain ⟨w, hw, hvw⟩ := hSR.get hv
        have hm := lv_args_mem Bs 0 i w hc1 hw
        rw [Nat.zero_add] at hm
        exact Or.inr ⟨w, hvw, hlv.mem hm⟩
      · rw [List.getElem?_append_right (by omega)] at hv
        have := List.getElem?_replicate (n := xm_maxL M - As.length) (a := xjunk) (i := i - As.length)
        rw [this] at hv
        split at hv
        · cases hv; exact Or.inl ⟨_, rfl⟩
        · cases hv
    refine ih d M 0 (xentry M As) [] h o h1 hex p e _ s m _ below meth c _ (va_A ws s.heap.size) D aC sp (0, fun _ => 0) h.2.2.1 h.2.2.2.1 ws ls [] s.heap [] 0 0 ?_ hB0 htbl (Nat.le_refl _) (Nat.le_refl _) (by show _ ≤ _ + (h1.2.2.1 - h.2.2.1); omega) (by show _ ≤ _ + (h1.2.2.2.1 - h.2.2.2.1); omega) ?_ ⟨?_, ?_, ?_⟩
    · exact ⟨B.exec, B.bytes, hml, hown, hts, hK0, fun q hq => Or.inr hq, (name_of_methodNamed B.named B.method).1, hP.2.2.2.2.2.2.2.2.2.2, by show 6 ≤ d + 7; omega, by show 200 ≤ 60 * d + 260; omega, fun q => absurd q hno, hB0.2.2.1, hB0.2.2.2.2⟩
    · exact ⟨hLR, rfl, hWR, hP0, hD0.self, va_S.rf, by omega, by omega, fun q => absurd q hno⟩
    · intro pc i n L S h' v ls st H locs cells slots ws' ho hE hf hx X
      obtain ⟨hm, hn⟩ := xfetch_spec hf
      have hd := dec_of hP.2.2.2.2.2.2.2.2.2.2 hf
      obtain ⟨rfl, hk⟩ := ret_spec hx
      have e1 := X.2.2.2.2.2.2.1
      have e2 := X.2.2.2.2.2.2.2.1
      have hc : cells = h1.2.2.1 - h.2.2.1 := by omega
      have hs : slots = h1.2.2.2.1 - h.2.2.2.1 := by omega
      rw [← hc, ← hs]
      have fin : ∀ (w : Option Value) (t : State), OVR ws' sp v w → t.heap = H → XQ D aC sp ws s.heap.size o h1 Bs.toArray s (.returned w) t := fun w t hw ht =>
        ⟨v, w, ws', ho, rfl, hw, ⟨hE, X.2.2.1, by rw [ht]; exact X.2.2.2.1, X.2.2.2.2.1⟩, X.2.2.2.2.2.1.F ht⟩
      refine vx_ret ?_
      rcases hk with ⟨x, ty, rfl, rfl, rfl, hr, hna⟩ | ⟨x, rfl, rfl, rfl, hr⟩ | ⟨x, rfl, rfl, rfl, hr⟩ | ⟨u, nm, rfl, rfl, rfl, hr, hu⟩ | ⟨rfl, rfl, rfl, hr⟩
      · obtain rfl : n = 1 := n_of hn rfl (by decide)
        obtain ⟨_, _, rfl, q1, rfl⟩ := X.2.1
        cases q1
        exact W.zret B.exec B.bytes (B.returns.trans hr) hna (fun t ht hW => fin _ t ⟨_, rfl, rfl⟩ ht) X.2.2.2.2.2.1.2.2 hd (hlocks := B.notSynchronized)
      · obtain rfl : n = 1 := n_of hn rfl (by decide)
        obtain ⟨_, _, rfl, q1, rfl⟩ := X.2.1
        cases q1
        exact W.lret B.exec B.bytes (B.returns.trans hr) (fun t ht hW => fin _ t ⟨_, rfl, rfl⟩ ht) X.2.2.2.2.2.1.2.2 hd (hlocks := B.notSynchronized)
      · obtain rfl : n = 1 := n_of hn rfl (by decide)
        obtain ⟨_, _, rfl, q1, rfl⟩ := X.2.1
        cases q1
        exact W.dret B.exec B.bytes (B.returns.trans hr) (fun t ht hW => fin _ t ⟨_, rfl, rfl⟩ ht) X.2.2.2.2.2.1.2.2 hd (hlocks := B.notSynchronized)
      · obtain rfl : n = 1 := n_of hn rfl (by decide)
        obtain ⟨w, _, rfl, q1, rfl⟩ := X.2.1
        have hw : w = .null ∨ ∃ a, w = .ref a := by
          rcases hu with rfl | ⟨a, rfl⟩
          · exact Or.inl q1
          · exact Or.inr q1.ref
        exact W.aret B.exec B.bytes (B.returns.trans hr) (Or.inl ⟨nm, rfl⟩) hw (fun t ht hW => fin _ t ⟨_, rfl, q1⟩ ht) X.2.2.2.2.2.1.2.2 hd (hlocks := B.notSynchronized)
      · obtain rfl : n = 1 := n_of hn rfl (by decide)
        obtain rfl := X.2.1
        exact W.vret B.exec B.bytes (B.returns.trans hr) (fun t ht hW => fin _ t rfl ht) X.2.2.2.2.2.1.2.2 hd (hlocks := B.notSynchronized)
    · intro pc i n L S h' E ls st H locs cells slots ws' ho hE hf hx X
      obtain ⟨hm, hn⟩ := xfetch_spec hf
      have hd := dec_of hP.2.2.2.2.2.2.2.2.2.2 hf
      obtain ⟨rfl, idx, ic, rfl, ht, h4, hlt, hh, hthr⟩ := thr_spec hx
      obtain rfl : n = 3 := n_of hn rfl (by decide)
      have e1 := X.2.2.2.2.2.2.1
      have e2 := X.2.2.2.2.2.2.2.1
      have hc : cells + 1 = (hexc h').2.2.1 - h.2.2.1 := by simp only [hexc] at *; omega
      have hs : slots + 6 = (hexc h').2.2.2.1 - h.2.2.2.1 := by simp only [hexc] at *; omega
      obtain ⟨hmem, hk1, hk2⟩ := xlk_mem ht
      obtain ⟨t1, t2, t3⟩ := tT_ok _ hmem
      have tat := tT_at _ hmem
      have t3' := tT_3 _ hmem
      dsimp only at t1 t2 t3 tat t3'
      have hw8 := xle4_cat h4 X.2.1
      have hout : ∀ (q : Nat), ∀ x ∈ c.exceptionTable.toList, covers x q = false := fun q x hx => by rw [htbl, hh] at hx; cases hx
      have fin : ∀ t : State, s.vm.Alike t.vm → H.size ≤ t.heap.size → (∀ q : Nat, q < H.size → t.heap[q]? = H[q]?) → XX D aC sp ws s.heap.size o (hexc h') (EN E) s t := fun t _ z1 z2 =>
        ⟨E, ws', ho, rfl, ⟨hE, X.2.2.1, X.2.2.2.1.kept fun k q hq => z2 _ (X.2.2.2.1 k q hq).lt, X.2.2.2.2.1⟩, Nat.le_trans X.2.2.2.2.2.1.1 z1, fun q q1 q2 => by rw [z2 q (Nat.lt_of_lt_of_le q1 X.2.2.2.2.2.1.1)]; exact X.2.2.2.2.2.1.2.1 q q1 q2⟩
      have hdec : ∀ {q : Nat} {i : Instr} {n : Nat}, xfetch M q = some (i, n) → decode (xm_cc M) q = .ok (i, n) := fun hq => dec_of hP.2.2.2.2.2.2.2.2.2.2 hq
      have fits1 : ∀ n ∈ xnames, Bundle.fit n = true := by decide +kernel
      have hsz : ls.size = c.maxLocals := X.1.1.trans hml.symm
      by_cases hE3 : E = 3
      · have h9 := t3' hE3
        obtain ⟨a1, a2⟩ := tAt3
        have hkey : xm_own M * 1000 + idx = 8157 := congrArg Prod.fst h9
        have hic : ic = 161 := congrArg (fun q : Nat × Nat × Nat => q.2.2) h9
        subst hE3
        rw [hic] at hthr
        rw [hkey] at t1 hk1 hk2
        obtain ⟨d3, ⟨is, tx, d4, hs4, d6, d9⟩ | ⟨is, tx, d4, hs4, d6, d9⟩⟩ := xthrow_spec hthr
        · obtain ⟨hm4, hk3, hk4⟩ := xlk_mem hs4
          obtain ⟨sa, hsa, _⟩ := hB0.2.2.1 _ hm4
          dsimp only at hsa
          rw [hk3, hk4] at hsa
          refine vx_throwN (own := RN (8157 / 1000)) (ik := 8157 % 1000) (names := xnames) (ic := 161) B.exec B.bytes hl (by rw [hk1]; exact hown) t3 fits1 (hts _ t1.inT) (hts _ t2.inT) (by rw [hk1]; exact hsa) (fun w hw => hts _ (XMem.inT (a1 w hw))) a2 hB0.1 hB0.2.1 X.2.2.2.2.2.1 hsz (by rw [hk2]; exact hd) (hdec d3) (hdec d4) (hdec d6) (hdec d9) (hout _) (by show 2 + 3 < d + 7; omega) (by show _ + (13 * (2 + 1) + 43) ≤ 60 * d + 260; omega) (by show _ ≤ (hexc h').2.2.1 - h.2.2.1; omega) (by show _ ≤ (hexc h').2.2.2.1 - h.2.2.2.1; omega) B.notSynchronized fin X.2.2.2.2.2.1.2.2 (by omega) (by omega)
        · obtain ⟨hm4, hk3, hk4⟩ := xlk_mem hs4
          obtain ⟨sa, hsa, _⟩ := hB0.2.2.1 _ hm4
          dsimp only at hsa
          rw [hk3, hk4] at hsa
          refine vx_throwNW (own := RN (8157 / 1000)) (ik := 8157 % 1000) (names := xnames) (ic := 161) B.exec B.bytes hl (by rw [hk1]; exact hown) t3 fits1 (hts _ t1.inT) (hts _ t2.inT) (by rw [hk1]; exact hsa) (fun w hw => hts _ (XMem.inT (a1 w hw))) a2 hB0.1 hB0.2.1 X.2.2.2.2.2.1 hsz (by rw [hk2]; exact hd) (hdec d3) (hdec d4) (hdec d6) (hdec d9) (hout _) (by show 2 + 3 < d + 7; omega) (by show _ + (13 * (2 + 1) + 43) ≤ 60 * d + 260; omega) (by show _ ≤ (hexc h').2.2.1 - h.2.2.1; omega) (by show _ ≤ (hexc h').2.2.2.1 - h.2.2.2.1; omega) B.notSynchronized fin X.2.2.2.2.2.1.2.2 (by omega) (by omega)
      · obtain ⟨a1, a2⟩ := tat hE3
        dsimp only at a1 a2
        rw [hk1] at a1
        rw [hk1, hk2] at t1 a2
        obtain ⟨d3, ⟨is, tx, d4, hs4, d6, d9⟩ | ⟨is, tx, d4, hs4, d6, d9⟩⟩ := xthrow_spec hthr
        · obtain ⟨hm4, hk3, hk4⟩ := xlk_mem hs4
          obtain ⟨sa, hsa, _⟩ := hB0.2.2.1 _ hm4
          dsimp only at hsa
          rw [hk3, hk4] at hsa
          exact vx_throwS (names := xnames) B.exec B.bytes hl hown t3 fits1 (hts _ t1.inT) (hts _ t2.inT) hsa (fun w hw => hts _ (XMem.inT (a1 w hw))) a2 hB0.1 hB0.2.1 X.2.2.2.2.2.1 hsz hd (hdec d3) (hdec d4) (hdec d6) (hdec d9) (hout _) (by show 2 + 3 < d + 7; omega) (by show _ + (13 * (2 + 1) + 43) ≤ 60 * d + 260; omega) (by show _ ≤ (hexc h').2.2.1 - h.2.2.1; omega) (by show _ ≤ (hexc h').2.2.2.1 - h.2.2.2.1; omega) B.notSynchronized fin X.2.2.2.2.2.1.2.2 (by omega) (by omega)
        · obtain ⟨hm4, hk3, hk4⟩ := xlk_mem hs4
          obtain ⟨sa, hsa, _⟩ := hB0.2.2.1 _ hm4
          dsimp only at hsa
          rw [hk3, hk4] at hsa
          exact vx_throwSW (names := xnames) B.exec B.bytes hl hown t3 fits1 (hts _ t1.inT) (hts _ t2.inT) hsa (fun w hw => hts _ (XMem.inT (a1 w hw))) a2 hB0.1 hB0.2.1 X.2.2.2.2.2.1 hsz hd (hdec d3) (hdec d4) (hdec d6) (hdec d9) (hout _) (by show 2 + 3 < d + 7; omega) (by show _ + (13 * (2 + 1) + 43) ≤ 60 * d + 260; omega) (by show _ ≤ (hexc h').2.2.1 - h.2.2.1; omega) (by show _ ≤ (hexc h').2.2.2.1 - h.2.2.2.1; omega) B.notSynchronized fin X.2.2.2.2.2.1.2.2 (by omega) (by omega)
    · intro pc L rest E ls st1 H1 locs1 cells1 slots1 ws' ce q9 ho hh hlt hE X hce hcv hcl
      have hout : ∀ x ∈ c.exceptionTable.toList, covers x pc = false := fun x hx => by rw [htbl, hh] at hx; cases hx
      have e1 := X.2.2.2.2.2.2.1
      have e2 := X.2.2.2.2.2.2.2.1
      exact vx_out hout B.notSynchronized hce hcv hcl (fun t ht _ => ⟨E, ws', ho, rfl, ⟨hE, X.2.2.1, by rw [ht]; exact X.2.2.2.1, X.2.2.2.2.1⟩, X.2.2.2.2.2.1.F ht⟩) X.2.2.2.2.2.1.2.2 (by omega) (by omega)
  cases hh : xm_hh M with
  | nil =>
    have hwc : xws M = .code (xm_y M) (xm_cc M) (xm_maxL M) (xm_ret M) :: XT := by unfold xws xwcode; rw [hh]
    exact vx_ofW (cc := xm_cc M) (maxL := xm_maxL M) (ret := xm_ret M) hP.2.2.2.2.2.2.2.1 hwc fun p e s m args below meth c s₁ B hml htb hv => key p e s m args below meth c s₁ B hml (by rw [hh]; exact List.eq_nil_iff_forall_not_mem.mpr htb) hv
  | cons q t =>
    have hwc : xws M = .codeWith (xm_y M) (xm_cc M) (xm_maxL M) (xm_ret M) (q :: t) :: XT := by unfold xws xwcode; rw [hh]
    refine vx_ofWH (cc := xm_cc M) (maxL := xm_maxL M) (ret := xm_ret M) (hh := q :: t) hP.2.2.2.2.2.2.2.1 hwc fun p e s m args below meth c s₁ B hml hv => key p e s m args below meth c s₁ B hml ?_ hv
    rw [hh]
    exact vx_table (x := xm_y M) B (atoms_spec (ws := xws M) B.pre _ (by rw [hwc]; exact List.mem_cons_self))
end Body
