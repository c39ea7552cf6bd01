/-! Calls, returns, throws: a run with fuel is a run of the machine. -/
section Calls
variable {p : Program} {l : Launch} {e : Env} {R : Room} {s : State} {m : MethodId} {args : Array Value} {below : List Frame} {meth : Method} {c : Code} {H : Heap} {locs : List Loc} {cells slots : Nat} {Q : State → Prop}
theorem vx_callA {mc ms pc : Nat} {ls : Array Slot} {rest st0 : List Value} {free : Addr → Prop} {Qa : State → Outcome → State → Prop} {XX : String → State → State → Prop}
    (hr : vx_Run p l e R s m args below meth c H locs cells slots mc ms (F0 m pc ls st0) rest Qa XX free)
    (kx : ∀ (E : String) (ce : Cell) (q9 : Addr) (st₀ t : State) (H1 : Heap) (L : List Loc), st₀.heap = H → t.heap = H1 → s.vm.Alike t.vm → XX E st₀ t → (∀ z ∈ L, free z.base) → H1[q9]? = some ce → ce.vm = .none → s.vm.findClass E = some ce.cls → vx_W p l e R s m args below meth c H1 (locs ++ L) (cells + mc) (slots + ms) Q (F0 m pc ls rest) q9)
    (kk : ∀ (v : Option Value) (st₀ t : State) (H1 : Heap) (L : List Loc), st₀.heap = H → t.heap = H1 → s.vm.Alike t.vm → Qa st₀ (.returned v) t → (∀ z ∈ L, free z.base) → W p l e R s m args below meth c H1 (locs ++ L) (cells + mc) (slots + ms) Q (F0 m (pc + 3) ls (v.toList ++ rest))) :
    W p l e R s m args below meth c H locs cells slots Q (F0 m pc ls st0) := by
  intro T hT X
  rcases hr T hT X with ⟨v, st₀, t, T', L, h0, X', hL, e1, e2, hq, st⟩ | ⟨q, st₀, t, T', L, E, ce, h0, X', hL, e1, e2, hx, hce, hcv, hcl, st⟩
  · obtain ⟨t2, a1, b1⟩ := kk v st₀ t T'.heap L h0 e1.symm (by rw [← e2]; exact X'.warmed.alike) hq hL T' rfl X'
    exact ⟨t2, st t2 a1, b1⟩
  · obtain ⟨t2, a1, b1⟩ := kx E ce q st₀ t T'.heap L h0 e1.symm (by rw [← e2]; exact X'.warmed.alike) hx hL (by rw [e1]; exact hce) hcv hcl T' rfl X'
    exact ⟨t2, st.trans a1, b1⟩
theorem va_callA {mc ms pc : Nat} {ls : Array Slot} {rest st0 : List Value} {free : Addr → Prop} {Qa : State → Outcome → State → Prop}
    (hr : va_Run p l e R s m args below meth c H locs cells slots mc ms (F0 m pc ls st0) rest Qa free)
    (kk : ∀ (v : Option Value) (st₀ t : State) (H1 : Heap) (L : List Loc), st₀.heap = H → t.heap = H1 → s.vm.Alike t.vm → Qa st₀ (.returned v) t → (∀ z ∈ L, free z.base) → W p l e R s m args below meth c H1 (locs ++ L) (cells + mc) (slots + ms) Q (F0 m (pc + 3) ls (v.toList ++ rest))) :
    W p l e R s m args below meth c H locs cells slots Q (F0 m pc ls st0) := by
  intro T hT X
  obtain ⟨v, st₀, t, T', L, h0, X', hL, e1, e2, hq, st⟩ := hr T hT X
  obtain ⟨t2, a1, b1⟩ := kk v st₀ t T'.heap L h0 e1.symm (by rw [← e2]; exact X'.warmed.alike) hq hL T' rfl X'
  exact ⟨t2, st t2 a1, b1⟩
end Calls
def xwcode (M : XM) : Cond := match xm_hh M with
  | [] => .code (xm_y M) (xm_cc M) (xm_maxL M) (xm_ret M)
  | q :: t => .codeWith (xm_y M) (xm_cc M) (xm_maxL M) (xm_ret M) (q :: t)
def xws (M : XM) : List Cond := xwcode M :: XT
/-- what stands in the heap beside the world, all through -/
def XB (A : Nat → Prop) (sp : Nat → Nat) (s : State) (H : Heap) : Prop :=
  vx_Zq Bundle.tN "UNASSIGNED_STACK" Bundle.steD A s H ∧ vx_Zq Bundle.tN "SUPPRESSED_SENTINEL" Bundle.listD A s H ∧
  (∀ q ∈ sT, ∃ sa : Nat, vk_R (RN (q.1 / 1000)) (q.1 % 1000) q.2 sa s ∧ ∀ j, xldc q.1 = some j → sa = sp (1000000 + j)) ∧
  (∀ E F : Nat, E < 6 → F < 6 → E ≠ F → va_Nc (EN E) (EN F) s) ∧ va_AO RX4 s ∧ SX A sp s H
theorem XB.call {A A' : Nat → Prop} {sp : Nat → Nat} {s U : State} {H : Heap} {locs : List Loc} (h : XB A sp s s.heap) (hS : va_S A s.heap H locs) (hW : s.WarmedH U.vm) (hU : U.heap = H) (hA : ∀ q, A' q → A q) : XB A' sp U U.heap := by
  obtain ⟨h1, h2, h3, h4, h5, h6⟩ := h
  subst hU
  refine ⟨vx_Zq.moved hW.alike ((h1.kept hS.2.1).narrow hA), vx_Zq.moved hW.alike ((h2.kept hS.2.1).narrow hA), fun q hq => ?_, fun E F a b n => (h4 E F a b n).moved hW.alike, va_AO.moved hW.alike h5, (SX.moved hW.alike (h6.kept hS.2.1)).narrow hA⟩
  obtain ⟨sa, e1, e2⟩ := h3 q hq
  exact ⟨sa, vk_R.warm hW e1, e2⟩
def XPre (D : va_G) (aC : Nat → ClassId) (sp : Nat → Nat) (ws : va_W) (sz : Nat) (U : State) : Prop :=
  U.heap.size = sz ∧ va_P D vwCl ws U.heap ∧ va_K D vwCl (xtys aC) U ∧ va_D (fun _ => True) ws ∧ XB (va_A ws sz) sp U U.heap
theorem XPre.calling {D : va_G} {aC : Nat → ClassId} {sp : Nat → Nat} {ws : va_W} {sz : Nat} {U : State} (g : JFrame) (mk : MethodId) (a : Array Value) (h : XPre D aC sp ws sz U) : XPre D aC sp ws sz (U.calling g mk a) := by
  obtain ⟨h1, h2, h3, h4, h5, h6, h7, h8⟩ := h
  refine ⟨h1, h2, h3, h4, h5, h6, fun q hq => ?_, h8.1, h8.2.1, SX.moved (u := U) (U := U.calling g mk a) (Vm.Alike.refl U.vm) h8.2.2⟩
  obtain ⟨sa, e1, e2⟩ := h7 q hq
  exact ⟨sa, vk_R.same (U := U.calling g mk a) (u := U) rfl e1, e2⟩
def OVR (ws : va_W) (sp : Nat → Nat) : Option Value → Option Value → Prop
  | none, w => w = none
  | some v, w => ∃ w', w = some w' ∧ VR ws sp v w'
def XPost (D : va_G) (aC : Nat → ClassId) (sp : Nat → Nat) (ws : va_W) (sz : Nat) (h2 : XH) (ws' : va_W) (t : State) : Prop :=
  Ext ws ws' ∧ WR aC ws' sp h2 ∧ va_P D vwCl ws' t.heap ∧ va_D (va_A ws sz) ws'
def XQ (D : va_G) (aC : Nat → ClassId) (sp : Nat → Nat) (ws : va_W) (sz : Nat) (o : XO) (h2 : XH) : Array Value → State → Outcome → State → Prop := fun _ st oc t =>
  ∃ v w ws', o = .inl v ∧ oc = .returned w ∧ OVR ws' sp v w ∧ XPost D aC sp ws sz h2 ws' t ∧ va_F (va_A ws sz) st t
def XX (D : va_G) (aC : Nat → ClassId) (sp : Nat → Nat) (ws : va_W) (sz : Nat) (o : XO) (h2 : XH) : String → State → State → Prop := fun E st t =>
  ∃ k ws', o = .inr k ∧ E = EN k ∧ XPost D aC sp ws sz h2 ws' t ∧ va_F (va_A ws sz) st t
def XRoom (d mc ms : Nat) : Room := { frames := d + 7, cells := mc, slots := ms, locals := 60 * d + 260 }
/-- a method's contract at a depth: from these arguments and this heap, this outcome and that heap -/
def XMet (l : Launch) (M : XM) (d : Nat) (As : List Value) (h : XH) (o : XO) (h2 : XH) : Prop :=
  ∀ (D : va_G) (aC : Nat → ClassId) (sp : Nat → Nat) (ws : va_W) (sz : Nat) (Bs : List Value), SR ws sp As Bs → WR aC ws sp h →
    vx_Met l (xm_y M) (xws M) (XRoom d (h2.2.2.1 - h.2.2.1) (h2.2.2.2.1 - h.2.2.2.1)) (va_Pc Bs (XPre D aC sp ws sz)) (XQ D aC sp ws sz o h2) (XX D aC sp ws sz o h2) (h2.2.2.1 - h.2.2.1) (h2.2.2.2.1 - h.2.2.2.1) (va_A ws sz)
theorem vx_toMet {l : Launch} {y : MethodName} {ws : List Cond} {rm : Room} {Pc : Array Value → State → Prop} {Qc : Array Value → State → Outcome → State → Prop} {XC' : String → State → State → Prop} {mc ms : Nat} {free : Addr → Prop} (h : vx_Met l y ws rm Pc Qc XC' mc ms free) (hno : ∀ E st t, ¬ XC' E st t) : Met l y ws rm Pc Qc mc ms free := by
  intro p e ha hc hk s m args below hfr hap hP _
  obtain ⟨n, o, h1, h2, h3, h4⟩ := h p e ha hc hk s m args below hfr hap hP trivial
  refine ⟨n, o, h1, h2, h3, ?_⟩
  rcases h4 with h4 | ⟨q, _, E, ce, L, hx, _⟩
  · exact h4
  · exact absurd hx (hno _ _ _)
theorem xpop_spec : ∀ {n : Nat} {acc S As rest : List Value}, xpop n acc S = some (As, rest) → ∃ B, As = B ++ acc ∧ S = B.reverse ++ rest ∧ B.length = n
  | 0, acc, S, As, rest, h => by cases h; exact ⟨[], rfl, rfl, rfl⟩
  | n + 1, acc, [], As, rest, h => nomatch h
  | n + 1, acc, v :: S, As, rest, h => by
    obtain ⟨B, h1, h2, h3⟩ := xpop_spec (n := n) h
    refine ⟨B ++ [v], by rw [h1]; simp, by rw [h2]; simp, by simp [h3]⟩
theorem SR.split {ws : va_W} {sp : Nat → Nat} : ∀ {A B T : List Value}, SR ws sp (A ++ B) T → ∃ T1 T2, T = T1 ++ T2 ∧ SR ws sp A T1 ∧ SR ws sp B T2
  | [], _, T, h => ⟨[], T, rfl, rfl, h⟩
  | _ :: _, _, _, ⟨w, T', h1, h2, h3⟩ => by
    obtain ⟨T1, T2, e1, e2, e3⟩ := SR.split h3
    exact ⟨w :: T1, T2, by rw [h1, e1]; rfl, ⟨w, T1, rfl, h2, e2⟩, e3⟩
theorem SR.rev {ws : va_W} {sp : Nat → Nat} : ∀ {A T : List Value}, SR ws sp A T → SR ws sp A.reverse T.reverse
  | [], _, h => by rw [h]; rfl
  | _ :: _, _, ⟨w, T', h1, h2, h3⟩ => by
    rw [h1, List.reverse_cons, List.reverse_cons]
    exact SR.app (SR.rev h3) ⟨w, [], rfl, h2, rfl⟩
theorem mT_own : ∀ q ∈ mT, xm_own q.2 ≠ 11 := by decide +kernel
/-- what a call's step says -/
def XCallS (M M' : XM) (i : Instr) (S As rest : List Value) (h : XH) : Prop :=
  xmP M' ∧ As.all xc1 = true ∧ As.length ≤ xm_maxL M' ∧ xle4 rest = true ∧ xm_own M' ≠ 11 ∧ ∃ idx, XMem (.methodLink (RN (xm_own M)) idx (xm_y M')) ∧
  ((i = .invokestatic idx ∧ xm_st M' = true ∧ S = As.reverse ++ rest ∧ As.length = xm_n M') ∨
   (∃ b B fs, i = .invokevirtual idx ∧ xm_st M' = false ∧ (xm_y M').name ≠ "<init>" ∧ As = .ref b :: B ∧ S = B.reverse ++ .ref b :: rest ∧ B.length = xm_n M' ∧ hget h b = some (.inr (xm_own M', fs))) ∨
   (∃ b B, i = .invokespecial idx ∧ xm_st M' = false ∧ (xm_y M').name = "<init>" ∧ xm_hh M' = [] ∧ xm_ret M' = none ∧ As = .ref b :: B ∧ S = B.reverse ++ .ref b :: rest ∧ B.length = xm_n M'))
theorem xcall_spec {M M2 : XM} {As As2 rest rest2 : List Value} {h h2 : XH} (hx : xcall M As rest h = some (.inr (.inr (.inr (M2, As2, rest2, h2))))) : M2 = M ∧ As2 = As ∧ rest2 = rest ∧ h2 = h ∧ xle4 rest = true ∧ As.all xc1 = true ∧ As.length ≤ xm_maxL M := by
  unfold xcall at hx
  split at hx
  · next hc => cases hx; exact ⟨rfl, rfl, rfl, rfl, hc⟩
  · cases hx
theorem call_spec {M M' : XM} {i : Instr} {pc : Nat} {L S As rest : List Value} {h h' : XH} (hx : xstep M i pc L S h = some (.inr (.inr (.inr (M', As, rest, h'))))) : h' = h ∧ XCallS M M' i S As rest h := by
  have hi := go_isCall hx
  cases i with
  | invokestatic idx =>
    unfold xstep at hx
    dsimp only at hx
    split at hx
    · next j hj =>
      cases hc : Nat.ble j 3 with
      | false => rw [hc] at hx; cases hx
      | true =>
        rw [hc] at hx
        exact absurd rfl (go_prim (M := M) (P := fun r : XR => r ≠ .inr (.inr (.inr (M', As, rest, h')))) (fun _ _ _ _ _ z => nomatch z) _ hx)
    · split at hx
      · next M2 hm =>
        obtain ⟨hmem, hk1, hk2⟩ := xlk_mem hm
        obtain ⟨hP, hl⟩ := mT_ok _ hmem
        dsimp only at hP hl
        rw [hk1, hk2] at hl
        cases hc : xm_st M2 with
        | false => rw [hc] at hx; cases hx
        | true =>
          rw [hc] at hx
          dsimp only [cond_true] at hx
          split at hx
          · next As2 rest2 hp =>
            obtain ⟨rfl, rfl, rfl, rfl, h1, h2, h3⟩ := xcall_spec hx
            obtain ⟨B, e1, e2, e3⟩ := xpop_spec hp
            rw [List.append_nil] at e1
            subst e1
            exact ⟨rfl, hP, h2, h3, h1, mT_own _ hmem, idx, hl, Or.inl ⟨rfl, hc, e2, e3⟩⟩
          · cases hx
      · cases hx
  | invokevirtual idx =>
    unfold xstep at hx
    dsimp only at hx
    split at hx
    · next j hj =>
      cases hc : (Nat.ble 4 j && Nat.ble j 6) with
      | false => rw [hc] at hx; cases hx
      | true =>
        rw [hc] at hx
        exact absurd rfl (go_prim (M := M) (P := fun r : XR => r ≠ .inr (.inr (.inr (M', As, rest, h')))) (fun _ _ _ _ _ z => nomatch z) _ hx)
    · split at hx
      · next M2 hm =>
        obtain ⟨hmem, hk1, hk2⟩ := xlk_mem hm
        obtain ⟨hP, hl⟩ := mT_ok _ hmem
        dsimp only at hP hl
        rw [hk1, hk2] at hl
        cases hc : (!(xm_st M2) && !((xm_y M2).name == "<init>")) with
        | false => rw [hc] at hx; cases hx
        | true =>
          rw [hc] at hx
          dsimp only [cond_true] at hx
          simp only [Bool.and_eq_true, Bool.not_eq_true', beq_eq_false_iff_ne, ne_eq] at hc
          split at hx
          · next As2 b rest2 hp =>
            split at hx
            · next cj fs hg =>
              cases hc2 : Nat.beq cj (xm_own M2) with
              | false => rw [hc2] at hx; cases hx
              | true =>
                rw [hc2] at hx
                have hcj := Nat.eq_of_beq_eq_true hc2
                subst hcj
                obtain ⟨rfl, rfl, rfl, rfl, h1, h2, h3⟩ := xcall_spec (show xcall _ _ _ _ = _ from hx)
                obtain ⟨B, e1, e2, e3⟩ := xpop_spec hp
                rw [List.append_nil] at e1
                subst e1
                exact ⟨rfl, hP, h2, h3, h1, mT_own _ hmem, idx, hl, Or.inr (Or.inl ⟨b, _, fs, rfl, hc.1, hc.2, rfl, e2, e3, hg⟩)⟩
            · cases hx
          · cases hx
      · cases hx
  | invokespecial idx =>
    unfold xstep at hx
    dsimp only at hx
    split at hx
    · next j hj =>
      cases hc : Nat.beq j 7 with
      | false => rw [hc] at hx; cases hx
      | true =>
        rw [hc] at hx
        exact absurd rfl (go_prim (M := M) (P := fun r : XR => r ≠ .inr (.inr (.inr (M', As, rest, h')))) (fun _ _ _ _ _ z => nomatch z) _ hx)
    · split at hx
      · next M2 hm =>
        obtain ⟨hmem, hk1, hk2⟩ := xlk_mem hm
        obtain ⟨hP, hl⟩ := mT_ok _ hmem
        dsimp only at hP hl
        rw [hk1, hk2] at hl
        cases hc : (!(xm_st M2) && ((xm_y M2).name == "<init>" && ((xm_hh M2).isEmpty && (xm_ret M2).isNone))) with
        | false => rw [hc] at hx; cases hx
        | true =>
          rw [hc] at hx
          dsimp only [cond_true] at hx
          simp only [Bool.and_eq_true, Bool.not_eq_true', beq_iff_eq] at hc
          split at hx
          · next As2 b rest2 hp =>
            obtain ⟨rfl, rfl, rfl, rfl, h1, h2, h3⟩ := xcall_spec (show xcall _ _ _ _ = _ from hx)
            obtain ⟨B, e1, e2, e3⟩ := xpop_spec hp
            rw [List.append_nil] at e1
            subst e1
            exact ⟨rfl, hP, h2, h3, h1, mT_own _ hmem, idx, hl, Or.inr (Or.inr ⟨b, _, rfl, hc.1, hc.2.1, List.isEmpty_iff.mp hc.2.2.1, Option.isNone_iff_eq_none.mp hc.2.2.2, rfl, e2, e3⟩)⟩
          · cases hx
      · cases hx
  | _ => cases hi
