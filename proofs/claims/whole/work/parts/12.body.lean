theorem XRoom_f {d a b : Nat} : (XRoom d a b).frames = d + 7 := rfl
theorem XRoom_l {d a b : Nat} : (XRoom d a b).locals = 60 * d + 260 := rfl
theorem xmP_code {M : XM} (h : xmP M) : XMem (xwcode M) := by
  unfold xwcode
  split
  · next e => exact h.1 e
  · next q t e => rw [← e]; exact h.2.1 (by rw [e]; exact fun z => nomatch z)
theorem xws_pay {M : XM} (h : xmP M) {args : Array Value} {s : State} (hts : ∀ w ∈ XT, w.before args s = true) : ∀ w ∈ xws M, ∀ (a' : Array Value) (U : State), s.WarmedH U.vm → w.before a' U = true := by
  intro w hw a' U hW
  rcases List.mem_cons.mp hw with rfl | hw
  · have h1 := xmP_code h
    exact stab_pay h1.2 (hts _ h1.inT) a' U hW
  · exact stab_pay (List.mem_filter.mp hw).2 (hts _ hw) a' U hW
theorem OVR.st {ws : va_W} {sp : Nat → Nat} {v w : Option Value} {S T : List Value} (h : OVR ws sp v w) (hS : SR ws sp S T) : SR ws sp (v.toList ++ S) (w.toList ++ T) := by
  cases v with
  | none => cases h; exact hS
  | some v =>
    obtain ⟨w', rfl, h⟩ := h
    exact ⟨w', _, rfl, h, hS⟩
section Run
variable {p : Program} {l : Launch} {e : Env} {R : Room} {s : State} {m : MethodId} {args : Array Value} {below : List Frame} {meth : Method} {c : Code} {Q : State → Prop}
variable {M M' : XM} {A : Nat → Prop} {D : va_G} {aC : Nat → ClassId} {sp : Nat → Nat} {sc : Nat × (Nat → Int32)} {c0 k0 : Nat}
variable {ws : va_W} {L S As rest : List Value} {h h2 : XH} {o : XO} {ls : Array Slot} {st : List Value} {H : Heap} {locs : List Loc} {cells slots pc d : Nat}
/-- the goal behind a call that returned -/
def XKr (p : Program) (l : Launch) (e : Env) (R : Room) (s : State) (m : MethodId) (args : Array Value) (below : List Frame) (meth : Method) (c : Code) (Q : State → Prop) (M : XM) (A : Nat → Prop) (D : va_G) (aC : Nat → ClassId) (sp : Nat → Nat) (sc : Nat × (Nat → Int32)) (c0 k0 : Nat) (ws : va_W) (pc : Nat) (L rest : List Value) (ls : Array Slot) (o : XO) (h2 : XH) : Prop :=
  ∀ (v : Option Value) (st1 : List Value) (ws' : va_W) (H1 : Heap) (locs1 : List Loc) (cells1 slots1 : Nat), o = .inl v → Ext ws ws' → XS s A D aC sp sc M c0 k0 ws' L (v.toList ++ rest) h2 ls st1 H1 locs1 cells1 slots1 → W p l e R s m args below meth c H1 locs1 cells1 slots1 Q (F0 m (pc + 3) ls st1)
def XKx (p : Program) (l : Launch) (e : Env) (R : Room) (s : State) (m : MethodId) (args : Array Value) (below : List Frame) (meth : Method) (c : Code) (Q : State → Prop) (M : XM) (A : Nat → Prop) (D : va_G) (aC : Nat → ClassId) (sp : Nat → Nat) (sc : Nat × (Nat → Int32)) (c0 k0 : Nat) (ws : va_W) (pc : Nat) (L rest : List Value) (ls : Array Slot) (o : XO) (h2 : XH) : Prop :=
  ∀ (E : Nat) (st1 : List Value) (ws' : va_W) (H1 : Heap) (locs1 : List Loc) (cells1 slots1 : Nat) (ce : Cell) (q9 : Addr), o = .inr E → Ext ws ws' → XS s A D aC sp sc M c0 k0 ws' L rest h2 ls st1 H1 locs1 cells1 slots1 → H1[q9]? = some ce → ce.vm = .none → s.vm.findClass (EN E) = some ce.cls → vx_W p l e R s m args below meth c H1 locs1 cells1 slots1 Q (F0 m pc ls st1) q9
theorem XPost.back (X : XS s A D aC sp sc M c0 k0 ws L S h ls st H locs cells slots) (sub : ∀ q, va_A ws H.size q → A q) {ws' : va_W} {t st₀ : State} {H1 : Heap} {Ls : List Loc} {S1 st1 : List Value} (hP : XPost D aC sp ws H.size h2 ws' t) (hF : va_F (va_A ws H.size) st₀ t) (h0 : st₀.heap = H) (h1 : t.heap = H1) (hL : ∀ z ∈ Ls, va_A ws H.size z.base) (hg : Ge h h2) (hS : SR ws' sp S1 st1) : XS s A D aC sp sc M c0 k0 ws' L S1 h2 ls st1 H1 (locs ++ Ls) (cells + (h2.2.2.1 - h.2.2.1)) (slots + (h2.2.2.2.1 - h.2.2.2.1)) := by
  obtain ⟨hE, hW, hPP, hDD⟩ := hP
  subst h0
  subst h1
  have hV := X.2.2.2.2.2.1
  refine ⟨X.1.mono hE, hS, hW, hPP, ⟨hDD.1, fun k q hq => sub _ (hDD.2 k q hq)⟩, ⟨Nat.le_trans hV.1 hF.1, fun q q1 q2 => ?_, fun z hz => ?_⟩, ?_, ?_, fun q => hg.2.2.trans (X.2.2.2.2.2.2.2.2 q)⟩
  · rw [hF.2 q (Nat.lt_of_lt_of_le q1 hV.1) (fun z => q2 (sub q z))]
    exact hV.2.1 q q1 q2
  · rcases List.mem_append.mp hz with h | h
    · exact hV.2.2 z h
    · exact sub _ (hL z h)
  · have := hg.1
    have := X.2.2.2.2.2.2.1
    omega
  · have := hg.2.1
    have := X.2.2.2.2.2.2.2.1
    omega
set_option maxHeartbeats 2000000 in
theorem st_call {i : Instr} (C : XC p R s m args meth c M A D aC sp sc) (B : XB A sp s s.heap) (hc : XCallS M M' i S As rest h) (hd : decode (xm_cc M) pc = .ok (i, 3)) (X : XS s A D aC sp sc M c0 k0 ws L S h ls st H locs cells slots) (hM : XMet l M' d As h o h2) (hg : Ge h h2) (hsp : (xm_y M').name = "<init>" → ∃ v, o = .inl v)
    (hfr : d + 8 ≤ R.frames) (hlo : 60 * d + 320 ≤ R.locals) (hrc : h2.2.2.1 ≤ c0 + R.cells) (hrk : h2.2.2.2.1 ≤ k0 + R.slots)
    (kk : XKr p l e R s m args below meth c Q M A D aC sp sc c0 k0 ws pc L rest ls o h2) (kx : XKx p l e R s m args below meth c Q M A D aC sp sc c0 k0 ws pc L rest ls o h2) : W p l e R s m args below meth c H locs cells slots Q (F0 m pc ls st) := by
  obtain ⟨hexec, hb, hml, hown, hts, hK, hA, hname, hdec, _, _, hscr, hsr, _⟩ := C
  obtain ⟨hP, hall, hmx, hx4, _, idx, hlnk, hkind⟩ := hc
  obtain ⟨p1, p2, p3, p4, p5, p6, p7, p8, p9, p10, p11⟩ := hP
  have sub : ∀ q, va_A ws H.size q → A q := fun q hq => hq.elim (fun ⟨k, e, hk⟩ => X.2.2.2.2.1.2 k (q, e) hk) (fun hz => hA q (Nat.le_trans X.2.2.2.2.2.1.1 hz))
  have pre : ∀ U : State, U.heap = H → s.WarmedH U.vm → XPre D aC sp ws H.size U := fun U hU hW => ⟨by rw [hU], by rw [hU]; exact X.2.2.2.1, va_K.moved hW.alike hK, ⟨X.2.2.2.2.1.1, fun _ _ _ => trivial⟩, B.call X.2.2.2.2.2.1 hW hU sub⟩
  have blind : ∀ Bs : List Value, FrameBlind (va_Pc Bs (XPre D aC sp ws H.size)) := fun Bs a U g mk hh => ⟨hh.1, hh.2.calling g mk a⟩
  have hfix : CallFix p m c (xm_cc M) (xm_maxL M) s args XT (RN (xm_own M)) := ⟨hexec, hb, hml, hown, hts⟩
  have e1 := X.2.2.2.2.2.2.1
  have e2 := X.2.2.2.2.2.2.2.1
  have g1 := hg.1
  have g2 := hg.2.1
  have hf : cells + (h2.2.2.1 - h.2.2.1) ≤ R.cells ∧ slots + (h2.2.2.2.1 - h.2.2.2.1) ≤ R.slots := ⟨by omega, by omega⟩
  have hrm : (XRoom d (h2.2.2.1 - h.2.2.1) (h2.2.2.2.1 - h.2.2.2.1)).frames + 1 ≤ R.frames ∧ 8 + (xm_maxL M' + 11) + (XRoom d (h2.2.2.1 - h.2.2.1) (h2.2.2.2.1 - h.2.2.2.1)).locals ≤ R.locals := by
    rw [XRoom_f, XRoom_l]
    omega
  have hpar : ∀ sig, parseMethodDescriptor (xm_y M').desc = some sig → xm_n M' = sig.parameters.length := fun sig hq => by
    have h9 := p7.2.2
    rw [hq] at h9
    exact (Option.some.inj h9).symm
  have hcode := xmP_code ⟨p1, p2, p3, p4, p5, p6, p7, p8, p9, p10, p11⟩
  have hpay := xws_pay ⟨p1, p2, p3, p4, p5, p6, p7, p8, p9, p10, p11⟩ (args := args) (s := s) hts
  have wcode := hts _ hcode.inT
  rcases hkind with ⟨rfl, hst, rfl, hn⟩ | ⟨b, Bv, fs, rfl, hst, hni, rfl, rfl, hn, hgb⟩ | ⟨b, Bv, rfl, hst, hni, hh0, hr0, rfl, rfl, hn⟩
  · obtain ⟨T1, T2, rfl, hT1, hT2⟩ := SR.split X.2.1
    have hB : SR ws sp As T1.reverse := by have := SR.rev hT1; rwa [List.reverse_reverse] at this
    have hw8 := xle4_cat hx4 hT2
    have hMM := hM D aC sp ws H.size T1.reverse hB X.2.2.1
    have run : vx_Run p l e R s m args below meth c H locs cells slots (h2.2.2.1 - h.2.2.1) (h2.2.2.2.1 - h.2.2.2.1) (F0 m pc ls (T1 ++ T2)) T2 (XQ D aC sp ws H.size o h2 T1.reverse.toArray) (XX D aC sp ws H.size o h2) (va_A ws H.size) := by
      cases hh : xm_hh M' with
      | nil =>
        have hwc : xwcode M' = .code (xm_y M') (xm_cc M') (xm_maxL M') (xm_ret M') := by unfold xwcode; rw [hh]
        exact vx_runS (bytes := xm_cc M') (maxL := xm_maxL M') (ret := xm_ret M') (n := xm_n M') hfix hMM ⟨⟨rfl, rfl, hrm.1, hrm.2, hpay, by rw [← hwc]; exact List.mem_cons_self, by rw [← hwc]; exact wcode, hts _ p6.inT, ⟨p7.1, p7.2.1⟩, hpar, hts _ hlnk.inT⟩, hts _ (p3 hst).inT⟩ ⟨blind _, fun U hU hW => ⟨rfl, pre U hU hW⟩⟩ rfl (by rw [List.length_reverse, ← List.length_reverse, List.length_reverse]; rw [← hn, ← hB.len, List.length_reverse]) X.1.1 (by rw [List.reverse_reverse]) (by show 2 * 0 + _ ≤ 8; omega) hd hf
      | cons q t =>
        have hwc : xwcode M' = .codeWith (xm_y M') (xm_cc M') (xm_maxL M') (xm_ret M') (q :: t) := by unfold xwcode; rw [hh]
        exact vx_runSX (bytes := xm_cc M') (maxL := xm_maxL M') (ret := xm_ret M') (hh := q :: t) (n := xm_n M') hfix hMM ⟨⟨rfl, rfl, hrm.1, hrm.2, hpay, by rw [← hwc]; exact List.mem_cons_self⟩, by rw [← hwc]; exact wcode, hts _ p6.inT, ⟨p7.1, p7.2.1⟩, hpar, hts _ hlnk.inT, hts _ (p3 hst).inT⟩ ⟨blind _, fun U hU hW => ⟨rfl, pre U hU hW⟩⟩ rfl (by rw [← hn, ← hB.len, List.length_reverse]) X.1.1 (by rw [List.reverse_reverse]) (by show 2 * 0 + _ ≤ 8; omega) hd hf
    refine vx_callA run (fun E ce q9 st₀ t H1 Ls h0 h1 _ hx hL hce hcv hcl => ?_) (fun v st₀ t H1 Ls h0 h1 _ hq hL => ?_)
    · obtain ⟨k, ws', ho, hE, hPo, hF⟩ := hx
      exact kx k T2 ws' H1 _ _ _ ce q9 ho hPo.1 (hPo.back X sub hF h0 h1 hL hg (hT2.mono hPo.1)) hce hcv (by rw [← hE]; exact hcl)
    · obtain ⟨v', w, ws', ho, hoc, hov, hPo, hF⟩ := hq
      cases hoc
      exact kk v' _ ws' H1 _ _ _ ho hPo.1 (hPo.back X sub hF h0 h1 hL hg (hov.st (hT2.mono hPo.1)))
  · obtain ⟨T1, T2', rfl, hT1, w0, T2, rfl, hw0, hT2⟩ := SR.split X.2.1
    have hB : SR ws sp Bv T1.reverse := by have := SR.rev hT1; rwa [List.reverse_reverse] at this
    have hw8 := xle4_cat hx4 hT2
    obtain ⟨a, _, hq, rfl, h02, gs, rfl, hgs⟩ := X.2.2.1.ref hgb hw0
    have hMM := hM D aC sp ws H.size (.ref a :: T1.reverse) ⟨_, _, rfl, hw0, hB⟩ X.2.2.1
    obtain ⟨r, hr, cell, q1, q2, q3, q4⟩ := X.2.2.2.1 _ _ hq
    obtain ⟨_, _, _, _, hRN⟩ := cl_rows _ r h02 hr
    obtain ⟨_, hfc, _⟩ := hK.1 _ _ hr
    have hcls : s.vm.findClass (xm_y M').cls = some cell.cls := by rw [q2, ← p10, ← hRN]; exact hfc
    have run : vx_Run p l e R s m args below meth c H locs cells slots (h2.2.2.1 - h.2.2.1) (h2.2.2.2.1 - h.2.2.2.1) (F0 m pc ls (T1 ++ .ref a :: T2)) T2 (XQ D aC sp ws H.size o h2 (.ref a :: T1.reverse).toArray) (XX D aC sp ws H.size o h2) (va_A ws H.size) := by
      cases hh : xm_hh M' with
      | nil =>
        have hwc : xwcode M' = .code (xm_y M') (xm_cc M') (xm_maxL M') (xm_ret M') := by unfold xwcode; rw [hh]
        exact vx_runV (C := (xm_y M').cls) (b := a) (As := T1.reverse) (bytes := xm_cc M') (maxL := xm_maxL M') (ret := xm_ret M') (n := xm_n M') hfix hMM ⟨⟨rfl, rfl, hrm.1, hrm.2, hpay, by rw [← hwc]; exact List.mem_cons_self, by rw [← hwc]; exact wcode, hts _ p6.inT, ⟨p7.1, p7.2.1⟩, hpar, hts _ hlnk.inT⟩, hts _ (p4 hst).inT, hts _ (p5 hst hni).inT⟩ ⟨blind _, ⟨cell, q1, by rw [q3]; rfl, hcls⟩, fun U hU hW => ⟨rfl, pre U hU hW⟩⟩ rfl (by rw [← hn, ← hB.len]) X.1.1 (by rw [List.reverse_reverse]) (by show 2 * 0 + _ ≤ 8; omega) hd hf
      | cons q t =>
        have hwc : xwcode M' = .codeWith (xm_y M') (xm_cc M') (xm_maxL M') (xm_ret M') (q :: t) := by unfold xwcode; rw [hh]
        exact vx_runVX (C := (xm_y M').cls) (b := a) (As := T1.reverse) (bytes := xm_cc M') (maxL := xm_maxL M') (ret := xm_ret M') (hh := q :: t) (n := xm_n M') hfix hMM ⟨⟨rfl, rfl, hrm.1, hrm.2, hpay, by rw [← hwc]; exact List.mem_cons_self⟩, by rw [← hwc]; exact wcode, hts _ p6.inT, ⟨p7.1, p7.2.1⟩, hpar, hts _ hlnk.inT, hts _ (p4 hst).inT, hts _ (p5 hst hni).inT⟩ ⟨blind _, ⟨cell, q1, by rw [q3]; rfl, hcls⟩, fun U hU hW => ⟨rfl, pre U hU hW⟩⟩ rfl (by rw [← hn, ← hB.len]) X.1.1 (by rw [List.reverse_reverse]) (by show 2 * 0 + _ ≤ 8; omega) hd hf
    refine vx_callA run (fun E ce q9 st₀ t H1 Ls h0 h1 _ hx hL hce hcv hcl => ?_) (fun v st₀ t H1 Ls h0 h1 _ hq hL => ?_)
    · obtain ⟨k, ws', ho, hE, hPo, hF⟩ := hx
      exact kx k T2 ws' H1 _ _ _ ce q9 ho hPo.1 (hPo.back X sub hF h0 h1 hL hg (hT2.mono hPo.1)) hce hcv (by rw [← hE]; exact hcl)
    · obtain ⟨v', w, ws', ho, hoc, hov, hPo, hF⟩ := hq
      cases hoc
      exact kk v' _ ws' H1 _ _ _ ho hPo.1 (hPo.back X sub hF h0 h1 hL hg (hov.st (hT2.mono hPo.1)))
  · obtain ⟨v0, rfl⟩ := hsp hni
    obtain ⟨T1, T2', rfl, hT1, w0, T2, rfl, hw0, hT2⟩ := SR.split X.2.1
    have hB : SR ws sp Bv T1.reverse := by have := SR.rev hT1; rwa [List.reverse_reverse] at this
    have hw8 := xle4_cat hx4 hT2
    obtain ⟨a, rfl⟩ := hw0.ref
    have hMM := vx_toMet (hM D aC sp ws H.size (.ref a :: T1.reverse) ⟨_, _, rfl, hw0, hB⟩ X.2.2.1) (fun E st t hx => by obtain ⟨k, ws', ho, _⟩ := hx; cases ho)
    have hwc : xwcode M' = .code (xm_y M') (xm_cc M') (xm_maxL M') none := by unfold xwcode; rw [hh0, hr0]
    have run : va_Run p l e R s m args below meth c H locs cells slots (h2.2.2.1 - h.2.2.1) (h2.2.2.2.1 - h.2.2.2.1) (F0 m pc ls (T1 ++ .ref a :: T2)) T2 (XQ D aC sp ws H.size (.inl v0) h2 (.ref a :: T1.reverse).toArray) (va_A ws H.size) :=
      va_runI (b := a) (As := T1.reverse) (bytes := xm_cc M') (maxL := xm_maxL M') (n := xm_n M') hfix hMM ⟨⟨rfl, rfl, hrm.1, hrm.2, hpay, by rw [← hwc]; exact List.mem_cons_self, by rw [← hwc]; exact wcode, hts _ p6.inT, ⟨p7.1, p7.2.1⟩, hpar, hts _ hlnk.inT⟩, hni, hts _ (p4 hst).inT⟩ ⟨blind _, fun U hU hW => ⟨rfl, pre U hU hW⟩⟩ rfl (by rw [← hn, ← hB.len]) X.1.1 (by rw [List.reverse_reverse]) (by show 2 * 0 + _ ≤ 8; omega) hd hf
    refine va_callA run (fun v st₀ t H1 Ls h0 h1 _ hq hL => ?_)
    obtain ⟨v', w, ws', ho, hoc, hov, hPo, hF⟩ := hq
    cases hoc
    exact kk v' _ ws' H1 _ _ _ ho hPo.1 (hPo.back X sub hF h0 h1 hL hg (hov.st (hT2.mono hPo.1)))
end Run
