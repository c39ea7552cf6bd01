section Step
variable {p : Program} {l : Launch} {e : Env} {R : Room} {s : State} {m : MethodId} {args : Array Value} {below : List Frame} {meth : Method} {c : Code} {Q : State → Prop}
variable {M : XM} {A : Nat → Prop} {D : va_G} {aC : Nat → ClassId} {sp : Nat → Nat} {sc : Nat × (Nat → Int32)} {c0 k0 : Nat}
variable {ws : va_W} {L S L' S' : List Value} {h h' : XH} {ls : Array Slot} {st : List Value} {H : Heap} {locs : List Loc} {cells slots : Nat} {pc pc' : Nat}
set_option maxHeartbeats 400000 in
theorem sn_getfield {idx : Nat} (C : XC p R s m args meth c M A D aC sp sc) {n : Nat} (hf : xfetch M pc = some (.getfield idx, n)) (hx : xstep M (.getfield idx) pc L S h = some (.inl (pc', L', S', h'))) (X : XS s A D aC sp sc M c0 k0 ws L S h ls st H locs cells slots) (hroom : h'.2.2.1 ≤ c0 + R.cells ∧ h'.2.2.2.1 ≤ k0 + R.slots) (k : XK p l e R s m args below meth c Q M A D aC sp sc c0 k0 ws pc' L' S' h') : W p l e R s m args below meth c H locs cells slots Q (F0 m pc ls st) := by
  obtain ⟨hexec, hb, hml, hown, hts, hK, hA, hname, hdec, hfr, hlo, hscr, hsr, hao, hsx⟩ := C
  obtain ⟨hm, hn⟩ := xfetch_spec hf
  have hd : decode (xm_cc M) pc = .ok (.getfield idx, n) := dec_of hdec hf
  have hls : c.maxLocals = ls.size := hml.trans X.1.1.symm
  obtain rfl : n = 3 := n_of hn rfl (by decide)
  replace hx : (match S with
    | .ref a :: S => (match xlk fT (xm_own M) idx with
      | some (ci, k, _) => xgf (hget h a) ci k fun v => nx (pc + 3) L (v :: S) h
      | none => none)
    | _ => none) = _ := hx
  split at hx
  · split at hx
    · next ci j nest hft =>
      obtain ⟨hmem, hk1, hk2⟩ := xlk_mem hft
      obtain ⟨r, h2, hr, hj, hl1, hl2⟩ := fT_ok _ hmem
      dsimp only at h2 hr hj hl1 hl2
      rw [hk1, hk2] at hl1 hl2
      obtain ⟨fs, v, hg, hv, hx⟩ := xgf_spec hx
      obtain ⟨rfl, rfl, rfl, rfl⟩ := nx_inj hx
      obtain ⟨_, _, rfl, e1, hT⟩ := X.2.1
      obtain ⟨b, _, hq, rfl, _, gs, rfl, hgs⟩ := X.2.2.1.ref hg e1
      obtain ⟨w, hw, hvw⟩ := hgs.get hv
      obtain ⟨hin, _, _, _, _⟩ := cl_rows ci r h2 hr
      cases nest with
      | false => exact va_get (T := r.2.1) (N := r.2.2) (C := r.1) hexec hb hts hin hown hK X.2.2.2.1 _ hq hr j hj (hts _ (hl1 rfl).inT) (fun _ z => z) hw hd (k.stk X ⟨_, _, rfl, hvw, hT⟩)
      | true => exact va_getN (T := r.2.1) (N := r.2.2) (C := r.1) hexec hb hts hin hown hK X.2.2.2.1 _ hq hr j hj (hts _ (hl2 rfl).inT) (fun _ z => z) hw hd (k.stk X ⟨_, _, rfl, hvw, hT⟩)
    · cases hx
  · cases hx
set_option maxHeartbeats 400000 in
theorem sn_putfield {idx : Nat} (C : XC p R s m args meth c M A D aC sp sc) {n : Nat} (hf : xfetch M pc = some (.putfield idx, n)) (hx : xstep M (.putfield idx) pc L S h = some (.inl (pc', L', S', h'))) (X : XS s A D aC sp sc M c0 k0 ws L S h ls st H locs cells slots) (hroom : h'.2.2.1 ≤ c0 + R.cells ∧ h'.2.2.2.1 ≤ k0 + R.slots) (k : XK p l e R s m args below meth c Q M A D aC sp sc c0 k0 ws pc' L' S' h') : W p l e R s m args below meth c H locs cells slots Q (F0 m pc ls st) := by
  obtain ⟨hexec, hb, hml, hown, hts, hK, hA, hname, hdec, hfr, hlo, hscr, hsr, hao, hsx⟩ := C
  obtain ⟨hm, hn⟩ := xfetch_spec hf
  have hd : decode (xm_cc M) pc = .ok (.putfield idx, n) := dec_of hdec hf
  have hls : c.maxLocals = ls.size := hml.trans X.1.1.symm
  obtain rfl : n = 3 := n_of hn rfl (by decide)
  replace hx : (match S with
    | v :: .ref a :: S => (match xlk fT (xm_own M) idx with
      | some (ci, k, nest) => (match vwCl[ci]? with
        | some r => bif (!(r.2.1 k).2.2.2) || ((!nest) && (xm_y M).name == "<init>" && (Nat.beq (xm_own M) ci)) then xpf (hget h a) ci k v fun e => nx (pc + 3) L S (hset h a e) else none
        | none => none)
      | none => none)
    | _ => none) = _ := hx
  split at hx
  · split at hx
    · next ci j nest hft =>
      split at hx
      · next r hr =>
        obtain ⟨hmem, hk1, hk2⟩ := xlk_mem hft
        obtain ⟨r', h2, hr', hj, hl1, hl2⟩ := fT_ok _ hmem
        dsimp only at h2 hr' hj hl1 hl2
        cases hr.symm.trans hr'
        rw [hk1, hk2] at hl1 hl2
        cases hc : ((!(r.2.1 j).2.2.2) || ((!nest) && (xm_y M).name == "<init>" && (Nat.beq (xm_own M) ci))) with
        | false => rw [hc] at hx; cases hx
        | true =>
          rw [hc] at hx
          simp only [cond_true] at hx
          obtain ⟨fs, hg, hlen, hfit, hx⟩ := xpf_spec hx
          obtain ⟨rfl, rfl, rfl, rfl⟩ := nx_inj hx
          obtain ⟨_, _, rfl, e1, _, _, rfl, e2, hT⟩ := X.2.1
          obtain ⟨b, _, hq, rfl, h02, gs, rfl, hgs⟩ := X.2.2.1.ref hg e2
          obtain ⟨hin, hty, hnm, hdec1, hRN⟩ := cl_rows ci r h2 hr
          obtain ⟨f1, f2⟩ := xfit_spec hfit e1
          have hlen' : j < gs.length := by rw [hgs.len]; exact hlen
          have fin : ∀ (H1 : Heap) (locs1 : List Loc), va_P D vwCl (ws.set _ (b, .inr (ci, gs.set j _))) H1 → va_D A (ws.set _ (b, .inr (ci, gs.set j _))) → va_S A s.heap H1 locs1 → _ := fun H1 locs1 q1 q2 q3 =>
            k ls _ H1 locs1 cells slots _ (Ext.set hq) (X.world (Ext.set hq) (hT.mono (Ext.set hq)) (X.2.2.1.set hq (x := .inr (ci, fs.set j _)) ⟨h02, _, rfl, hgs.setv e1⟩) q1 q2 q3 X.2.2.2.2.2.2.1 X.2.2.2.2.2.2.2.1 rfl)
          cases hfn : (r.2.1 j).2.2.2 with
          | false =>
            cases nest with
            | false => exact va_put (T := r.2.1) (N := r.2.2) (C := r.1) hexec hb hts hin (fty ci) hty hnm hown hK X.2.2.2.1 X.2.2.2.2.1 X.2.2.2.2.2.1 _ hq hr j hj (hts _ (hl1 rfl).inT) (fun _ z => z) hfn (hty j hj) f1 f2 hlen' hd fin
            | true => exact va_putN (T := r.2.1) (N := r.2.2) (C := r.1) hexec hb hts hin (fty ci) hty hnm hown hK X.2.2.2.1 X.2.2.2.2.1 X.2.2.2.2.2.1 _ hq hr j hj (hts _ (hl2 rfl).inT) (fun _ z => z) hfn (hty j hj) f1 f2 hlen' hd fin
          | true =>
            rw [hfn] at hc
            simp only [Bool.not_true, Bool.false_or, Bool.and_eq_true, Bool.not_eq_true', beq_iff_eq] at hc
            obtain ⟨⟨rfl, hi⟩, ho⟩ := hc
            have ho := Nat.eq_of_beq_eq_true ho
            exact va_putF (T := r.2.1) (N := r.2.2) (C := r.1) hexec hb hts hin (fty ci) hty hnm hown hK X.2.2.2.1 X.2.2.2.2.1 X.2.2.2.2.2.1 _ hq hr j hj (hts _ (hl1 rfl).inT) (fun _ z => z) hfn (hname.trans hi) (by rw [hdec1 j hj, hRN, ho]) (hty j hj) f1 f2 hlen' hd fin
      · cases hx
    · cases hx
  · cases hx
set_option maxHeartbeats 400000 in
theorem sn_baload  (C : XC p R s m args meth c M A D aC sp sc) {n : Nat} (hf : xfetch M pc = some (.baload, n)) (hx : xstep M (.baload) pc L S h = some (.inl (pc', L', S', h'))) (X : XS s A D aC sp sc M c0 k0 ws L S h ls st H locs cells slots) (hroom : h'.2.2.1 ≤ c0 + R.cells ∧ h'.2.2.2.1 ≤ k0 + R.slots) (k : XK p l e R s m args below meth c Q M A D aC sp sc c0 k0 ws pc' L' S' h') : W p l e R s m args below meth c H locs cells slots Q (F0 m pc ls st) := by
  obtain ⟨hexec, hb, hml, hown, hts, hK, hA, hname, hdec, hfr, hlo, hscr, hsr, hao, hsx⟩ := C
  obtain ⟨hm, hn⟩ := xfetch_spec hf
  have hd : decode (xm_cc M) pc = .ok (.baload, n) := dec_of hdec hf
  have hls : c.maxLocals = ls.size := hml.trans X.1.1.symm
  obtain rfl : n = 1 := n_of hn rfl (by decide)
  replace hx : (match S with
    | .int i :: .ref a :: S => xga (hget h a) 1 i fun x => nx (pc + 1) L (.int x :: S) h
    | _ => none) = _ := hx
  split at hx
  · obtain ⟨n9, g, hg, hi, hx⟩ := xga_spec hx
    obtain ⟨rfl, rfl, rfl, rfl⟩ := nx_inj hx
    obtain ⟨_, _, rfl, e1, _, _, rfl, e2, hT⟩ := X.2.1
    cases e1
    obtain ⟨b, _, hq, rfl, _, rfl⟩ := X.2.2.1.ref hg e2
    exact va_zald hexec hb hK X.2.2.2.1 _ 1 hq rfl hi hd (k.stk X ⟨_, _, rfl, rfl, hT⟩)
  · cases hx
set_option maxHeartbeats 400000 in
theorem sn_caload  (C : XC p R s m args meth c M A D aC sp sc) {n : Nat} (hf : xfetch M pc = some (.caload, n)) (hx : xstep M (.caload) pc L S h = some (.inl (pc', L', S', h'))) (X : XS s A D aC sp sc M c0 k0 ws L S h ls st H locs cells slots) (hroom : h'.2.2.1 ≤ c0 + R.cells ∧ h'.2.2.2.1 ≤ k0 + R.slots) (k : XK p l e R s m args below meth c Q M A D aC sp sc c0 k0 ws pc' L' S' h') : W p l e R s m args below meth c H locs cells slots Q (F0 m pc ls st) := by
  obtain ⟨hexec, hb, hml, hown, hts, hK, hA, hname, hdec, hfr, hlo, hscr, hsr, hao, hsx⟩ := C
  obtain ⟨hm, hn⟩ := xfetch_spec hf
  have hd : decode (xm_cc M) pc = .ok (.caload, n) := dec_of hdec hf
  have hls : c.maxLocals = ls.size := hml.trans X.1.1.symm
  obtain rfl : n = 1 := n_of hn rfl (by decide)
  replace hx : (match S with
    | .int i :: .ref a :: S => xga (hget h a) 2 i fun x => nx (pc + 1) L (.int x :: S) h
    | _ => none) = _ := hx
  split at hx
  · obtain ⟨n9, g, hg, hi, hx⟩ := xga_spec hx
    obtain ⟨rfl, rfl, rfl, rfl⟩ := nx_inj hx
    obtain ⟨_, _, rfl, e1, _, _, rfl, e2, hT⟩ := X.2.1
    cases e1
    obtain ⟨b, _, hq, rfl, _, rfl⟩ := X.2.2.1.ref hg e2
    exact va_cald hexec hb hK X.2.2.2.1 _ 2 hq rfl hi hd (k.stk X ⟨_, _, rfl, rfl, hT⟩)
  · cases hx
set_option maxHeartbeats 400000 in
theorem sn_laload  (C : XC p R s m args meth c M A D aC sp sc) {n : Nat} (hf : xfetch M pc = some (.laload, n)) (hx : xstep M (.laload) pc L S h = some (.inl (pc', L', S', h'))) (X : XS s A D aC sp sc M c0 k0 ws L S h ls st H locs cells slots) (hroom : h'.2.2.1 ≤ c0 + R.cells ∧ h'.2.2.2.1 ≤ k0 + R.slots) (k : XK p l e R s m args below meth c Q M A D aC sp sc c0 k0 ws pc' L' S' h') : W p l e R s m args below meth c H locs cells slots Q (F0 m pc ls st) := by
  obtain ⟨hexec, hb, hml, hown, hts, hK, hA, hname, hdec, hfr, hlo, hscr, hsr, hao, hsx⟩ := C
  obtain ⟨hm, hn⟩ := xfetch_spec hf
  have hd : decode (xm_cc M) pc = .ok (.laload, n) := dec_of hdec hf
  have hls : c.maxLocals = ls.size := hml.trans X.1.1.symm
  obtain rfl : n = 1 := n_of hn rfl (by decide)
  replace hx : (match S with
    | .int i :: .ref a :: S => xgl (hget h a) i fun x => nx (pc + 1) L (.long x :: S) h
    | _ => none) = _ := hx
  split at hx
  · obtain ⟨n9, g, hg, hi, hx⟩ := xgl_spec hx
    obtain ⟨rfl, rfl, rfl, rfl⟩ := nx_inj hx
    obtain ⟨_, _, rfl, e1, _, _, rfl, e2, hT⟩ := X.2.1
    cases e1
    obtain ⟨b, _, hq, rfl, _, rfl⟩ := X.2.2.1.ref hg e2
    exact va_lald hexec hb hK X.2.2.2.1 _ 3 hq rfl hi hd (k.stk X ⟨_, _, rfl, rfl, hT⟩)
  · cases hx
set_option maxHeartbeats 400000 in
theorem sn_daload  (C : XC p R s m args meth c M A D aC sp sc) {n : Nat} (hf : xfetch M pc = some (.daload, n)) (hx : xstep M (.daload) pc L S h = some (.inl (pc', L', S', h'))) (X : XS s A D aC sp sc M c0 k0 ws L S h ls st H locs cells slots) (hroom : h'.2.2.1 ≤ c0 + R.cells ∧ h'.2.2.2.1 ≤ k0 + R.slots) (k : XK p l e R s m args below meth c Q M A D aC sp sc c0 k0 ws pc' L' S' h') : W p l e R s m args below meth c H locs cells slots Q (F0 m pc ls st) := by
  obtain ⟨hexec, hb, hml, hown, hts, hK, hA, hname, hdec, hfr, hlo, hscr, hsr, hao, hsx⟩ := C
  obtain ⟨hm, hn⟩ := xfetch_spec hf
  have hd : decode (xm_cc M) pc = .ok (.daload, n) := dec_of hdec hf
  have hls : c.maxLocals = ls.size := hml.trans X.1.1.symm
  obtain rfl : n = 1 := n_of hn rfl (by decide)
  replace hx : (match S with
    | .int i :: .ref a :: S => xgd (hget h a) i fun x => nx (pc + 1) L (.double x :: S) h
    | _ => none) = _ := hx
  split at hx
  · obtain ⟨n9, g, hg, hi, hx⟩ := xgd_spec hx
    obtain ⟨rfl, rfl, rfl, rfl⟩ := nx_inj hx
    obtain ⟨_, _, rfl, e1, _, _, rfl, e2, hT⟩ := X.2.1
    cases e1
    obtain ⟨b, _, hq, rfl, _, rfl⟩ := X.2.2.1.ref hg e2
    exact va_dald hexec hb hK X.2.2.2.1 _ 4 hq rfl hi hd (k.stk X ⟨_, _, rfl, rfl, hT⟩)
  · cases hx
set_option maxHeartbeats 400000 in
theorem sn_iaload  (C : XC p R s m args meth c M A D aC sp sc) {n : Nat} (hf : xfetch M pc = some (.iaload, n)) (hx : xstep M (.iaload) pc L S h = some (.inl (pc', L', S', h'))) (X : XS s A D aC sp sc M c0 k0 ws L S h ls st H locs cells slots) (hroom : h'.2.2.1 ≤ c0 + R.cells ∧ h'.2.2.2.1 ≤ k0 + R.slots) (k : XK p l e R s m args below meth c Q M A D aC sp sc c0 k0 ws pc' L' S' h') : W p l e R s m args below meth c H locs cells slots Q (F0 m pc ls st) := by
  obtain ⟨hexec, hb, hml, hown, hts, hK, hA, hname, hdec, hfr, hlo, hscr, hsr, hao, hsx⟩ := C
  obtain ⟨hm, hn⟩ := xfetch_spec hf
  have hd : decode (xm_cc M) pc = .ok (.iaload, n) := dec_of hdec hf
  have hls : c.maxLocals = ls.size := hml.trans X.1.1.symm
  obtain rfl : n = 1 := n_of hn rfl (by decide)
  replace hx : (match S with
    | .int i :: .ref a :: S => bif Nat.beq (xm_own M) 11 && Nat.beq a 2000000 then (if i < 0 ∨ h.2.2.2.2.1 ≤ i.toNatClampNeg then none else nx (pc + 1) L (.int (h.2.2.2.2.2 i.toNatClampNeg) :: S) h)
          else xga (hget h a) 0 i fun x => nx (pc + 1) L (.int x :: S) h
    | _ => none) = _ := hx
  split at hx
  · next i a S0 =>
    cases hc : (Nat.beq (xm_own M) 11 && Nat.beq a 2000000) with
    | false =>
      rw [hc] at hx
      simp only [cond_false] at hx
      obtain ⟨n9, g, hg, hi, hx⟩ := xga_spec hx
      obtain ⟨rfl, rfl, rfl, rfl⟩ := nx_inj hx
      obtain ⟨_, _, rfl, e1, _, _, rfl, e2, hT⟩ := X.2.1
      cases e1
      obtain ⟨b, _, hq, rfl, _, rfl⟩ := X.2.2.1.ref hg e2
      exact va_iald hexec hb hK X.2.2.2.1 _ 0 hq rfl hi hd (k.stk X ⟨_, _, rfl, rfl, hT⟩)
    | true =>
      rw [hc] at hx
      rw [Bool.and_eq_true] at hc
      have ho := Nat.eq_of_beq_eq_true hc.1
      have hc := Nat.eq_of_beq_eq_true hc.2
      subst hc
      replace hx : (if i < 0 ∨ h.2.2.2.2.1 ≤ i.toNatClampNeg then none else nx (pc + 1) L (.int (h.2.2.2.2.2 i.toNatClampNeg) :: S0) h) = _ := hx
      split at hx
      · cases hx
      · next hi =>
        obtain ⟨rfl, rfl, rfl, rfl⟩ := nx_inj hx
        obtain ⟨_, _, rfl, e1, _, _, rfl, e2, hT⟩ := X.2.1
        cases e1
        rcases e2 with ⟨z, _⟩ | ⟨_, rfl⟩
        · exact absurd z (by decide)
        · obtain ⟨b, hb1, hX, hb2, hb3⟩ := hscr ho
          have hsc := X.2.2.2.2.2.2.2.2 ho
          rw [hb1]
          rw [hsc] at hi k
          exact va_sld hexec hb hX hb2 hb3 X.2.2.2.2.2.1 hi hd (k.stk X ⟨_, _, rfl, rfl, hT⟩)
  · cases hx
set_option maxHeartbeats 400000 in
theorem sn_aaload  (C : XC p R s m args meth c M A D aC sp sc) {n : Nat} (hf : xfetch M pc = some (.aaload, n)) (hx : xstep M (.aaload) pc L S h = some (.inl (pc', L', S', h'))) (X : XS s A D aC sp sc M c0 k0 ws L S h ls st H locs cells slots) (hroom : h'.2.2.1 ≤ c0 + R.cells ∧ h'.2.2.2.1 ≤ k0 + R.slots) (k : XK p l e R s m args below meth c Q M A D aC sp sc c0 k0 ws pc' L' S' h') : W p l e R s m args below meth c H locs cells slots Q (F0 m pc ls st) := by
  obtain ⟨hexec, hb, hml, hown, hts, hK, hA, hname, hdec, hfr, hlo, hscr, hsr, hao, hsx⟩ := C
  obtain ⟨hm, hn⟩ := xfetch_spec hf
  have hd : decode (xm_cc M) pc = .ok (.aaload, n) := dec_of hdec hf
  have hls : c.maxLocals = ls.size := hml.trans X.1.1.symm
  obtain rfl : n = 1 := n_of hn rfl (by decide)
  replace hx : (match S with
    | .int i :: .ref a :: S => xgr (hget h a) i fun x => nx (pc + 1) L (va_rf x :: S) h
    | _ => none) = _ := hx
  split at hx
  · next i0 a0 S0 =>
    obtain ⟨n9, g, hg, hi, hx⟩ := xgr_spec hx
    obtain ⟨rfl, rfl, rfl, rfl⟩ := nx_inj hx
    obtain ⟨_, _, rfl, e1, _, _, rfl, e2, hT⟩ := X.2.1
    cases e1
    obtain ⟨b, _, hq, rfl, _, g2, rfl, hg2⟩ := X.2.2.1.ref hg e2
    refine va_aldq hexec hb hK X.2.2.2.1 _ 5 hq rfl hi hd (k.stk X ⟨_, _, rfl, ?_, hT⟩)
    have h9 := hg2 (Int32.toNatClampNeg i0)
    revert h9
    cases g (Int32.toNatClampNeg i0) with
    | none => intro h9; rw [show g2 _ = none from h9]; rfl
    | some a9 =>
      rintro ⟨h8, q, h7, h6⟩
      rw [h6]
      exact Or.inl ⟨h8, q, h7, rfl⟩
  · cases hx
set_option maxHeartbeats 400000 in
theorem sn_iastore  (C : XC p R s m args meth c M A D aC sp sc) {n : Nat} (hf : xfetch M pc = some (.iastore, n)) (hx : xstep M (.iastore) pc L S h = some (.inl (pc', L', S', h'))) (X : XS s A D aC sp sc M c0 k0 ws L S h ls st H locs cells slots) (hroom : h'.2.2.1 ≤ c0 + R.cells ∧ h'.2.2.2.1 ≤ k0 + R.slots) (k : XK p l e R s m args below meth c Q M A D aC sp sc c0 k0 ws pc' L' S' h') : W p l e R s m args below meth c H locs cells slots Q (F0 m pc ls st) := by
  obtain ⟨hexec, hb, hml, hown, hts, hK, hA, hname, hdec, hfr, hlo, hscr, hsr, hao, hsx⟩ := C
  obtain ⟨hm, hn⟩ := xfetch_spec hf
  have hd : decode (xm_cc M) pc = .ok (.iastore, n) := dec_of hdec hf
  have hls : c.maxLocals = ls.size := hml.trans X.1.1.symm
  obtain rfl : n = 1 := n_of hn rfl (by decide)
  replace hx : (match S with
    | .int x :: .int i :: .ref a :: S => xpa (hget h a) 0 i x fun e => nx (pc + 1) L S (hset h a e)
    | _ => none) = _ := hx
  split at hx
  · obtain ⟨n9, g, hg, hi, hx⟩ := xpa_spec hx
    obtain ⟨rfl, rfl, rfl, rfl⟩ := nx_inj hx
    obtain ⟨_, _, rfl, e0, _, _, rfl, e1, _, _, rfl, e2, hT⟩ := X.2.1
    cases e0; cases e1
    obtain ⟨b, _, hq, rfl, ht9, rfl⟩ := X.2.2.1.ref hg e2
    exact va_iast hexec hb hK X.2.2.2.1 X.2.2.2.2.1 X.2.2.2.2.2.1 _ 0 hq rfl hi hd fun H1 locs1 q1 q2 q3 =>
      k ls _ H1 locs1 cells slots _ (Ext.set hq) (X.world (Ext.set hq) (hT.mono (Ext.set hq)) (X.2.2.1.set hq ⟨ht9, rfl⟩) q1 q2 q3 X.2.2.2.2.2.2.1 X.2.2.2.2.2.2.2.1 rfl)
  · cases hx
set_option maxHeartbeats 400000 in
theorem sn_bastore  (C : XC p R s m args meth c M A D aC sp sc) {n : Nat} (hf : xfetch M pc = some (.bastore, n)) (hx : xstep M (.bastore) pc L S h = some (.inl (pc', L', S', h'))) (X : XS s A D aC sp sc M c0 k0 ws L S h ls st H locs cells slots) (hroom : h'.2.2.1 ≤ c0 + R.cells ∧ h'.2.2.2.1 ≤ k0 + R.slots) (k : XK p l e R s m args below meth c Q M A D aC sp sc c0 k0 ws pc' L' S' h') : W p l e R s m args below meth c H locs cells slots Q (F0 m pc ls st) := by
  obtain ⟨hexec, hb, hml, hown, hts, hK, hA, hname, hdec, hfr, hlo, hscr, hsr, hao, hsx⟩ := C
  obtain ⟨hm, hn⟩ := xfetch_spec hf
  have hd : decode (xm_cc M) pc = .ok (.bastore, n) := dec_of hdec hf
  have hls : c.maxLocals = ls.size := hml.trans X.1.1.symm
  obtain rfl : n = 1 := n_of hn rfl (by decide)
  replace hx : (match S with
    | .int x :: .int i :: .ref a :: S => xpa (hget h a) 1 i (vp_nar .boolean x) fun e => nx (pc + 1) L S (hset h a e)
    | _ => none) = _ := hx
  split at hx
  · obtain ⟨n9, g, hg, hi, hx⟩ := xpa_spec hx
    obtain ⟨rfl, rfl, rfl, rfl⟩ := nx_inj hx
    obtain ⟨_, _, rfl, e0, _, _, rfl, e1, _, _, rfl, e2, hT⟩ := X.2.1
    cases e0; cases e1
    obtain ⟨b, _, hq, rfl, ht9, rfl⟩ := X.2.2.1.ref hg e2
    exact va_zast hexec hb hK X.2.2.2.1 X.2.2.2.2.1 X.2.2.2.2.2.1 _ 1 hq rfl hi hd fun H1 locs1 q1 q2 q3 =>
      k ls _ H1 locs1 cells slots _ (Ext.set hq) (X.world (Ext.set hq) (hT.mono (Ext.set hq)) (X.2.2.1.set hq ⟨ht9, rfl⟩) q1 q2 q3 X.2.2.2.2.2.2.1 X.2.2.2.2.2.2.2.1 rfl)
  · cases hx
set_option maxHeartbeats 400000 in
theorem sn_castore  (C : XC p R s m args meth c M A D aC sp sc) {n : Nat} (hf : xfetch M pc = some (.castore, n)) (hx : xstep M (.castore) pc L S h = some (.inl (pc', L', S', h'))) (X : XS s A D aC sp sc M c0 k0 ws L S h ls st H locs cells slots) (hroom : h'.2.2.1 ≤ c0 + R.cells ∧ h'.2.2.2.1 ≤ k0 + R.slots) (k : XK p l e R s m args below meth c Q M A D aC sp sc c0 k0 ws pc' L' S' h') : W p l e R s m args below meth c H locs cells slots Q (F0 m pc ls st) := by
  obtain ⟨hexec, hb, hml, hown, hts, hK, hA, hname, hdec, hfr, hlo, hscr, hsr, hao, hsx⟩ := C
  obtain ⟨hm, hn⟩ := xfetch_spec hf
  have hd : decode (xm_cc M) pc = .ok (.castore, n) := dec_of hdec hf
  have hls : c.maxLocals = ls.size := hml.trans X.1.1.symm
  obtain rfl : n = 1 := n_of hn rfl (by decide)
  replace hx : (match S with
    | .int x :: .int i :: .ref a :: S => xpa (hget h a) 2 i (vp_nar .char x) fun e => nx (pc + 1) L S (hset h a e)
    | _ => none) = _ := hx
  split at hx
  · obtain ⟨n9, g, hg, hi, hx⟩ := xpa_spec hx
    obtain ⟨rfl, rfl, rfl, rfl⟩ := nx_inj hx
    obtain ⟨_, _, rfl, e0, _, _, rfl, e1, _, _, rfl, e2, hT⟩ := X.2.1
    cases e0; cases e1
    obtain ⟨b, _, hq, rfl, ht9, rfl⟩ := X.2.2.1.ref hg e2
    exact va_cast hexec hb hK X.2.2.2.1 X.2.2.2.2.1 X.2.2.2.2.2.1 _ 2 hq rfl hi hd fun H1 locs1 q1 q2 q3 =>
      k ls _ H1 locs1 cells slots _ (Ext.set hq) (X.world (Ext.set hq) (hT.mono (Ext.set hq)) (X.2.2.1.set hq ⟨ht9, rfl⟩) q1 q2 q3 X.2.2.2.2.2.2.1 X.2.2.2.2.2.2.2.1 rfl)
  · cases hx
set_option maxHeartbeats 400000 in
theorem sn_lastore  (C : XC p R s m args meth c M A D aC sp sc) {n : Nat} (hf : xfetch M pc = some (.lastore, n)) (hx : xstep M (.lastore) pc L S h = some (.inl (pc', L', S', h'))) (X : XS s A D aC sp sc M c0 k0 ws L S h ls st H locs cells slots) (hroom : h'.2.2.1 ≤ c0 + R.cells ∧ h'.2.2.2.1 ≤ k0 + R.slots) (k : XK p l e R s m args below meth c Q M A D aC sp sc c0 k0 ws pc' L' S' h') : W p l e R s m args below meth c H locs cells slots Q (F0 m pc ls st) := by
  obtain ⟨hexec, hb, hml, hown, hts, hK, hA, hname, hdec, hfr, hlo, hscr, hsr, hao, hsx⟩ := C
  obtain ⟨hm, hn⟩ := xfetch_spec hf
  have hd : decode (xm_cc M) pc = .ok (.lastore, n) := dec_of hdec hf
  have hls : c.maxLocals = ls.size := hml.trans X.1.1.symm
  obtain rfl : n = 1 := n_of hn rfl (by decide)
  replace hx : (match S with
    | .long x :: .int i :: .ref a :: S => xpl (hget h a) i x fun e => nx (pc + 1) L S (hset h a e)
    | _ => none) = _ := hx
  split at hx
  · obtain ⟨n9, g, hg, hi, hx⟩ := xpl_spec hx
    obtain ⟨rfl, rfl, rfl, rfl⟩ := nx_inj hx
    obtain ⟨_, _, rfl, e0, _, _, rfl, e1, _, _, rfl, e2, hT⟩ := X.2.1
    cases e0; cases e1
    obtain ⟨b, _, hq, rfl, ht9, rfl⟩ := X.2.2.1.ref hg e2
    exact va_last hexec hb hK X.2.2.2.1 X.2.2.2.2.1 X.2.2.2.2.2.1 _ 3 hq rfl hi hd fun H1 locs1 q1 q2 q3 =>
      k ls _ H1 locs1 cells slots _ (Ext.set hq) (X.world (Ext.set hq) (hT.mono (Ext.set hq)) (X.2.2.1.set hq ⟨ht9, rfl⟩) q1 q2 q3 X.2.2.2.2.2.2.1 X.2.2.2.2.2.2.2.1 rfl)
  · cases hx
set_option maxHeartbeats 400000 in
theorem sn_dastore  (C : XC p R s m args meth c M A D aC sp sc) {n : Nat} (hf : xfetch M pc = some (.dastore, n)) (hx : xstep M (.dastore) pc L S h = some (.inl (pc', L', S', h'))) (X : XS s A D aC sp sc M c0 k0 ws L S h ls st H locs cells slots) (hroom : h'.2.2.1 ≤ c0 + R.cells ∧ h'.2.2.2.1 ≤ k0 + R.slots) (k : XK p l e R s m args below meth c Q M A D aC sp sc c0 k0 ws pc' L' S' h') : W p l e R s m args below meth c H locs cells slots Q (F0 m pc ls st) := by
  obtain ⟨hexec, hb, hml, hown, hts, hK, hA, hname, hdec, hfr, hlo, hscr, hsr, hao, hsx⟩ := C
  obtain ⟨hm, hn⟩ := xfetch_spec hf
  have hd : decode (xm_cc M) pc = .ok (.dastore, n) := dec_of hdec hf
  have hls : c.maxLocals = ls.size := hml.trans X.1.1.symm
  obtain rfl : n = 1 := n_of hn rfl (by decide)
  replace hx : (match S with
    | .double x :: .int i :: .ref a :: S => xpd (hget h a) i x fun e => nx (pc + 1) L S (hset h a e)
    | _ => none) = _ := hx
  split at hx
  · obtain ⟨n9, g, hg, hi, hx⟩ := xpd_spec hx
    obtain ⟨rfl, rfl, rfl, rfl⟩ := nx_inj hx
    obtain ⟨_, _, rfl, e0, _, _, rfl, e1, _, _, rfl, e2, hT⟩ := X.2.1
    cases e0; cases e1
    obtain ⟨b, _, hq, rfl, ht9, rfl⟩ := X.2.2.1.ref hg e2
    exact va_dast hexec hb hK X.2.2.2.1 X.2.2.2.2.1 X.2.2.2.2.2.1 _ 4 hq rfl hi hd fun H1 locs1 q1 q2 q3 =>
      k ls _ H1 locs1 cells slots _ (Ext.set hq) (X.world (Ext.set hq) (hT.mono (Ext.set hq)) (X.2.2.1.set hq ⟨ht9, rfl⟩) q1 q2 q3 X.2.2.2.2.2.2.1 X.2.2.2.2.2.2.2.1 rfl)
  · cases hx
set_option maxHeartbeats 400000 in
theorem sn_aastore  (C : XC p R s m args meth c M A D aC sp sc) {n : Nat} (hf : xfetch M pc = some (.aastore, n)) (hx : xstep M (.aastore) pc L S h = some (.inl (pc', L', S', h'))) (X : XS s A D aC sp sc M c0 k0 ws L S h ls st H locs cells slots) (hroom : h'.2.2.1 ≤ c0 + R.cells ∧ h'.2.2.2.1 ≤ k0 + R.slots) (k : XK p l e R s m args below meth c Q M A D aC sp sc c0 k0 ws pc' L' S' h') : W p l e R s m args below meth c H locs cells slots Q (F0 m pc ls st) := by
  obtain ⟨hexec, hb, hml, hown, hts, hK, hA, hname, hdec, hfr, hlo, hscr, hsr, hao, hsx⟩ := C
  obtain ⟨hm, hn⟩ := xfetch_spec hf
  have hd : decode (xm_cc M) pc = .ok (.aastore, n) := dec_of hdec hf
  have hls : c.maxLocals = ls.size := hml.trans X.1.1.symm
  obtain rfl : n = 1 := n_of hn rfl (by decide)
  replace hx : (match S with
    | .ref x :: .int i :: .ref a :: S => (match hget h x with
      | some (.inr (cj, _)) => bif Nat.beq cj 5 then xpr (hget h a) i x fun e => nx (pc + 1) L S (hset h a e) else none
      | _ => none)
    | _ => none) = _ := hx
  split at hx
  · next x i a S0 =>
    split at hx
    · next cj fs0 hg0 =>
      cases hc : Nat.beq cj 5 with
      | false => rw [hc] at hx; cases hx
      | true =>
        rw [hc] at hx
        have hc := Nat.eq_of_beq_eq_true hc
        subst hc
        simp only [cond_true] at hx
        obtain ⟨n9, g, hg, hi, hx⟩ := xpr_spec hx
        obtain ⟨rfl, rfl, rfl, rfl⟩ := nx_inj hx
        obtain ⟨_, _, rfl, e0, _, _, rfl, e1, _, _, rfl, e2, hT⟩ := X.2.1
        cases e1
        obtain ⟨bx, _, hqx, rfl, _, vs, rfl, _⟩ := X.2.2.1.ref hg0 e0
        obtain ⟨b, _, hq, rfl, ht9, g2, rfl, hg2⟩ := X.2.2.1.ref hg e2
        have hlx : x < 1000000 := Nat.lt_of_lt_of_le (List.getElem?_eq_some_iff.mp hqx).1 X.2.2.1.1.2
        refine va_astq (r := (RX4, TX4, 5)) hexec hb hK X.2.2.2.1 X.2.2.2.2.1 X.2.2.2.2.2.1 _ 5 _ 5 hq rfl hqx rfl hi hd fun H1 locs1 q1 q2 q3 => ?_
        refine k ls _ H1 locs1 cells slots _ (Ext.set hq) (X.world (Ext.set hq) (hT.mono (Ext.set hq)) (X.2.2.1.set hq ⟨ht9, _, rfl, fun j => ?_⟩) q1 q2 q3 X.2.2.2.2.2.2.1 X.2.2.2.2.2.2.2.1 rfl)
        unfold va_up
        by_cases hj : j = i.toNatClampNeg
        · rw [if_pos hj, if_pos hj]
          exact ⟨hlx, _, hqx, rfl⟩
        · rw [if_neg hj, if_neg hj]
          exact hg2 j
    · cases hx
  · cases hx
set_option maxHeartbeats 400000 in
theorem sn_arraylength  (C : XC p R s m args meth c M A D aC sp sc) {n : Nat} (hf : xfetch M pc = some (.arraylength, n)) (hx : xstep M (.arraylength) pc L S h = some (.inl (pc', L', S', h'))) (X : XS s A D aC sp sc M c0 k0 ws L S h ls st H locs cells slots) (hroom : h'.2.2.1 ≤ c0 + R.cells ∧ h'.2.2.2.1 ≤ k0 + R.slots) (k : XK p l e R s m args below meth c Q M A D aC sp sc c0 k0 ws pc' L' S' h') : W p l e R s m args below meth c H locs cells slots Q (F0 m pc ls st) := by
  obtain ⟨hexec, hb, hml, hown, hts, hK, hA, hname, hdec, hfr, hlo, hscr, hsr, hao, hsx⟩ := C
  obtain ⟨hm, hn⟩ := xfetch_spec hf
  have hd : decode (xm_cc M) pc = .ok (.arraylength, n) := dec_of hdec hf
  have hls : c.maxLocals = ls.size := hml.trans X.1.1.symm
  obtain rfl : n = 1 := n_of hn rfl (by decide)
  replace hx : (match S with
    | .ref a :: S => xlen M h a fun x => nx (pc + 1) L (.int x :: S) h
    | _ => none) = _ := hx
  split at hx
  · next a S0 =>
    unfold xlen at hx
    cases hc : (Nat.beq (xm_own M) 11 && Nat.beq a 2000000) with
    | false =>
      rw [hc] at hx
      replace hx : (match hget h a with
        | some (.inl (_, n, _)) => nx (pc + 1) L (.int (Int32.ofNat n) :: S0) h
        | _ => none) = _ := hx
      split at hx
      · next t9 n9 a9 hg =>
        obtain ⟨rfl, rfl, rfl, rfl⟩ := nx_inj hx
        obtain ⟨_, _, rfl, e2, hT⟩ := X.2.1
        obtain ⟨b, e9, hq, rfl, hX⟩ := X.2.2.1.ref hg e2
        rcases a9 with f | f | f | f | f
        · obtain ⟨ht9, rfl⟩ := hX
          exact va_alen hexec hb hK X.2.2.2.1 _ t9 hq (xtys_at ht9) rfl hd (k.stk X ⟨_, _, rfl, rfl, hT⟩)
        · obtain ⟨ht9, rfl⟩ := hX
          exact va_alen hexec hb hK X.2.2.2.1 _ t9 hq (xtys_at ht9) rfl hd (k.stk X ⟨_, _, rfl, rfl, hT⟩)
        · obtain ⟨ht9, rfl⟩ := hX
          exact va_alen hexec hb hK X.2.2.2.1 _ t9 hq (xtys_at ht9) rfl hd (k.stk X ⟨_, _, rfl, rfl, hT⟩)
        · obtain ⟨ht9, rfl⟩ := hX
          exact va_alen hexec hb hK X.2.2.2.1 _ t9 hq (xtys_at ht9) rfl hd (k.stk X ⟨_, _, rfl, rfl, hT⟩)
        · obtain ⟨rfl, g2, rfl, _⟩ := hX
          exact va_alen hexec hb hK X.2.2.2.1 _ 5 hq rfl rfl hd (k.stk X ⟨_, _, rfl, rfl, hT⟩)
      · cases hx
    | true =>
      rw [hc] at hx
      rw [Bool.and_eq_true] at hc
      have ho := Nat.eq_of_beq_eq_true hc.1
      have hc := Nat.eq_of_beq_eq_true hc.2
      subst hc
      obtain ⟨rfl, rfl, rfl, rfl⟩ := nx_inj (show nx _ _ _ _ = _ from hx)
      obtain ⟨_, _, rfl, e2, hT⟩ := X.2.1
      rcases e2 with ⟨z, _⟩ | ⟨_, rfl⟩
      · exact absurd z (by decide)
      · obtain ⟨b, hb1, hX, hb2, hb3⟩ := hscr ho
        have hsc := X.2.2.2.2.2.2.2.2 ho
        rw [hb1]
        rw [hsc] at k
        exact va_slen hexec hb hX hb2 hb3 X.2.2.2.2.2.1 hd (k.stk X ⟨_, _, rfl, rfl, hT⟩)
  · cases hx
end Step
