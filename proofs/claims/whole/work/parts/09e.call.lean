section Step
variable {p : Program} {l : Launch} {e : Env} {R : Room} {s : State} {m : MethodId} {args : Array Value} {below : List Frame} {meth : Method} {c : Code} {Q : State → Prop}
variable {M : XM} {A : Nat → Prop} {D : va_G} {aC : Nat → ClassId} {sp : Nat → Nat} {sc : Nat × (Nat → Int32)} {c0 k0 : Nat}
variable {ws : va_W} {L S L' S' : List Value} {h h' : XH} {ls : Array Slot} {st : List Value} {H : Heap} {locs : List Loc} {cells slots : Nat} {pc pc' : Nat}
set_option maxHeartbeats 400000 in
theorem sn_invokestatic {idx : Nat} (C : XC p R s m args meth c M A D aC sp sc) {n : Nat} (hf : xfetch M pc = some (.invokestatic idx, n)) (hx : xstep M (.invokestatic idx) pc L S h = some (.inl (pc', L', S', h'))) (X : XS s A D aC sp sc M c0 k0 ws L S h ls st H locs cells slots) (hroom : h'.2.2.1 ≤ c0 + R.cells ∧ h'.2.2.2.1 ≤ k0 + R.slots) (k : XK p l e R s m args below meth c Q M A D aC sp sc c0 k0 ws pc' L' S' h') : W p l e R s m args below meth c H locs cells slots Q (F0 m pc ls st) := by
  obtain ⟨hexec, hb, hml, hown, hts, hK, hA, hname, hdec, hfr, hlo, hscr, hsr, hao, hsx⟩ := C
  obtain ⟨hm, hn⟩ := xfetch_spec hf
  have hd : decode (xm_cc M) pc = .ok (.invokestatic idx, n) := dec_of hdec hf
  have hls : c.maxLocals = ls.size := hml.trans X.1.1.symm
  obtain rfl : n = 3 := n_of hn rfl (by decide)
  unfold xstep at hx
  dsimp only at hx
  split at hx
  · next j hj =>
    obtain ⟨hmem, hk1, hk2⟩ := xlk_mem hj
    have hl := pT_ok _ hmem
    dsimp only at hl
    rw [hk1, hk2] at hl
    cases hc : Nat.ble j 3 with
    | false => rw [hc] at hx; cases hx
    | true =>
      rw [hc] at hx
      replace hx : xprim M j pc L S h = _ := hx
      match j, hc, hl, hx with
      | 0, _, _, hx => cases hx
      | 1, _, hl, hx =>
        replace hx : (match S with
          | .int y :: .int x :: S => bif xle4 S then nx (pc + 3) L (.int (if x < y then y else x) :: S) h else none
          | _ => none) = _ := hx
        split at hx
        · next y x S0 _ =>
          cases hz : xle4 S0 with
          | false => rw [hz] at hx; cases hx
          | true =>
            rw [hz] at hx
            obtain ⟨rfl, rfl, rfl, rfl⟩ := nx_inj (show nx _ _ _ _ = _ from hx)
            obtain ⟨_, _, rfl, e1, _, _, rfl, e2, hT⟩ := X.2.1
            cases e1; cases e2
            have hw := xle4_cat hz hT
            exact va_mmax hexec hb hls hown (hts _ hl.inT) (hts _ wMaxS.inT) (hts _ wMathI.inT) (hts _ wMaxC.inT) (by omega) (by omega) (by have := hroom.1; have := X.2.2.2.2.2.2.1; omega) (by have := hroom.2; have := X.2.2.2.2.2.2.2.1; omega) hd (k.stk X ⟨_, _, rfl, rfl, hT⟩)
        · cases hx
      | 2, _, hl, hx =>
        replace hx : (match S with
          | .int y :: .int x :: S => bif xle4 S then nx (pc + 3) L (.int (if y < x then y else x) :: S) h else none
          | _ => none) = _ := hx
        split at hx
        · next y x S0 _ =>
          cases hz : xle4 S0 with
          | false => rw [hz] at hx; cases hx
          | true =>
            rw [hz] at hx
            obtain ⟨rfl, rfl, rfl, rfl⟩ := nx_inj (show nx _ _ _ _ = _ from hx)
            obtain ⟨_, _, rfl, e1, _, _, rfl, e2, hT⟩ := X.2.1
            cases e1; cases e2
            have hw := xle4_cat hz hT
            exact va_mmin hexec hb hls hown (hts _ hl.inT) (hts _ wMinS.inT) (hts _ wMathI.inT) (hts _ wMinC.inT) (by omega) (by omega) (by have := hroom.1; have := X.2.2.2.2.2.2.1; omega) (by have := hroom.2; have := X.2.2.2.2.2.2.2.1; omega) hd (k.stk X ⟨_, _, rfl, rfl, hT⟩)
        · cases hx
      | 3, _, hl, hx =>
        replace hx : (match S with
          | .int n :: .int dp :: .ref a :: .int sp :: .ref a0 :: S => bif xle4 S then xcp (hget h a0) (hget h a) sp dp n (fun e => nx (pc + 3) L S (hset h a e)) else none
          | _ => none) = _ := hx
        split at hx
        · next n9 dp a sp9 a0 S0 _ =>
          cases hz : xle4 S0 with
          | false => rw [hz] at hx; cases hx
          | true =>
            rw [hz] at hx
            simp only [cond_true] at hx
            obtain ⟨n0, n1, g0, g1, hg0, hg1, hc1, hc2, hc3, hc4, hc5, hx⟩ := xcp_spec hx
            obtain ⟨rfl, rfl, rfl, rfl⟩ := nx_inj hx
            obtain ⟨_, _, rfl, e1, _, _, rfl, e2, _, _, rfl, e3, _, _, rfl, e4, _, _, rfl, e5, hT⟩ := X.2.1
            cases e1; cases e2; cases e4
            obtain ⟨b0, _, hq0, rfl, _, rfl⟩ := X.2.2.1.ref hg0 e5
            obtain ⟨b, _, hq, rfl, ht9, rfl⟩ := X.2.2.1.ref hg1 e3
            have hw := xle4_cat hz hT
            have hnf : nativeFrameWords "java/lang/System" "arraycopy" 5 ≤ 100 := by decide +kernel
            exact va_copyi hexec hb hls hown (hts _ hl.inT) (hts _ wCpN.inT) (hts _ wCpS.inT) (hts _ wSysI.inT) hK X.2.2.2.1 X.2.2.2.2.1 X.2.2.2.2.2.1 _ _ 0 0 hq0 hq rfl rfl rfl hc1 hc2 hc3 hc4 hc5 (fun _ _ => rfl) (by omega) (by omega) hd fun H1 locs1 q1 q2 q3 =>
              k ls _ H1 locs1 cells slots _ (Ext.set hq) (X.world (Ext.set hq) (hT.mono (Ext.set hq)) (X.2.2.1.set hq ⟨ht9, rfl⟩) q1 q2 q3 X.2.2.2.2.2.2.1 X.2.2.2.2.2.2.2.1 rfl)
        · cases hx
      | j + 4, hc, _, _ => exact absurd (Nat.le_of_ble_eq_true hc) (by omega)
  · split at hx
    · next M' _ =>
      cases hc : xm_st M' with
      | false => rw [hc] at hx; cases hx
      | true =>
        rw [hc] at hx
        replace hx : (match xpop (xm_n M') [] S with
          | some (As, rest) => xcall M' As rest h
          | none => none) = _ := hx
        split at hx
        · exact absurd hx (xcall_ne)
        · cases hx
    · cases hx
set_option maxHeartbeats 400000 in
theorem sn_invokevirtual {idx : Nat} (C : XC p R s m args meth c M A D aC sp sc) {n : Nat} (hf : xfetch M pc = some (.invokevirtual idx, n)) (hx : xstep M (.invokevirtual idx) pc L S h = some (.inl (pc', L', S', h'))) (X : XS s A D aC sp sc M c0 k0 ws L S h ls st H locs cells slots) (hroom : h'.2.2.1 ≤ c0 + R.cells ∧ h'.2.2.2.1 ≤ k0 + R.slots) (k : XK p l e R s m args below meth c Q M A D aC sp sc c0 k0 ws pc' L' S' h') : W p l e R s m args below meth c H locs cells slots Q (F0 m pc ls st) := by
  obtain ⟨hexec, hb, hml, hown, hts, hK, hA, hname, hdec, hfr, hlo, hscr, hsr, hao, hsx⟩ := C
  obtain ⟨hm, hn⟩ := xfetch_spec hf
  have hd : decode (xm_cc M) pc = .ok (.invokevirtual idx, n) := dec_of hdec hf
  have hls : c.maxLocals = ls.size := hml.trans X.1.1.symm
  obtain rfl : n = 3 := n_of hn rfl (by decide)
  unfold xstep at hx
  dsimp only at hx
  split at hx
  · next j hj =>
    obtain ⟨hmem, hk1, hk2⟩ := xlk_mem hj
    have hl := pT_ok _ hmem
    dsimp only at hl
    rw [hk1, hk2] at hl
    cases hc : (Nat.ble 4 j && Nat.ble j 6) with
    | false => rw [hc] at hx; cases hx
    | true =>
      rw [hc] at hx
      exact snv_prim hexec hb hml hown hts hfr hlo hsx hd hl hc hx X hroom k
  · split at hx
    · next M' _ =>
      cases hc : (!(xm_st M') && !((xm_y M').name == "<init>")) with
      | false => rw [hc] at hx; cases hx
      | true =>
        rw [hc] at hx
        dsimp only [cond_true] at hx
        split at hx
        · split at hx
          · next cj _ _ =>
            cases hc2 : Nat.beq cj (xm_own M') with
            | false => rw [hc2] at hx; cases hx
            | true =>
              rw [hc2] at hx
              exact absurd hx xcall_ne
          · cases hx
        · cases hx
    · cases hx
set_option maxHeartbeats 400000 in
theorem sn_invokespecial {idx : Nat} (C : XC p R s m args meth c M A D aC sp sc) {n : Nat} (hf : xfetch M pc = some (.invokespecial idx, n)) (hx : xstep M (.invokespecial idx) pc L S h = some (.inl (pc', L', S', h'))) (X : XS s A D aC sp sc M c0 k0 ws L S h ls st H locs cells slots) (hroom : h'.2.2.1 ≤ c0 + R.cells ∧ h'.2.2.2.1 ≤ k0 + R.slots) (k : XK p l e R s m args below meth c Q M A D aC sp sc c0 k0 ws pc' L' S' h') : W p l e R s m args below meth c H locs cells slots Q (F0 m pc ls st) := by
  obtain ⟨hexec, hb, hml, hown, hts, hK, hA, hname, hdec, hfr, hlo, hscr, hsr, hao, hsx⟩ := C
  obtain ⟨hm, hn⟩ := xfetch_spec hf
  have hd : decode (xm_cc M) pc = .ok (.invokespecial idx, n) := dec_of hdec hf
  have hls : c.maxLocals = ls.size := hml.trans X.1.1.symm
  obtain rfl : n = 3 := n_of hn rfl (by decide)
  unfold xstep at hx
  dsimp only at hx
  split at hx
  · next j hj =>
    obtain ⟨hmem, hk1, hk2⟩ := xlk_mem hj
    have hl := pT_ok _ hmem
    dsimp only at hl
    rw [hk1, hk2] at hl
    cases hc : Nat.beq j 7 with
    | false => rw [hc] at hx; cases hx
    | true =>
      rw [hc] at hx
      have hc := Nat.eq_of_beq_eq_true hc
      subst hc
      replace hx : xprim M 7 pc L S h = _ := hx
      replace hx : (match S with
        | .ref _ :: S => bif xle4 S then nx (pc + 3) L S h else none
        | _ => none) = _ := hx
      split at hx
      · next a S0 =>
        cases hz : xle4 S0 with
        | false => rw [hz] at hx; cases hx
        | true =>
          rw [hz] at hx
          obtain ⟨rfl, rfl, rfl, rfl⟩ := nx_inj (show nx _ _ _ _ = _ from hx)
          obtain ⟨_, _, rfl, e1, hT⟩ := X.2.1
          obtain ⟨b, rfl⟩ := e1.ref
          have hw := xle4_cat hz hT
          exact W.objInit hexec hb hown (hts _ hl.inT) (hts _ wObjI.inT) (hts _ wObjC.inT) rfl hls.symm rfl hd (by omega) (by show 2 * 0 + _ + 12 ≤ _; omega) (W.eq (g2 := F0 m (pc + 3) ls _) rfl (k.stk X hT))
      · cases hx
  · split at hx
    · next M' _ =>
      cases hc : (!(xm_st M') && ((xm_y M').name == "<init>" && ((xm_hh M').isEmpty && (xm_ret M').isNone))) with
      | false => rw [hc] at hx; cases hx
      | true =>
        rw [hc] at hx
        dsimp only [cond_true] at hx
        split at hx
        · exact absurd hx xcall_ne
        · cases hx
    · cases hx
end Step
