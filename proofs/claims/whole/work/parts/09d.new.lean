section Step
variable {p : Program} {l : Launch} {e : Env} {R : Room} {s : State} {m : MethodId} {args : Array Value} {below : List Frame} {meth : Method} {c : Code} {Q : State → Prop}
variable {M : XM} {A : Nat → Prop} {D : va_G} {aC : Nat → ClassId} {sp : Nat → Nat} {sc : Nat × (Nat → Int32)} {c0 k0 : Nat}
variable {ws : va_W} {L S L' S' : List Value} {h h' : XH} {ls : Array Slot} {st : List Value} {H : Heap} {locs : List Loc} {cells slots : Nat} {pc pc' : Nat}
set_option maxHeartbeats 400000 in
theorem sn_newarray {t : ArrayType} (C : XC p R s m args meth c M A D aC sp sc) {n : Nat} (hf : xfetch M pc = some (.newarray t, n)) (hx : xstep M (.newarray t) pc L S h = some (.inl (pc', L', S', h'))) (X : XS s A D aC sp sc M c0 k0 ws L S h ls st H locs cells slots) (hroom : h'.2.2.1 ≤ c0 + R.cells ∧ h'.2.2.2.1 ≤ k0 + R.slots) (k : XK p l e R s m args below meth c Q M A D aC sp sc c0 k0 ws pc' L' S' h') : W p l e R s m args below meth c H locs cells slots Q (F0 m pc ls st) := by
  obtain ⟨hexec, hb, hml, hown, hts, hK, hA, hname, hdec, hfr, hlo, hscr, hsr, hao, hsx⟩ := C
  obtain ⟨hm, hn⟩ := xfetch_spec hf
  have hd : decode (xm_cc M) pc = .ok (.newarray t, n) := dec_of hdec hf
  have hls : c.maxLocals = ls.size := hml.trans X.1.1.symm
  obtain rfl : n = 2 := n_of hn rfl (by decide)
  replace hx : (match S with
    | .int n :: S => if n < 0 ∨ 10000 < n.toNatClampNeg ∨ 1000000 ≤ h.2.1 then none else (match xarr (xatc t) n.toNatClampNeg with
      | some e => nx (pc + 2) L (.ref h.2.1 :: S) (hnew h e n.toNatClampNeg)
      | none => none)
    | _ => none) = _ := hx
  split at hx
  · next z S0 =>
    split at hx
    · cases hx
    · next hc =>
    obtain ⟨_, _, rfl, e1, hT⟩ := X.2.1
    cases e1
    have hlt : h.2.1 < 1000000 := Nat.not_le.mp fun q => hc (Or.inr (Or.inr q))
    have hsm : z.toNatClampNeg ≤ 10000 := Nat.not_lt.mp fun q => hc (Or.inr (Or.inl q))
    cases t with
    | int =>
      obtain ⟨rfl, rfl, rfl, rfl⟩ := nx_inj (show nx _ _ _ _ = _ from hx)
      refine va_newa (atype := .int) hexec hb (hts _ wArr_int.inT) rfl hK X.2.2.2.1 X.2.2.2.2.1 X.2.2.2.2.2.1 hA (a0 := (z.toNatClampNeg, .inl fun _ => 0)) (fun _ => rfl) (fun q => hc (Or.inl q)) rfl (Nat.le_trans (Nat.mul_le_mul hsm (by decide : _ ≤ 8)) (by decide)) (by have := hroom.1; have := X.2.2.2.2.2.2.1; simp only [hnew] at *; omega) (by have := hroom.2; have := X.2.2.2.2.2.2.2.1; simp only [hnew] at *; omega) hd fun q cA H1 q0 q1 q2 q3 => ?_
      have hcA : cA = aC 0 := by
        have e1 := (q0.2 6 (cA, _) rfl).2
        have e2 := (hK.2 0 (aC 0, _) rfl).2
        exact Option.some.inj (Eq.trans (Eq.symm e1) e2)
      subst hcA
      exact k ls _ H1 locs (cells + 1) _ _ Ext.app (X.world Ext.app ⟨_, _, rfl, Or.inl ⟨hlt, (q, _), by rw [X.2.2.1.1.1]; exact List.getElem?_concat_length, rfl⟩, hT.mono Ext.app⟩ (X.2.2.1.new hlt ⟨by decide, rfl⟩) q1 q2 q3 (by have := X.2.2.2.2.2.2.1; simp only [hnew] at *; omega) (by have := X.2.2.2.2.2.2.2.1; simp only [hnew] at *; omega) rfl)
    | boolean =>
      obtain ⟨rfl, rfl, rfl, rfl⟩ := nx_inj (show nx _ _ _ _ = _ from hx)
      refine va_newa (atype := .boolean) hexec hb (hts _ wArr_boolean.inT) rfl hK X.2.2.2.1 X.2.2.2.2.1 X.2.2.2.2.2.1 hA (a0 := (z.toNatClampNeg, .inl fun _ => 0)) (fun _ => rfl) (fun q => hc (Or.inl q)) rfl (Nat.le_trans (Nat.mul_le_mul hsm (by decide : _ ≤ 8)) (by decide)) (by have := hroom.1; have := X.2.2.2.2.2.2.1; simp only [hnew] at *; omega) (by have := hroom.2; have := X.2.2.2.2.2.2.2.1; simp only [hnew] at *; omega) hd fun q cA H1 q0 q1 q2 q3 => ?_
      have hcA : cA = aC 1 := by
        have e1 := (q0.2 6 (cA, _) rfl).2
        have e2 := (hK.2 1 (aC 1, _) rfl).2
        exact Option.some.inj (Eq.trans (Eq.symm e1) e2)
      subst hcA
      exact k ls _ H1 locs (cells + 1) _ _ Ext.app (X.world Ext.app ⟨_, _, rfl, Or.inl ⟨hlt, (q, _), by rw [X.2.2.1.1.1]; exact List.getElem?_concat_length, rfl⟩, hT.mono Ext.app⟩ (X.2.2.1.new hlt ⟨by decide, rfl⟩) q1 q2 q3 (by have := X.2.2.2.2.2.2.1; simp only [hnew] at *; omega) (by have := X.2.2.2.2.2.2.2.1; simp only [hnew] at *; omega) rfl)
    | char =>
      obtain ⟨rfl, rfl, rfl, rfl⟩ := nx_inj (show nx _ _ _ _ = _ from hx)
      refine va_newa (atype := .char) hexec hb (hts _ wArr_char.inT) rfl hK X.2.2.2.1 X.2.2.2.2.1 X.2.2.2.2.2.1 hA (a0 := (z.toNatClampNeg, .inl fun _ => 0)) (fun _ => rfl) (fun q => hc (Or.inl q)) rfl (Nat.le_trans (Nat.mul_le_mul hsm (by decide : _ ≤ 8)) (by decide)) (by have := hroom.1; have := X.2.2.2.2.2.2.1; simp only [hnew] at *; omega) (by have := hroom.2; have := X.2.2.2.2.2.2.2.1; simp only [hnew] at *; omega) hd fun q cA H1 q0 q1 q2 q3 => ?_
      have hcA : cA = aC 2 := by
        have e1 := (q0.2 6 (cA, _) rfl).2
        have e2 := (hK.2 2 (aC 2, _) rfl).2
        exact Option.some.inj (Eq.trans (Eq.symm e1) e2)
      subst hcA
      exact k ls _ H1 locs (cells + 1) _ _ Ext.app (X.world Ext.app ⟨_, _, rfl, Or.inl ⟨hlt, (q, _), by rw [X.2.2.1.1.1]; exact List.getElem?_concat_length, rfl⟩, hT.mono Ext.app⟩ (X.2.2.1.new hlt ⟨by decide, rfl⟩) q1 q2 q3 (by have := X.2.2.2.2.2.2.1; simp only [hnew] at *; omega) (by have := X.2.2.2.2.2.2.2.1; simp only [hnew] at *; omega) rfl)
    | long =>
      obtain ⟨rfl, rfl, rfl, rfl⟩ := nx_inj (show nx _ _ _ _ = _ from hx)
      refine va_newa (atype := .long) hexec hb (hts _ wArr_long.inT) rfl hK X.2.2.2.1 X.2.2.2.2.1 X.2.2.2.2.2.1 hA (a0 := (z.toNatClampNeg, .inr (.inl fun _ => 0))) (fun _ => rfl) (fun q => hc (Or.inl q)) rfl (Nat.le_trans (Nat.mul_le_mul hsm (by decide : _ ≤ 8)) (by decide)) (by have := hroom.1; have := X.2.2.2.2.2.2.1; simp only [hnew] at *; omega) (by have := hroom.2; have := X.2.2.2.2.2.2.2.1; simp only [hnew] at *; omega) hd fun q cA H1 q0 q1 q2 q3 => ?_
      have hcA : cA = aC 3 := by
        have e1 := (q0.2 6 (cA, _) rfl).2
        have e2 := (hK.2 3 (aC 3, _) rfl).2
        exact Option.some.inj (Eq.trans (Eq.symm e1) e2)
      subst hcA
      exact k ls _ H1 locs (cells + 1) _ _ Ext.app (X.world Ext.app ⟨_, _, rfl, Or.inl ⟨hlt, (q, _), by rw [X.2.2.1.1.1]; exact List.getElem?_concat_length, rfl⟩, hT.mono Ext.app⟩ (X.2.2.1.new hlt ⟨by decide, rfl⟩) q1 q2 q3 (by have := X.2.2.2.2.2.2.1; simp only [hnew] at *; omega) (by have := X.2.2.2.2.2.2.2.1; simp only [hnew] at *; omega) rfl)
    | double =>
      obtain ⟨rfl, rfl, rfl, rfl⟩ := nx_inj (show nx _ _ _ _ = _ from hx)
      refine va_newa (atype := .double) hexec hb (hts _ wArr_double.inT) rfl hK X.2.2.2.1 X.2.2.2.2.1 X.2.2.2.2.2.1 hA (a0 := (z.toNatClampNeg, .inr (.inr (.inr (.inl fun _ => 0))))) (fun _ => rfl) (fun q => hc (Or.inl q)) rfl (Nat.le_trans (Nat.mul_le_mul hsm (by decide : _ ≤ 8)) (by decide)) (by have := hroom.1; have := X.2.2.2.2.2.2.1; simp only [hnew] at *; omega) (by have := hroom.2; have := X.2.2.2.2.2.2.2.1; simp only [hnew] at *; omega) hd fun q cA H1 q0 q1 q2 q3 => ?_
      have hcA : cA = aC 4 := by
        have e1 := (q0.2 6 (cA, _) rfl).2
        have e2 := (hK.2 4 (aC 4, _) rfl).2
        exact Option.some.inj (Eq.trans (Eq.symm e1) e2)
      subst hcA
      exact k ls _ H1 locs (cells + 1) _ _ Ext.app (X.world Ext.app ⟨_, _, rfl, Or.inl ⟨hlt, (q, _), by rw [X.2.2.1.1.1]; exact List.getElem?_concat_length, rfl⟩, hT.mono Ext.app⟩ (X.2.2.1.new hlt ⟨by decide, rfl⟩) q1 q2 q3 (by have := X.2.2.2.2.2.2.1; simp only [hnew] at *; omega) (by have := X.2.2.2.2.2.2.2.1; simp only [hnew] at *; omega) rfl)
    | _ => cases hx
  · cases hx
set_option maxHeartbeats 400000 in
theorem sn_anewarray {idx : Nat} (C : XC p R s m args meth c M A D aC sp sc) {n : Nat} (hf : xfetch M pc = some (.anewarray idx, n)) (hx : xstep M (.anewarray idx) pc L S h = some (.inl (pc', L', S', h'))) (X : XS s A D aC sp sc M c0 k0 ws L S h ls st H locs cells slots) (hroom : h'.2.2.1 ≤ c0 + R.cells ∧ h'.2.2.2.1 ≤ k0 + R.slots) (k : XK p l e R s m args below meth c Q M A D aC sp sc c0 k0 ws pc' L' S' h') : W p l e R s m args below meth c H locs cells slots Q (F0 m pc ls st) := by
  obtain ⟨hexec, hb, hml, hown, hts, hK, hA, hname, hdec, hfr, hlo, hscr, hsr, hao, hsx⟩ := C
  obtain ⟨hm, hn⟩ := xfetch_spec hf
  have hd : decode (xm_cc M) pc = .ok (.anewarray idx, n) := dec_of hdec hf
  have hls : c.maxLocals = ls.size := hml.trans X.1.1.symm
  obtain rfl : n = 3 := n_of hn rfl (by decide)
  replace hx : (match S with
    | .int n :: S => (match xlk cT (xm_own M) idx with
      | some ci => if ci ≠ 5 ∨ n < 0 ∨ 10000 < n.toNatClampNeg ∨ 1000000 ≤ h.2.1 then none else nx (pc + 3) L (.ref h.2.1 :: S) (hnew h (.inl (5, n.toNatClampNeg, .inr (.inr (.inr (.inr fun _ => none))))) n.toNatClampNeg)
      | none => none)
    | _ => none) = _ := hx
  split at hx
  · next z S0 =>
    split at hx
    · next ci hct =>
      split at hx
      · cases hx
      · next hc =>
        have hc5 : ci = 5 := Decidable.not_not.mp fun q => hc (Or.inl q)
        subst hc5
        obtain ⟨hmem, hk1, hk2⟩ := xlk_mem hct
        obtain ⟨r, h2, hr, hcl, _, _⟩ := cT_ok _ hmem
        cases hr
        rw [hk1, hk2] at hcl
        obtain ⟨rfl, rfl, rfl, rfl⟩ := nx_inj hx
        obtain ⟨_, _, rfl, e1, hT⟩ := X.2.1
        cases e1
        have hlt : h.2.1 < 1000000 := Nat.not_le.mp fun q => hc (Or.inr (Or.inr (Or.inr q)))
        have hsm : z.toNatClampNeg ≤ 10000 := Nat.not_lt.mp fun q => hc (Or.inr (Or.inr (Or.inl q)))
        refine va_newq (C := RX4) hexec hb hown (hts _ hcl.inT) hao hK X.2.2.2.1 X.2.2.2.2.1 X.2.2.2.2.2.1 hA (fun q => hc (Or.inr (Or.inl q))) rfl (by omega) (by have := hroom.1; have := X.2.2.2.2.2.2.1; simp only [hnew] at *; omega) (by have := hroom.2; have := X.2.2.2.2.2.2.2.1; simp only [hnew] at *; omega) hd fun q cA H1 q0 q1 q2 q3 => ?_
        have hcA : cA = aC 5 := by
          obtain ⟨_, _, _, _, _, e1⟩ := (q0.2 6 (cA, _) rfl).2
          obtain ⟨_, _, _, _, _, e2⟩ := (hK.2 5 (aC 5, _) rfl).2
          exact Option.some.inj (Eq.trans (Eq.symm e1) e2)
        subst hcA
        exact k ls _ H1 locs (cells + 1) _ _ Ext.app (X.world Ext.app ⟨_, _, rfl, Or.inl ⟨hlt, (q, _), by rw [X.2.2.1.1.1]; exact List.getElem?_concat_length, rfl⟩, hT.mono Ext.app⟩ (X.2.2.1.new hlt ⟨rfl, _, rfl, fun _ => rfl⟩) q1 q2 q3 (by have := X.2.2.2.2.2.2.1; simp only [hnew] at *; omega) (by have := X.2.2.2.2.2.2.2.1; simp only [hnew] at *; omega) rfl)
    · cases hx
  · cases hx
set_option maxHeartbeats 400000 in
theorem sn_new {idx : Nat} (C : XC p R s m args meth c M A D aC sp sc) {n : Nat} (hf : xfetch M pc = some (.new idx, n)) (hx : xstep M (.new idx) pc L S h = some (.inl (pc', L', S', h'))) (X : XS s A D aC sp sc M c0 k0 ws L S h ls st H locs cells slots) (hroom : h'.2.2.1 ≤ c0 + R.cells ∧ h'.2.2.2.1 ≤ k0 + R.slots) (k : XK p l e R s m args below meth c Q M A D aC sp sc c0 k0 ws pc' L' S' h') : W p l e R s m args below meth c H locs cells slots Q (F0 m pc ls st) := by
  obtain ⟨hexec, hb, hml, hown, hts, hK, hA, hname, hdec, hfr, hlo, hscr, hsr, hao, hsx⟩ := C
  obtain ⟨hm, hn⟩ := xfetch_spec hf
  have hd : decode (xm_cc M) pc = .ok (.new idx, n) := dec_of hdec hf
  have hls : c.maxLocals = ls.size := hml.trans X.1.1.symm
  obtain rfl : n = 3 := n_of hn rfl (by decide)
  replace hx : (match xlk cT (xm_own M) idx with
    | some ci => (match vwCl[ci]? with
      | some r => bif Nat.blt h.2.1 1000000 then nx (pc + 3) L (.ref h.2.1 :: S) (hnew h (.inr (ci, xblank ci r.2.2)) r.2.2) else none
      | none => none)
    | none => (match xlk tT (xm_own M) idx with
      | some (E, ic) => bif xle4 S && (Nat.blt (xm_own M) 11 && ((xm_hh M).isEmpty && xthrow M pc E ic)) then some (.inr (.inr (.inl (E, hexc h)))) else none
      | none => none)) = _ := hx
  split at hx
  · next ci hct =>
    split at hx
    · next r hr =>
      obtain ⟨hmem, hk1, hk2⟩ := xlk_mem hct
      obtain ⟨r', h2, hr', hcl, hins, hini⟩ := cT_ok _ hmem
      dsimp only at h2 hr' hcl
      cases hr.symm.trans hr'
      rw [hk1, hk2] at hcl
      cases hc : Nat.blt h.2.1 1000000 with
      | false => rw [hc] at hx; cases hx
      | true =>
        rw [hc] at hx
        have hlt : h.2.1 < 1000000 := Nat.le_of_ble_eq_true hc
        obtain ⟨rfl, rfl, rfl, rfl⟩ := nx_inj (show nx _ _ _ _ = _ from hx)
        obtain ⟨hin, hty, hnm, _, _⟩ := cl_rows ci r h2 hr
        refine va_new (T := r.2.1) (N := r.2.2) (C := r.1) hexec hb hts hin (fty ci) hty hown (hts _ hcl.inT) (hts _ hins.inT) (hts _ hini.inT) hK X.2.2.2.1 X.2.2.2.2.1 X.2.2.2.2.2.1 hA hr (fs := xblank ci r.2.2) (fun j hj => xblank_ok ci _ j hj) (by have := hroom.1; have := X.2.2.2.2.2.2.1; simp only [hnew] at *; omega) (by have := hroom.2; have := X.2.2.2.2.2.2.2.1; simp only [hnew] at *; omega) hd fun q H1 q1 q2 q3 => ?_
        exact k ls _ H1 locs (cells + 1) _ _ Ext.app (X.world Ext.app ⟨_, _, rfl, Or.inl ⟨hlt, (q, _), by rw [X.2.2.1.1.1]; exact List.getElem?_concat_length, rfl⟩, X.2.1.mono Ext.app⟩ (X.2.2.1.new hlt ⟨h2, _, rfl, SR.blank _ _ _ _⟩) q1 q2 q3 (by have := X.2.2.2.2.2.2.1; simp only [hnew] at *; omega) (by have := X.2.2.2.2.2.2.2.1; simp only [hnew] at *; omega) rfl)
    · cases hx
  · split at hx
    · next E ic _ =>
      cases hc : (xle4 S && (Nat.blt (xm_own M) 11 && ((xm_hh M).isEmpty && xthrow M pc E ic))) <;> rw [hc] at hx <;> cases hx
    · cases hx
end Step
