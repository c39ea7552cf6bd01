section Step
variable {p : Program} {l : Launch} {e : Env} {R : Room} {s : State} {m : MethodId} {args : Array Value} {below : List Frame} {meth : Method} {c : Code} {Q : State → Prop}
variable {M : XM} {A : Nat → Prop} {D : va_G} {aC : Nat → ClassId} {sp : Nat → Nat} {sc : Nat × (Nat → Int32)} {c0 k0 : Nat}
variable {ws : va_W} {L S L' S' : List Value} {h h' : XH} {ls : Array Slot} {st : List Value} {H : Heap} {locs : List Loc} {cells slots : Nat} {pc pc' : Nat}
set_option maxHeartbeats 400000 in
theorem sn_iconst {z : Int} (C : XC p R s m args meth c M A D aC sp sc) {n : Nat} (hf : xfetch M pc = some (.iconst z, n)) (hx : xstep M (.iconst z) pc L S h = some (.inl (pc', L', S', h'))) (X : XS s A D aC sp sc M c0 k0 ws L S h ls st H locs cells slots) (hroom : h'.2.2.1 ≤ c0 + R.cells ∧ h'.2.2.2.1 ≤ k0 + R.slots) (k : XK p l e R s m args below meth c Q M A D aC sp sc c0 k0 ws pc' L' S' h') : W p l e R s m args below meth c H locs cells slots Q (F0 m pc ls st) := by
  obtain ⟨hexec, hb, hml, hown, hts, hK, hA, hname, hdec, hfr, hlo, hscr, hsr, hao⟩ := C
  obtain ⟨hm, hn⟩ := xfetch_spec hf
  have hd : decode (xm_cc M) pc = .ok (.iconst z, n) := dec_of hdec hf
  have hls : c.maxLocals = ls.size := hml.trans X.1.1.symm
  obtain rfl : n = 1 := n_of hn rfl (by decide)
  obtain ⟨rfl, rfl, rfl, rfl⟩ := nx_inj (show nx _ _ _ _ = _ from hx)
  exact lv_iconst hexec hb hd rfl (k.stk X ⟨_, _, rfl, rfl, X.2.1⟩)
set_option maxHeartbeats 400000 in
theorem sn_iadd  (C : XC p R s m args meth c M A D aC sp sc) {n : Nat} (hf : xfetch M pc = some (.iadd, n)) (hx : xstep M (.iadd) pc L S h = some (.inl (pc', L', S', h'))) (X : XS s A D aC sp sc M c0 k0 ws L S h ls st H locs cells slots) (hroom : h'.2.2.1 ≤ c0 + R.cells ∧ h'.2.2.2.1 ≤ k0 + R.slots) (k : XK p l e R s m args below meth c Q M A D aC sp sc c0 k0 ws pc' L' S' h') : W p l e R s m args below meth c H locs cells slots Q (F0 m pc ls st) := by
  obtain ⟨hexec, hb, hml, hown, hts, hK, hA, hname, hdec, hfr, hlo, hscr, hsr, hao⟩ := C
  obtain ⟨hm, hn⟩ := xfetch_spec hf
  have hd : decode (xm_cc M) pc = .ok (.iadd, n) := dec_of hdec hf
  have hls : c.maxLocals = ls.size := hml.trans X.1.1.symm
  obtain rfl : n = 1 := n_of hn rfl (by decide)
  exact st_ii (show xii _ _ _ _ _ = _ from hx) X k fun x y rest kk => lv_iadd hexec hb hd kk
end Step
