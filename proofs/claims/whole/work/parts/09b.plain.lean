section Step
variable {p : Program} {l : Launch} {e : Env} {R : Room} {s : State} {m : MethodId} {args : Array Value} {below : List Frame} {meth : Method} {c : Code} {Q : State → Prop}
variable {M : XM} {A : Nat → Prop} {D : va_G} {aC : Nat → ClassId} {sp : Nat → Nat} {sc : Nat × (Nat → Int32)} {c0 k0 : Nat}
variable {ws : va_W} {L S L' S' : List Value} {h h' : XH} {ls : Array Slot} {st : List Value} {H : Heap} {locs : List Loc} {cells slots : Nat} {pc pc' : Nat}
set_option maxHeartbeats 400000 in
theorem sn_iconst {z : Int} (C : XC p R s m args meth c M A D aC sp sc) {n : Nat} (hf : xfetch M pc = some (.iconst z, n)) (hx : xstep M (.iconst z) pc L S h = some (.inl (pc', L', S', h'))) (X : XS s A D aC sp sc M c0 k0 ws L S h ls st H locs cells slots) (hroom : h'.2.2.1 ≤ c0 + R.cells ∧ h'.2.2.2.1 ≤ k0 + R.slots) (k : XK p l e R s m args below meth c Q M A D aC sp sc c0 k0 ws pc' L' S' h') : W p l e R s m args below meth c H locs cells slots Q (F0 m pc ls st) := by
  obtain ⟨hexec, hb, hml, hown, hts, hK, hA, hname, hdec, hfr, hlo, hscr, hsr, hao, hsx⟩ := C
  obtain ⟨hm, hn⟩ := xfetch_spec hf
  have hd : decode (xm_cc M) pc = .ok (.iconst z, n) := dec_of hdec hf
  have hls : c.maxLocals = ls.size := hml.trans X.1.1.symm
  obtain rfl : n = 1 := n_of hn rfl (by decide)
  obtain ⟨rfl, rfl, rfl, rfl⟩ := nx_inj (show nx _ _ _ _ = _ from hx)
  exact lv_iconst hexec hb hd rfl (k.stk X ⟨_, _, rfl, rfl, X.2.1⟩)
set_option maxHeartbeats 400000 in
theorem sn_bipush {z : Int} (C : XC p R s m args meth c M A D aC sp sc) {n : Nat} (hf : xfetch M pc = some (.bipush z, n)) (hx : xstep M (.bipush z) pc L S h = some (.inl (pc', L', S', h'))) (X : XS s A D aC sp sc M c0 k0 ws L S h ls st H locs cells slots) (hroom : h'.2.2.1 ≤ c0 + R.cells ∧ h'.2.2.2.1 ≤ k0 + R.slots) (k : XK p l e R s m args below meth c Q M A D aC sp sc c0 k0 ws pc' L' S' h') : W p l e R s m args below meth c H locs cells slots Q (F0 m pc ls st) := by
  obtain ⟨hexec, hb, hml, hown, hts, hK, hA, hname, hdec, hfr, hlo, hscr, hsr, hao, hsx⟩ := C
  obtain ⟨hm, hn⟩ := xfetch_spec hf
  have hd : decode (xm_cc M) pc = .ok (.bipush z, n) := dec_of hdec hf
  have hls : c.maxLocals = ls.size := hml.trans X.1.1.symm
  obtain rfl : n = 2 := n_of hn rfl (by decide)
  obtain ⟨rfl, rfl, rfl, rfl⟩ := nx_inj (show nx _ _ _ _ = _ from hx)
  exact lv_bipush hexec hb hd rfl (k.stk X ⟨_, _, rfl, rfl, X.2.1⟩)
set_option maxHeartbeats 400000 in
theorem sn_sipush {z : Int} (C : XC p R s m args meth c M A D aC sp sc) {n : Nat} (hf : xfetch M pc = some (.sipush z, n)) (hx : xstep M (.sipush z) pc L S h = some (.inl (pc', L', S', h'))) (X : XS s A D aC sp sc M c0 k0 ws L S h ls st H locs cells slots) (hroom : h'.2.2.1 ≤ c0 + R.cells ∧ h'.2.2.2.1 ≤ k0 + R.slots) (k : XK p l e R s m args below meth c Q M A D aC sp sc c0 k0 ws pc' L' S' h') : W p l e R s m args below meth c H locs cells slots Q (F0 m pc ls st) := by
  obtain ⟨hexec, hb, hml, hown, hts, hK, hA, hname, hdec, hfr, hlo, hscr, hsr, hao, hsx⟩ := C
  obtain ⟨hm, hn⟩ := xfetch_spec hf
  have hd : decode (xm_cc M) pc = .ok (.sipush z, n) := dec_of hdec hf
  have hls : c.maxLocals = ls.size := hml.trans X.1.1.symm
  obtain rfl : n = 3 := n_of hn rfl (by decide)
  obtain ⟨rfl, rfl, rfl, rfl⟩ := nx_inj (show nx _ _ _ _ = _ from hx)
  exact lv_sipush hexec hb hd rfl (k.stk X ⟨_, _, rfl, rfl, X.2.1⟩)
set_option maxHeartbeats 400000 in
theorem sn_lconst {z : Fin 2} (C : XC p R s m args meth c M A D aC sp sc) {n : Nat} (hf : xfetch M pc = some (.lconst z, n)) (hx : xstep M (.lconst z) pc L S h = some (.inl (pc', L', S', h'))) (X : XS s A D aC sp sc M c0 k0 ws L S h ls st H locs cells slots) (hroom : h'.2.2.1 ≤ c0 + R.cells ∧ h'.2.2.2.1 ≤ k0 + R.slots) (k : XK p l e R s m args below meth c Q M A D aC sp sc c0 k0 ws pc' L' S' h') : W p l e R s m args below meth c H locs cells slots Q (F0 m pc ls st) := by
  obtain ⟨hexec, hb, hml, hown, hts, hK, hA, hname, hdec, hfr, hlo, hscr, hsr, hao, hsx⟩ := C
  obtain ⟨hm, hn⟩ := xfetch_spec hf
  have hd : decode (xm_cc M) pc = .ok (.lconst z, n) := dec_of hdec hf
  have hls : c.maxLocals = ls.size := hml.trans X.1.1.symm
  obtain rfl : n = 1 := n_of hn rfl (by decide)
  obtain ⟨rfl, rfl, rfl, rfl⟩ := nx_inj (show nx _ _ _ _ = _ from hx)
  exact lv_lconst hexec hb hd rfl (k.stk X ⟨_, _, rfl, rfl, X.2.1⟩)
set_option maxHeartbeats 400000 in
theorem sn_aconst_null  (C : XC p R s m args meth c M A D aC sp sc) {n : Nat} (hf : xfetch M pc = some (.aconst_null, n)) (hx : xstep M (.aconst_null) pc L S h = some (.inl (pc', L', S', h'))) (X : XS s A D aC sp sc M c0 k0 ws L S h ls st H locs cells slots) (hroom : h'.2.2.1 ≤ c0 + R.cells ∧ h'.2.2.2.1 ≤ k0 + R.slots) (k : XK p l e R s m args below meth c Q M A D aC sp sc c0 k0 ws pc' L' S' h') : W p l e R s m args below meth c H locs cells slots Q (F0 m pc ls st) := by
  obtain ⟨hexec, hb, hml, hown, hts, hK, hA, hname, hdec, hfr, hlo, hscr, hsr, hao, hsx⟩ := C
  obtain ⟨hm, hn⟩ := xfetch_spec hf
  have hd : decode (xm_cc M) pc = .ok (.aconst_null, n) := dec_of hdec hf
  have hls : c.maxLocals = ls.size := hml.trans X.1.1.symm
  obtain rfl : n = 1 := n_of hn rfl (by decide)
  obtain ⟨rfl, rfl, rfl, rfl⟩ := nx_inj (show nx _ _ _ _ = _ from hx)
  exact lv_null hexec hb hd (k.stk X ⟨_, _, rfl, rfl, X.2.1⟩)
set_option maxHeartbeats 400000 in
theorem sn_dconst {z : Fin 2} (C : XC p R s m args meth c M A D aC sp sc) {n : Nat} (hf : xfetch M pc = some (.dconst z, n)) (hx : xstep M (.dconst z) pc L S h = some (.inl (pc', L', S', h'))) (X : XS s A D aC sp sc M c0 k0 ws L S h ls st H locs cells slots) (hroom : h'.2.2.1 ≤ c0 + R.cells ∧ h'.2.2.2.1 ≤ k0 + R.slots) (k : XK p l e R s m args below meth c Q M A D aC sp sc c0 k0 ws pc' L' S' h') : W p l e R s m args below meth c H locs cells slots Q (F0 m pc ls st) := by
  obtain ⟨hexec, hb, hml, hown, hts, hK, hA, hname, hdec, hfr, hlo, hscr, hsr, hao, hsx⟩ := C
  obtain ⟨hm, hn⟩ := xfetch_spec hf
  have hd : decode (xm_cc M) pc = .ok (.dconst z, n) := dec_of hdec hf
  have hls : c.maxLocals = ls.size := hml.trans X.1.1.symm
  obtain rfl : n = 1 := n_of hn rfl (by decide)
  match z, hx, hd with
  | 0, hx, hd =>
    obtain ⟨rfl, rfl, rfl, rfl⟩ := nx_inj (show nx _ _ _ _ = _ from hx)
    exact lv_dconst0 hexec hb hd (k.stk X ⟨_, _, rfl, rfl, X.2.1⟩)
  | 1, hx, _ => exact absurd hx (by intro z; cases z)
set_option maxHeartbeats 400000 in
theorem sn_iload_n {z : Fin 4} (C : XC p R s m args meth c M A D aC sp sc) {n : Nat} (hf : xfetch M pc = some (.iload_n z, n)) (hx : xstep M (.iload_n z) pc L S h = some (.inl (pc', L', S', h'))) (X : XS s A D aC sp sc M c0 k0 ws L S h ls st H locs cells slots) (hroom : h'.2.2.1 ≤ c0 + R.cells ∧ h'.2.2.2.1 ≤ k0 + R.slots) (k : XK p l e R s m args below meth c Q M A D aC sp sc c0 k0 ws pc' L' S' h') : W p l e R s m args below meth c H locs cells slots Q (F0 m pc ls st) := by
  obtain ⟨hexec, hb, hml, hown, hts, hK, hA, hname, hdec, hfr, hlo, hscr, hsr, hao, hsx⟩ := C
  obtain ⟨hm, hn⟩ := xfetch_spec hf
  have hd : decode (xm_cc M) pc = .ok (.iload_n z, n) := dec_of hdec hf
  have hls : c.maxLocals = ls.size := hml.trans X.1.1.symm
  obtain rfl : n = 1 := n_of hn rfl (by decide)
  exact st_iload (show xiload _ _ _ _ _ = _ from hx) X k fun x hl kk => lv_iload_n hexec hb hd rfl hl kk
set_option maxHeartbeats 400000 in
theorem sn_iload {z : Nat} (C : XC p R s m args meth c M A D aC sp sc) {n : Nat} (hf : xfetch M pc = some (.iload z, n)) (hx : xstep M (.iload z) pc L S h = some (.inl (pc', L', S', h'))) (X : XS s A D aC sp sc M c0 k0 ws L S h ls st H locs cells slots) (hroom : h'.2.2.1 ≤ c0 + R.cells ∧ h'.2.2.2.1 ≤ k0 + R.slots) (k : XK p l e R s m args below meth c Q M A D aC sp sc c0 k0 ws pc' L' S' h') : W p l e R s m args below meth c H locs cells slots Q (F0 m pc ls st) := by
  obtain ⟨hexec, hb, hml, hown, hts, hK, hA, hname, hdec, hfr, hlo, hscr, hsr, hao, hsx⟩ := C
  obtain ⟨hm, hn⟩ := xfetch_spec hf
  have hd : decode (xm_cc M) pc = .ok (.iload z, n) := dec_of hdec hf
  have hls : c.maxLocals = ls.size := hml.trans X.1.1.symm
  obtain rfl : n = 2 := n_of hn rfl (by decide)
  exact st_iload (show xiload _ _ _ _ _ = _ from hx) X k fun x hl kk => lv_iload hexec hb hd hl kk
set_option maxHeartbeats 400000 in
theorem sn_lload_n {z : Fin 4} (C : XC p R s m args meth c M A D aC sp sc) {n : Nat} (hf : xfetch M pc = some (.lload_n z, n)) (hx : xstep M (.lload_n z) pc L S h = some (.inl (pc', L', S', h'))) (X : XS s A D aC sp sc M c0 k0 ws L S h ls st H locs cells slots) (hroom : h'.2.2.1 ≤ c0 + R.cells ∧ h'.2.2.2.1 ≤ k0 + R.slots) (k : XK p l e R s m args below meth c Q M A D aC sp sc c0 k0 ws pc' L' S' h') : W p l e R s m args below meth c H locs cells slots Q (F0 m pc ls st) := by
  obtain ⟨hexec, hb, hml, hown, hts, hK, hA, hname, hdec, hfr, hlo, hscr, hsr, hao, hsx⟩ := C
  obtain ⟨hm, hn⟩ := xfetch_spec hf
  have hd : decode (xm_cc M) pc = .ok (.lload_n z, n) := dec_of hdec hf
  have hls : c.maxLocals = ls.size := hml.trans X.1.1.symm
  obtain rfl : n = 1 := n_of hn rfl (by decide)
  exact st_lload (show xlload _ _ _ _ _ = _ from hx) X k fun x hl kk => lv_lload_n hexec hb hd rfl hl kk
set_option maxHeartbeats 400000 in
theorem sn_lload {z : Nat} (C : XC p R s m args meth c M A D aC sp sc) {n : Nat} (hf : xfetch M pc = some (.lload z, n)) (hx : xstep M (.lload z) pc L S h = some (.inl (pc', L', S', h'))) (X : XS s A D aC sp sc M c0 k0 ws L S h ls st H locs cells slots) (hroom : h'.2.2.1 ≤ c0 + R.cells ∧ h'.2.2.2.1 ≤ k0 + R.slots) (k : XK p l e R s m args below meth c Q M A D aC sp sc c0 k0 ws pc' L' S' h') : W p l e R s m args below meth c H locs cells slots Q (F0 m pc ls st) := by
  obtain ⟨hexec, hb, hml, hown, hts, hK, hA, hname, hdec, hfr, hlo, hscr, hsr, hao, hsx⟩ := C
  obtain ⟨hm, hn⟩ := xfetch_spec hf
  have hd : decode (xm_cc M) pc = .ok (.lload z, n) := dec_of hdec hf
  have hls : c.maxLocals = ls.size := hml.trans X.1.1.symm
  obtain rfl : n = 2 := n_of hn rfl (by decide)
  exact st_lload (show xlload _ _ _ _ _ = _ from hx) X k fun x hl kk => lv_lload hexec hb hd hl kk
set_option maxHeartbeats 400000 in
theorem sn_dload_n {z : Fin 4} (C : XC p R s m args meth c M A D aC sp sc) {n : Nat} (hf : xfetch M pc = some (.dload_n z, n)) (hx : xstep M (.dload_n z) pc L S h = some (.inl (pc', L', S', h'))) (X : XS s A D aC sp sc M c0 k0 ws L S h ls st H locs cells slots) (hroom : h'.2.2.1 ≤ c0 + R.cells ∧ h'.2.2.2.1 ≤ k0 + R.slots) (k : XK p l e R s m args below meth c Q M A D aC sp sc c0 k0 ws pc' L' S' h') : W p l e R s m args below meth c H locs cells slots Q (F0 m pc ls st) := by
  obtain ⟨hexec, hb, hml, hown, hts, hK, hA, hname, hdec, hfr, hlo, hscr, hsr, hao, hsx⟩ := C
  obtain ⟨hm, hn⟩ := xfetch_spec hf
  have hd : decode (xm_cc M) pc = .ok (.dload_n z, n) := dec_of hdec hf
  have hls : c.maxLocals = ls.size := hml.trans X.1.1.symm
  obtain rfl : n = 1 := n_of hn rfl (by decide)
  exact st_dload (show xdload _ _ _ _ _ = _ from hx) X k fun x hl kk => lv_dload_n hexec hb hd rfl hl kk
set_option maxHeartbeats 400000 in
theorem sn_dload {z : Nat} (C : XC p R s m args meth c M A D aC sp sc) {n : Nat} (hf : xfetch M pc = some (.dload z, n)) (hx : xstep M (.dload z) pc L S h = some (.inl (pc', L', S', h'))) (X : XS s A D aC sp sc M c0 k0 ws L S h ls st H locs cells slots) (hroom : h'.2.2.1 ≤ c0 + R.cells ∧ h'.2.2.2.1 ≤ k0 + R.slots) (k : XK p l e R s m args below meth c Q M A D aC sp sc c0 k0 ws pc' L' S' h') : W p l e R s m args below meth c H locs cells slots Q (F0 m pc ls st) := by
  obtain ⟨hexec, hb, hml, hown, hts, hK, hA, hname, hdec, hfr, hlo, hscr, hsr, hao, hsx⟩ := C
  obtain ⟨hm, hn⟩ := xfetch_spec hf
  have hd : decode (xm_cc M) pc = .ok (.dload z, n) := dec_of hdec hf
  have hls : c.maxLocals = ls.size := hml.trans X.1.1.symm
  obtain rfl : n = 2 := n_of hn rfl (by decide)
  exact st_dload (show xdload _ _ _ _ _ = _ from hx) X k fun x hl kk => lv_dload hexec hb hd hl kk
set_option maxHeartbeats 400000 in
theorem sn_aload_n {z : Fin 4} (C : XC p R s m args meth c M A D aC sp sc) {n : Nat} (hf : xfetch M pc = some (.aload_n z, n)) (hx : xstep M (.aload_n z) pc L S h = some (.inl (pc', L', S', h'))) (X : XS s A D aC sp sc M c0 k0 ws L S h ls st H locs cells slots) (hroom : h'.2.2.1 ≤ c0 + R.cells ∧ h'.2.2.2.1 ≤ k0 + R.slots) (k : XK p l e R s m args below meth c Q M A D aC sp sc c0 k0 ws pc' L' S' h') : W p l e R s m args below meth c H locs cells slots Q (F0 m pc ls st) := by
  obtain ⟨hexec, hb, hml, hown, hts, hK, hA, hname, hdec, hfr, hlo, hscr, hsr, hao, hsx⟩ := C
  obtain ⟨hm, hn⟩ := xfetch_spec hf
  have hd : decode (xm_cc M) pc = .ok (.aload_n z, n) := dec_of hdec hf
  have hls : c.maxLocals = ls.size := hml.trans X.1.1.symm
  obtain rfl : n = 1 := n_of hn rfl (by decide)
  exact st_aload (show xaload _ _ _ _ _ = _ from hx) X k fun x hl kk => lv_aload_n hexec hb hd rfl hl kk
set_option maxHeartbeats 400000 in
theorem sn_aload {z : Nat} (C : XC p R s m args meth c M A D aC sp sc) {n : Nat} (hf : xfetch M pc = some (.aload z, n)) (hx : xstep M (.aload z) pc L S h = some (.inl (pc', L', S', h'))) (X : XS s A D aC sp sc M c0 k0 ws L S h ls st H locs cells slots) (hroom : h'.2.2.1 ≤ c0 + R.cells ∧ h'.2.2.2.1 ≤ k0 + R.slots) (k : XK p l e R s m args below meth c Q M A D aC sp sc c0 k0 ws pc' L' S' h') : W p l e R s m args below meth c H locs cells slots Q (F0 m pc ls st) := by
  obtain ⟨hexec, hb, hml, hown, hts, hK, hA, hname, hdec, hfr, hlo, hscr, hsr, hao, hsx⟩ := C
  obtain ⟨hm, hn⟩ := xfetch_spec hf
  have hd : decode (xm_cc M) pc = .ok (.aload z, n) := dec_of hdec hf
  have hls : c.maxLocals = ls.size := hml.trans X.1.1.symm
  obtain rfl : n = 2 := n_of hn rfl (by decide)
  exact st_aload (show xaload _ _ _ _ _ = _ from hx) X k fun x hl kk => lv_aload hexec hb hd hl kk
set_option maxHeartbeats 400000 in
theorem sn_istore_n {z : Fin 4} (C : XC p R s m args meth c M A D aC sp sc) {n : Nat} (hf : xfetch M pc = some (.istore_n z, n)) (hx : xstep M (.istore_n z) pc L S h = some (.inl (pc', L', S', h'))) (X : XS s A D aC sp sc M c0 k0 ws L S h ls st H locs cells slots) (hroom : h'.2.2.1 ≤ c0 + R.cells ∧ h'.2.2.2.1 ≤ k0 + R.slots) (k : XK p l e R s m args below meth c Q M A D aC sp sc c0 k0 ws pc' L' S' h') : W p l e R s m args below meth c H locs cells slots Q (F0 m pc ls st) := by
  obtain ⟨hexec, hb, hml, hown, hts, hK, hA, hname, hdec, hfr, hlo, hscr, hsr, hao, hsx⟩ := C
  obtain ⟨hm, hn⟩ := xfetch_spec hf
  have hd : decode (xm_cc M) pc = .ok (.istore_n z, n) := dec_of hdec hf
  have hls : c.maxLocals = ls.size := hml.trans X.1.1.symm
  obtain rfl : n = 1 := n_of hn rfl (by decide)
  exact st_istore (show xistore _ _ _ _ _ = _ from hx) X k fun x rest hi hl kk => lv_istore_n hexec hb hd rfl hl hi rfl kk
set_option maxHeartbeats 400000 in
theorem sn_istore {z : Nat} (C : XC p R s m args meth c M A D aC sp sc) {n : Nat} (hf : xfetch M pc = some (.istore z, n)) (hx : xstep M (.istore z) pc L S h = some (.inl (pc', L', S', h'))) (X : XS s A D aC sp sc M c0 k0 ws L S h ls st H locs cells slots) (hroom : h'.2.2.1 ≤ c0 + R.cells ∧ h'.2.2.2.1 ≤ k0 + R.slots) (k : XK p l e R s m args below meth c Q M A D aC sp sc c0 k0 ws pc' L' S' h') : W p l e R s m args below meth c H locs cells slots Q (F0 m pc ls st) := by
  obtain ⟨hexec, hb, hml, hown, hts, hK, hA, hname, hdec, hfr, hlo, hscr, hsr, hao, hsx⟩ := C
  obtain ⟨hm, hn⟩ := xfetch_spec hf
  have hd : decode (xm_cc M) pc = .ok (.istore z, n) := dec_of hdec hf
  have hls : c.maxLocals = ls.size := hml.trans X.1.1.symm
  obtain rfl : n = 2 := n_of hn rfl (by decide)
  exact st_istore (show xistore _ _ _ _ _ = _ from hx) X k fun x rest hi hl kk => lv_istore hexec hb hd hl hi rfl kk
set_option maxHeartbeats 400000 in
theorem sn_astore_n {z : Fin 4} (C : XC p R s m args meth c M A D aC sp sc) {n : Nat} (hf : xfetch M pc = some (.astore_n z, n)) (hx : xstep M (.astore_n z) pc L S h = some (.inl (pc', L', S', h'))) (X : XS s A D aC sp sc M c0 k0 ws L S h ls st H locs cells slots) (hroom : h'.2.2.1 ≤ c0 + R.cells ∧ h'.2.2.2.1 ≤ k0 + R.slots) (k : XK p l e R s m args below meth c Q M A D aC sp sc c0 k0 ws pc' L' S' h') : W p l e R s m args below meth c H locs cells slots Q (F0 m pc ls st) := by
  obtain ⟨hexec, hb, hml, hown, hts, hK, hA, hname, hdec, hfr, hlo, hscr, hsr, hao, hsx⟩ := C
  obtain ⟨hm, hn⟩ := xfetch_spec hf
  have hd : decode (xm_cc M) pc = .ok (.astore_n z, n) := dec_of hdec hf
  have hls : c.maxLocals = ls.size := hml.trans X.1.1.symm
  obtain rfl : n = 1 := n_of hn rfl (by decide)
  exact st_astore (show xastore _ _ _ _ _ = _ from hx) X k fun x rest hi hl kk => lv_astore_n hexec hb hd rfl hl hi rfl kk
set_option maxHeartbeats 400000 in
theorem sn_astore {z : Nat} (C : XC p R s m args meth c M A D aC sp sc) {n : Nat} (hf : xfetch M pc = some (.astore z, n)) (hx : xstep M (.astore z) pc L S h = some (.inl (pc', L', S', h'))) (X : XS s A D aC sp sc M c0 k0 ws L S h ls st H locs cells slots) (hroom : h'.2.2.1 ≤ c0 + R.cells ∧ h'.2.2.2.1 ≤ k0 + R.slots) (k : XK p l e R s m args below meth c Q M A D aC sp sc c0 k0 ws pc' L' S' h') : W p l e R s m args below meth c H locs cells slots Q (F0 m pc ls st) := by
  obtain ⟨hexec, hb, hml, hown, hts, hK, hA, hname, hdec, hfr, hlo, hscr, hsr, hao, hsx⟩ := C
  obtain ⟨hm, hn⟩ := xfetch_spec hf
  have hd : decode (xm_cc M) pc = .ok (.astore z, n) := dec_of hdec hf
  have hls : c.maxLocals = ls.size := hml.trans X.1.1.symm
  obtain rfl : n = 2 := n_of hn rfl (by decide)
  exact st_astore (show xastore _ _ _ _ _ = _ from hx) X k fun x rest hi hl kk => lv_astore hexec hb hd hl hi rfl kk
set_option maxHeartbeats 400000 in
theorem sn_lstore_n {z : Fin 4} (C : XC p R s m args meth c M A D aC sp sc) {n : Nat} (hf : xfetch M pc = some (.lstore_n z, n)) (hx : xstep M (.lstore_n z) pc L S h = some (.inl (pc', L', S', h'))) (X : XS s A D aC sp sc M c0 k0 ws L S h ls st H locs cells slots) (hroom : h'.2.2.1 ≤ c0 + R.cells ∧ h'.2.2.2.1 ≤ k0 + R.slots) (k : XK p l e R s m args below meth c Q M A D aC sp sc c0 k0 ws pc' L' S' h') : W p l e R s m args below meth c H locs cells slots Q (F0 m pc ls st) := by
  obtain ⟨hexec, hb, hml, hown, hts, hK, hA, hname, hdec, hfr, hlo, hscr, hsr, hao, hsx⟩ := C
  obtain ⟨hm, hn⟩ := xfetch_spec hf
  have hd : decode (xm_cc M) pc = .ok (.lstore_n z, n) := dec_of hdec hf
  have hls : c.maxLocals = ls.size := hml.trans X.1.1.symm
  obtain rfl : n = 1 := n_of hn rfl (by decide)
  exact st_lstore (show xlstore _ _ _ _ _ = _ from hx) X k fun x rest hi hl kk => lv_lstore_n hexec hb hd rfl hl hi rfl kk
set_option maxHeartbeats 400000 in
theorem sn_lstore {z : Nat} (C : XC p R s m args meth c M A D aC sp sc) {n : Nat} (hf : xfetch M pc = some (.lstore z, n)) (hx : xstep M (.lstore z) pc L S h = some (.inl (pc', L', S', h'))) (X : XS s A D aC sp sc M c0 k0 ws L S h ls st H locs cells slots) (hroom : h'.2.2.1 ≤ c0 + R.cells ∧ h'.2.2.2.1 ≤ k0 + R.slots) (k : XK p l e R s m args below meth c Q M A D aC sp sc c0 k0 ws pc' L' S' h') : W p l e R s m args below meth c H locs cells slots Q (F0 m pc ls st) := by
  obtain ⟨hexec, hb, hml, hown, hts, hK, hA, hname, hdec, hfr, hlo, hscr, hsr, hao, hsx⟩ := C
  obtain ⟨hm, hn⟩ := xfetch_spec hf
  have hd : decode (xm_cc M) pc = .ok (.lstore z, n) := dec_of hdec hf
  have hls : c.maxLocals = ls.size := hml.trans X.1.1.symm
  obtain rfl : n = 2 := n_of hn rfl (by decide)
  exact st_lstore (show xlstore _ _ _ _ _ = _ from hx) X k fun x rest hi hl kk => lv_lstore hexec hb hd hl hi rfl kk
set_option maxHeartbeats 400000 in
theorem sn_dstore_n {z : Fin 4} (C : XC p R s m args meth c M A D aC sp sc) {n : Nat} (hf : xfetch M pc = some (.dstore_n z, n)) (hx : xstep M (.dstore_n z) pc L S h = some (.inl (pc', L', S', h'))) (X : XS s A D aC sp sc M c0 k0 ws L S h ls st H locs cells slots) (hroom : h'.2.2.1 ≤ c0 + R.cells ∧ h'.2.2.2.1 ≤ k0 + R.slots) (k : XK p l e R s m args below meth c Q M A D aC sp sc c0 k0 ws pc' L' S' h') : W p l e R s m args below meth c H locs cells slots Q (F0 m pc ls st) := by
  obtain ⟨hexec, hb, hml, hown, hts, hK, hA, hname, hdec, hfr, hlo, hscr, hsr, hao, hsx⟩ := C
  obtain ⟨hm, hn⟩ := xfetch_spec hf
  have hd : decode (xm_cc M) pc = .ok (.dstore_n z, n) := dec_of hdec hf
  have hls : c.maxLocals = ls.size := hml.trans X.1.1.symm
  obtain rfl : n = 1 := n_of hn rfl (by decide)
  exact st_dstore (show xdstore _ _ _ _ _ = _ from hx) X k fun x rest hi hl kk => lv_dstore_n hexec hb hd rfl hl hi rfl kk
set_option maxHeartbeats 400000 in
theorem sn_dstore {z : Nat} (C : XC p R s m args meth c M A D aC sp sc) {n : Nat} (hf : xfetch M pc = some (.dstore z, n)) (hx : xstep M (.dstore z) pc L S h = some (.inl (pc', L', S', h'))) (X : XS s A D aC sp sc M c0 k0 ws L S h ls st H locs cells slots) (hroom : h'.2.2.1 ≤ c0 + R.cells ∧ h'.2.2.2.1 ≤ k0 + R.slots) (k : XK p l e R s m args below meth c Q M A D aC sp sc c0 k0 ws pc' L' S' h') : W p l e R s m args below meth c H locs cells slots Q (F0 m pc ls st) := by
  obtain ⟨hexec, hb, hml, hown, hts, hK, hA, hname, hdec, hfr, hlo, hscr, hsr, hao, hsx⟩ := C
  obtain ⟨hm, hn⟩ := xfetch_spec hf
  have hd : decode (xm_cc M) pc = .ok (.dstore z, n) := dec_of hdec hf
  have hls : c.maxLocals = ls.size := hml.trans X.1.1.symm
  obtain rfl : n = 2 := n_of hn rfl (by decide)
  exact st_dstore (show xdstore _ _ _ _ _ = _ from hx) X k fun x rest hi hl kk => lv_dstore hexec hb hd hl hi rfl kk
set_option maxHeartbeats 400000 in
theorem sn_iinc {z : Nat} {y : Int} (C : XC p R s m args meth c M A D aC sp sc) {n : Nat} (hf : xfetch M pc = some (.iinc z y, n)) (hx : xstep M (.iinc z y) pc L S h = some (.inl (pc', L', S', h'))) (X : XS s A D aC sp sc M c0 k0 ws L S h ls st H locs cells slots) (hroom : h'.2.2.1 ≤ c0 + R.cells ∧ h'.2.2.2.1 ≤ k0 + R.slots) (k : XK p l e R s m args below meth c Q M A D aC sp sc c0 k0 ws pc' L' S' h') : W p l e R s m args below meth c H locs cells slots Q (F0 m pc ls st) := by
  obtain ⟨hexec, hb, hml, hown, hts, hK, hA, hname, hdec, hfr, hlo, hscr, hsr, hao, hsx⟩ := C
  obtain ⟨hm, hn⟩ := xfetch_spec hf
  have hd : decode (xm_cc M) pc = .ok (.iinc z y, n) := dec_of hdec hf
  have hls : c.maxLocals = ls.size := hml.trans X.1.1.symm
  obtain rfl : n = 3 := n_of hn rfl (by decide)
  replace hx : xlo L z (fun v => match v with
    | .int x => nx (pc + 3) (xsto1 L z (.int (x + Int32.ofInt y))) S h
    | _ => none) = _ := hx
  unfold xlo at hx
  split at hx
  · next v hv =>
    dsimp only at hx
    split at hx
    · next x =>
      obtain ⟨rfl, rfl, rfl, rfl⟩ := nx_inj hx
      obtain ⟨w, h1, h2⟩ := X.1.at hv (fun _ => by intro z; cases z)
      cases h1
      obtain ⟨j, hj⟩ := List.getElem?_of_mem (lvAll_mem h2)
      have hz : z < xm_maxL M := by rw [← X.1.2.1]; exact (List.getElem?_eq_some_iff.mp hv).1
      refine lv_iinc hexec hb hd (lvAll_has X.1.1 X.1.2.2.1) hj rfl hz rfl fun ls' hl => ?_
      exact k.loc X (X.1.sto1 (Or.inl rfl) hl) X.2.1
    · cases hx
  · cases hx
set_option maxHeartbeats 400000 in
theorem sn_iadd  (C : XC p R s m args meth c M A D aC sp sc) {n : Nat} (hf : xfetch M pc = some (.iadd, n)) (hx : xstep M (.iadd) pc L S h = some (.inl (pc', L', S', h'))) (X : XS s A D aC sp sc M c0 k0 ws L S h ls st H locs cells slots) (hroom : h'.2.2.1 ≤ c0 + R.cells ∧ h'.2.2.2.1 ≤ k0 + R.slots) (k : XK p l e R s m args below meth c Q M A D aC sp sc c0 k0 ws pc' L' S' h') : W p l e R s m args below meth c H locs cells slots Q (F0 m pc ls st) := by
  obtain ⟨hexec, hb, hml, hown, hts, hK, hA, hname, hdec, hfr, hlo, hscr, hsr, hao, hsx⟩ := C
  obtain ⟨hm, hn⟩ := xfetch_spec hf
  have hd : decode (xm_cc M) pc = .ok (.iadd, n) := dec_of hdec hf
  have hls : c.maxLocals = ls.size := hml.trans X.1.1.symm
  obtain rfl : n = 1 := n_of hn rfl (by decide)
  exact st_ii (show xii _ _ _ _ _ = _ from hx) X k fun x y rest kk => lv_iadd hexec hb hd kk
set_option maxHeartbeats 400000 in
theorem sn_isub  (C : XC p R s m args meth c M A D aC sp sc) {n : Nat} (hf : xfetch M pc = some (.isub, n)) (hx : xstep M (.isub) pc L S h = some (.inl (pc', L', S', h'))) (X : XS s A D aC sp sc M c0 k0 ws L S h ls st H locs cells slots) (hroom : h'.2.2.1 ≤ c0 + R.cells ∧ h'.2.2.2.1 ≤ k0 + R.slots) (k : XK p l e R s m args below meth c Q M A D aC sp sc c0 k0 ws pc' L' S' h') : W p l e R s m args below meth c H locs cells slots Q (F0 m pc ls st) := by
  obtain ⟨hexec, hb, hml, hown, hts, hK, hA, hname, hdec, hfr, hlo, hscr, hsr, hao, hsx⟩ := C
  obtain ⟨hm, hn⟩ := xfetch_spec hf
  have hd : decode (xm_cc M) pc = .ok (.isub, n) := dec_of hdec hf
  have hls : c.maxLocals = ls.size := hml.trans X.1.1.symm
  obtain rfl : n = 1 := n_of hn rfl (by decide)
  exact st_ii (show xii _ _ _ _ _ = _ from hx) X k fun x y rest kk => lv_isub hexec hb hd kk
set_option maxHeartbeats 400000 in
theorem sn_imul  (C : XC p R s m args meth c M A D aC sp sc) {n : Nat} (hf : xfetch M pc = some (.imul, n)) (hx : xstep M (.imul) pc L S h = some (.inl (pc', L', S', h'))) (X : XS s A D aC sp sc M c0 k0 ws L S h ls st H locs cells slots) (hroom : h'.2.2.1 ≤ c0 + R.cells ∧ h'.2.2.2.1 ≤ k0 + R.slots) (k : XK p l e R s m args below meth c Q M A D aC sp sc c0 k0 ws pc' L' S' h') : W p l e R s m args below meth c H locs cells slots Q (F0 m pc ls st) := by
  obtain ⟨hexec, hb, hml, hown, hts, hK, hA, hname, hdec, hfr, hlo, hscr, hsr, hao, hsx⟩ := C
  obtain ⟨hm, hn⟩ := xfetch_spec hf
  have hd : decode (xm_cc M) pc = .ok (.imul, n) := dec_of hdec hf
  have hls : c.maxLocals = ls.size := hml.trans X.1.1.symm
  obtain rfl : n = 1 := n_of hn rfl (by decide)
  exact st_ii (show xii _ _ _ _ _ = _ from hx) X k fun x y rest kk => lv_imul hexec hb hd kk
set_option maxHeartbeats 400000 in
theorem sn_iand  (C : XC p R s m args meth c M A D aC sp sc) {n : Nat} (hf : xfetch M pc = some (.iand, n)) (hx : xstep M (.iand) pc L S h = some (.inl (pc', L', S', h'))) (X : XS s A D aC sp sc M c0 k0 ws L S h ls st H locs cells slots) (hroom : h'.2.2.1 ≤ c0 + R.cells ∧ h'.2.2.2.1 ≤ k0 + R.slots) (k : XK p l e R s m args below meth c Q M A D aC sp sc c0 k0 ws pc' L' S' h') : W p l e R s m args below meth c H locs cells slots Q (F0 m pc ls st) := by
  obtain ⟨hexec, hb, hml, hown, hts, hK, hA, hname, hdec, hfr, hlo, hscr, hsr, hao, hsx⟩ := C
  obtain ⟨hm, hn⟩ := xfetch_spec hf
  have hd : decode (xm_cc M) pc = .ok (.iand, n) := dec_of hdec hf
  have hls : c.maxLocals = ls.size := hml.trans X.1.1.symm
  obtain rfl : n = 1 := n_of hn rfl (by decide)
  exact st_ii (show xii _ _ _ _ _ = _ from hx) X k fun x y rest kk => lv_iand hexec hb hd kk
set_option maxHeartbeats 400000 in
theorem sn_ior  (C : XC p R s m args meth c M A D aC sp sc) {n : Nat} (hf : xfetch M pc = some (.ior, n)) (hx : xstep M (.ior) pc L S h = some (.inl (pc', L', S', h'))) (X : XS s A D aC sp sc M c0 k0 ws L S h ls st H locs cells slots) (hroom : h'.2.2.1 ≤ c0 + R.cells ∧ h'.2.2.2.1 ≤ k0 + R.slots) (k : XK p l e R s m args below meth c Q M A D aC sp sc c0 k0 ws pc' L' S' h') : W p l e R s m args below meth c H locs cells slots Q (F0 m pc ls st) := by
  obtain ⟨hexec, hb, hml, hown, hts, hK, hA, hname, hdec, hfr, hlo, hscr, hsr, hao, hsx⟩ := C
  obtain ⟨hm, hn⟩ := xfetch_spec hf
  have hd : decode (xm_cc M) pc = .ok (.ior, n) := dec_of hdec hf
  have hls : c.maxLocals = ls.size := hml.trans X.1.1.symm
  obtain rfl : n = 1 := n_of hn rfl (by decide)
  exact st_ii (show xii _ _ _ _ _ = _ from hx) X k fun x y rest kk => lv_ior hexec hb hd kk
set_option maxHeartbeats 400000 in
theorem sn_ishl  (C : XC p R s m args meth c M A D aC sp sc) {n : Nat} (hf : xfetch M pc = some (.ishl, n)) (hx : xstep M (.ishl) pc L S h = some (.inl (pc', L', S', h'))) (X : XS s A D aC sp sc M c0 k0 ws L S h ls st H locs cells slots) (hroom : h'.2.2.1 ≤ c0 + R.cells ∧ h'.2.2.2.1 ≤ k0 + R.slots) (k : XK p l e R s m args below meth c Q M A D aC sp sc c0 k0 ws pc' L' S' h') : W p l e R s m args below meth c H locs cells slots Q (F0 m pc ls st) := by
  obtain ⟨hexec, hb, hml, hown, hts, hK, hA, hname, hdec, hfr, hlo, hscr, hsr, hao, hsx⟩ := C
  obtain ⟨hm, hn⟩ := xfetch_spec hf
  have hd : decode (xm_cc M) pc = .ok (.ishl, n) := dec_of hdec hf
  have hls : c.maxLocals = ls.size := hml.trans X.1.1.symm
  obtain rfl : n = 1 := n_of hn rfl (by decide)
  exact st_ii (show xii _ _ _ _ _ = _ from hx) X k fun x y rest kk => lv_ishl hexec hb hd kk
set_option maxHeartbeats 400000 in
theorem sn_ishr  (C : XC p R s m args meth c M A D aC sp sc) {n : Nat} (hf : xfetch M pc = some (.ishr, n)) (hx : xstep M (.ishr) pc L S h = some (.inl (pc', L', S', h'))) (X : XS s A D aC sp sc M c0 k0 ws L S h ls st H locs cells slots) (hroom : h'.2.2.1 ≤ c0 + R.cells ∧ h'.2.2.2.1 ≤ k0 + R.slots) (k : XK p l e R s m args below meth c Q M A D aC sp sc c0 k0 ws pc' L' S' h') : W p l e R s m args below meth c H locs cells slots Q (F0 m pc ls st) := by
  obtain ⟨hexec, hb, hml, hown, hts, hK, hA, hname, hdec, hfr, hlo, hscr, hsr, hao, hsx⟩ := C
  obtain ⟨hm, hn⟩ := xfetch_spec hf
  have hd : decode (xm_cc M) pc = .ok (.ishr, n) := dec_of hdec hf
  have hls : c.maxLocals = ls.size := hml.trans X.1.1.symm
  obtain rfl : n = 1 := n_of hn rfl (by decide)
  exact st_ii (show xii _ _ _ _ _ = _ from hx) X k fun x y rest kk => lv_ishr hexec hb hd kk
set_option maxHeartbeats 400000 in
theorem sn_land  (C : XC p R s m args meth c M A D aC sp sc) {n : Nat} (hf : xfetch M pc = some (.land, n)) (hx : xstep M (.land) pc L S h = some (.inl (pc', L', S', h'))) (X : XS s A D aC sp sc M c0 k0 ws L S h ls st H locs cells slots) (hroom : h'.2.2.1 ≤ c0 + R.cells ∧ h'.2.2.2.1 ≤ k0 + R.slots) (k : XK p l e R s m args below meth c Q M A D aC sp sc c0 k0 ws pc' L' S' h') : W p l e R s m args below meth c H locs cells slots Q (F0 m pc ls st) := by
  obtain ⟨hexec, hb, hml, hown, hts, hK, hA, hname, hdec, hfr, hlo, hscr, hsr, hao, hsx⟩ := C
  obtain ⟨hm, hn⟩ := xfetch_spec hf
  have hd : decode (xm_cc M) pc = .ok (.land, n) := dec_of hdec hf
  have hls : c.maxLocals = ls.size := hml.trans X.1.1.symm
  obtain rfl : n = 1 := n_of hn rfl (by decide)
  exact st_ll (show xll _ _ _ _ _ = _ from hx) X k fun x y rest kk => lv_land hexec hb hd kk
set_option maxHeartbeats 400000 in
theorem sn_lor  (C : XC p R s m args meth c M A D aC sp sc) {n : Nat} (hf : xfetch M pc = some (.lor, n)) (hx : xstep M (.lor) pc L S h = some (.inl (pc', L', S', h'))) (X : XS s A D aC sp sc M c0 k0 ws L S h ls st H locs cells slots) (hroom : h'.2.2.1 ≤ c0 + R.cells ∧ h'.2.2.2.1 ≤ k0 + R.slots) (k : XK p l e R s m args below meth c Q M A D aC sp sc c0 k0 ws pc' L' S' h') : W p l e R s m args below meth c H locs cells slots Q (F0 m pc ls st) := by
  obtain ⟨hexec, hb, hml, hown, hts, hK, hA, hname, hdec, hfr, hlo, hscr, hsr, hao, hsx⟩ := C
  obtain ⟨hm, hn⟩ := xfetch_spec hf
  have hd : decode (xm_cc M) pc = .ok (.lor, n) := dec_of hdec hf
  have hls : c.maxLocals = ls.size := hml.trans X.1.1.symm
  obtain rfl : n = 1 := n_of hn rfl (by decide)
  exact st_ll (show xll _ _ _ _ _ = _ from hx) X k fun x y rest kk => lv_lor hexec hb hd kk
set_option maxHeartbeats 400000 in
theorem sn_lshl  (C : XC p R s m args meth c M A D aC sp sc) {n : Nat} (hf : xfetch M pc = some (.lshl, n)) (hx : xstep M (.lshl) pc L S h = some (.inl (pc', L', S', h'))) (X : XS s A D aC sp sc M c0 k0 ws L S h ls st H locs cells slots) (hroom : h'.2.2.1 ≤ c0 + R.cells ∧ h'.2.2.2.1 ≤ k0 + R.slots) (k : XK p l e R s m args below meth c Q M A D aC sp sc c0 k0 ws pc' L' S' h') : W p l e R s m args below meth c H locs cells slots Q (F0 m pc ls st) := by
  obtain ⟨hexec, hb, hml, hown, hts, hK, hA, hname, hdec, hfr, hlo, hscr, hsr, hao, hsx⟩ := C
  obtain ⟨hm, hn⟩ := xfetch_spec hf
  have hd : decode (xm_cc M) pc = .ok (.lshl, n) := dec_of hdec hf
  have hls : c.maxLocals = ls.size := hml.trans X.1.1.symm
  obtain rfl : n = 1 := n_of hn rfl (by decide)
  exact st_li (show xli _ _ _ _ _ = _ from hx) X k fun x y rest kk => lv_lshl hexec hb hd rfl kk
set_option maxHeartbeats 400000 in
theorem sn_lshr  (C : XC p R s m args meth c M A D aC sp sc) {n : Nat} (hf : xfetch M pc = some (.lshr, n)) (hx : xstep M (.lshr) pc L S h = some (.inl (pc', L', S', h'))) (X : XS s A D aC sp sc M c0 k0 ws L S h ls st H locs cells slots) (hroom : h'.2.2.1 ≤ c0 + R.cells ∧ h'.2.2.2.1 ≤ k0 + R.slots) (k : XK p l e R s m args below meth c Q M A D aC sp sc c0 k0 ws pc' L' S' h') : W p l e R s m args below meth c H locs cells slots Q (F0 m pc ls st) := by
  obtain ⟨hexec, hb, hml, hown, hts, hK, hA, hname, hdec, hfr, hlo, hscr, hsr, hao, hsx⟩ := C
  obtain ⟨hm, hn⟩ := xfetch_spec hf
  have hd : decode (xm_cc M) pc = .ok (.lshr, n) := dec_of hdec hf
  have hls : c.maxLocals = ls.size := hml.trans X.1.1.symm
  obtain rfl : n = 1 := n_of hn rfl (by decide)
  exact st_li (show xli _ _ _ _ _ = _ from hx) X k fun x y rest kk => lv_lshr hexec hb hd rfl kk
set_option maxHeartbeats 400000 in
theorem sn_lcmp  (C : XC p R s m args meth c M A D aC sp sc) {n : Nat} (hf : xfetch M pc = some (.lcmp, n)) (hx : xstep M (.lcmp) pc L S h = some (.inl (pc', L', S', h'))) (X : XS s A D aC sp sc M c0 k0 ws L S h ls st H locs cells slots) (hroom : h'.2.2.1 ≤ c0 + R.cells ∧ h'.2.2.2.1 ≤ k0 + R.slots) (k : XK p l e R s m args below meth c Q M A D aC sp sc c0 k0 ws pc' L' S' h') : W p l e R s m args below meth c H locs cells slots Q (F0 m pc ls st) := by
  obtain ⟨hexec, hb, hml, hown, hts, hK, hA, hname, hdec, hfr, hlo, hscr, hsr, hao, hsx⟩ := C
  obtain ⟨hm, hn⟩ := xfetch_spec hf
  have hd : decode (xm_cc M) pc = .ok (.lcmp, n) := dec_of hdec hf
  have hls : c.maxLocals = ls.size := hml.trans X.1.1.symm
  obtain rfl : n = 1 := n_of hn rfl (by decide)
  replace hx : (match S with
    | .long y :: .long x :: S => nx (pc + 1) L (.int (lg_cmp x y) :: S) h
    | _ => none) = _ := hx
  split at hx
  · obtain ⟨rfl, rfl, rfl, rfl⟩ := nx_inj hx
    obtain ⟨_, _, rfl, e1, _, _, rfl, e2, hT⟩ := X.2.1
    cases e1; cases e2
    exact W.lcmp hexec hb hd (k.stk X ⟨_, _, rfl, rfl, hT⟩)
  · cases hx
set_option maxHeartbeats 400000 in
theorem sn_idiv  (C : XC p R s m args meth c M A D aC sp sc) {n : Nat} (hf : xfetch M pc = some (.idiv, n)) (hx : xstep M (.idiv) pc L S h = some (.inl (pc', L', S', h'))) (X : XS s A D aC sp sc M c0 k0 ws L S h ls st H locs cells slots) (hroom : h'.2.2.1 ≤ c0 + R.cells ∧ h'.2.2.2.1 ≤ k0 + R.slots) (k : XK p l e R s m args below meth c Q M A D aC sp sc c0 k0 ws pc' L' S' h') : W p l e R s m args below meth c H locs cells slots Q (F0 m pc ls st) := by
  obtain ⟨hexec, hb, hml, hown, hts, hK, hA, hname, hdec, hfr, hlo, hscr, hsr, hao, hsx⟩ := C
  obtain ⟨hm, hn⟩ := xfetch_spec hf
  have hd : decode (xm_cc M) pc = .ok (.idiv, n) := dec_of hdec hf
  have hls : c.maxLocals = ls.size := hml.trans X.1.1.symm
  obtain rfl : n = 1 := n_of hn rfl (by decide)
  replace hx : (match S with
    | .int y :: .int x :: S => if y = 0 then none else nx (pc + 1) L (.int (x / y) :: S) h
    | _ => none) = _ := hx
  split at hx
  · split at hx
    · cases hx
    · next hne =>
      obtain ⟨rfl, rfl, rfl, rfl⟩ := nx_inj hx
      obtain ⟨_, _, rfl, e1, _, _, rfl, e2, hT⟩ := X.2.1
      cases e1; cases e2
      exact lv_idiv hexec hb hd hne (k.stk X ⟨_, _, rfl, rfl, hT⟩)
  · cases hx
set_option maxHeartbeats 400000 in
theorem sn_irem  (C : XC p R s m args meth c M A D aC sp sc) {n : Nat} (hf : xfetch M pc = some (.irem, n)) (hx : xstep M (.irem) pc L S h = some (.inl (pc', L', S', h'))) (X : XS s A D aC sp sc M c0 k0 ws L S h ls st H locs cells slots) (hroom : h'.2.2.1 ≤ c0 + R.cells ∧ h'.2.2.2.1 ≤ k0 + R.slots) (k : XK p l e R s m args below meth c Q M A D aC sp sc c0 k0 ws pc' L' S' h') : W p l e R s m args below meth c H locs cells slots Q (F0 m pc ls st) := by
  obtain ⟨hexec, hb, hml, hown, hts, hK, hA, hname, hdec, hfr, hlo, hscr, hsr, hao, hsx⟩ := C
  obtain ⟨hm, hn⟩ := xfetch_spec hf
  have hd : decode (xm_cc M) pc = .ok (.irem, n) := dec_of hdec hf
  have hls : c.maxLocals = ls.size := hml.trans X.1.1.symm
  obtain rfl : n = 1 := n_of hn rfl (by decide)
  replace hx : (match S with
    | .int y :: .int x :: S => if y = 0 then none else nx (pc + 1) L (.int (x % y) :: S) h
    | _ => none) = _ := hx
  split at hx
  · split at hx
    · cases hx
    · next hne =>
      obtain ⟨rfl, rfl, rfl, rfl⟩ := nx_inj hx
      obtain ⟨_, _, rfl, e1, _, _, rfl, e2, hT⟩ := X.2.1
      cases e1; cases e2
      exact lv_irem hexec hb hd hne (k.stk X ⟨_, _, rfl, irem_eq.symm ▸ rfl, hT⟩)
  · cases hx
set_option maxHeartbeats 400000 in
theorem sn_ineg  (C : XC p R s m args meth c M A D aC sp sc) {n : Nat} (hf : xfetch M pc = some (.ineg, n)) (hx : xstep M (.ineg) pc L S h = some (.inl (pc', L', S', h'))) (X : XS s A D aC sp sc M c0 k0 ws L S h ls st H locs cells slots) (hroom : h'.2.2.1 ≤ c0 + R.cells ∧ h'.2.2.2.1 ≤ k0 + R.slots) (k : XK p l e R s m args below meth c Q M A D aC sp sc c0 k0 ws pc' L' S' h') : W p l e R s m args below meth c H locs cells slots Q (F0 m pc ls st) := by
  obtain ⟨hexec, hb, hml, hown, hts, hK, hA, hname, hdec, hfr, hlo, hscr, hsr, hao, hsx⟩ := C
  obtain ⟨hm, hn⟩ := xfetch_spec hf
  have hd : decode (xm_cc M) pc = .ok (.ineg, n) := dec_of hdec hf
  have hls : c.maxLocals = ls.size := hml.trans X.1.1.symm
  obtain rfl : n = 1 := n_of hn rfl (by decide)
  replace hx : (match S with
    | .int x :: S => nx (pc + 1) L (.int (-x) :: S) h
    | _ => none) = _ := hx
  split at hx
  · obtain ⟨rfl, rfl, rfl, rfl⟩ := nx_inj hx
    obtain ⟨_, _, rfl, e1, hT⟩ := X.2.1
    cases e1
    exact lv_ineg hexec hb hd (k.stk X ⟨_, _, rfl, rfl, hT⟩)
  · cases hx
set_option maxHeartbeats 400000 in
theorem sn_i2l  (C : XC p R s m args meth c M A D aC sp sc) {n : Nat} (hf : xfetch M pc = some (.i2l, n)) (hx : xstep M (.i2l) pc L S h = some (.inl (pc', L', S', h'))) (X : XS s A D aC sp sc M c0 k0 ws L S h ls st H locs cells slots) (hroom : h'.2.2.1 ≤ c0 + R.cells ∧ h'.2.2.2.1 ≤ k0 + R.slots) (k : XK p l e R s m args below meth c Q M A D aC sp sc c0 k0 ws pc' L' S' h') : W p l e R s m args below meth c H locs cells slots Q (F0 m pc ls st) := by
  obtain ⟨hexec, hb, hml, hown, hts, hK, hA, hname, hdec, hfr, hlo, hscr, hsr, hao, hsx⟩ := C
  obtain ⟨hm, hn⟩ := xfetch_spec hf
  have hd : decode (xm_cc M) pc = .ok (.i2l, n) := dec_of hdec hf
  have hls : c.maxLocals = ls.size := hml.trans X.1.1.symm
  obtain rfl : n = 1 := n_of hn rfl (by decide)
  replace hx : (match S with
    | .int x :: S => nx (pc + 1) L (.long x.toInt64 :: S) h
    | _ => none) = _ := hx
  split at hx
  · obtain ⟨rfl, rfl, rfl, rfl⟩ := nx_inj hx
    obtain ⟨_, _, rfl, e1, hT⟩ := X.2.1
    cases e1
    exact lv_i2l hexec hb hd rfl (k.stk X ⟨_, _, rfl, rfl, hT⟩)
  · cases hx
set_option maxHeartbeats 400000 in
theorem sn_i2c  (C : XC p R s m args meth c M A D aC sp sc) {n : Nat} (hf : xfetch M pc = some (.i2c, n)) (hx : xstep M (.i2c) pc L S h = some (.inl (pc', L', S', h'))) (X : XS s A D aC sp sc M c0 k0 ws L S h ls st H locs cells slots) (hroom : h'.2.2.1 ≤ c0 + R.cells ∧ h'.2.2.2.1 ≤ k0 + R.slots) (k : XK p l e R s m args below meth c Q M A D aC sp sc c0 k0 ws pc' L' S' h') : W p l e R s m args below meth c H locs cells slots Q (F0 m pc ls st) := by
  obtain ⟨hexec, hb, hml, hown, hts, hK, hA, hname, hdec, hfr, hlo, hscr, hsr, hao, hsx⟩ := C
  obtain ⟨hm, hn⟩ := xfetch_spec hf
  have hd : decode (xm_cc M) pc = .ok (.i2c, n) := dec_of hdec hf
  have hls : c.maxLocals = ls.size := hml.trans X.1.1.symm
  obtain rfl : n = 1 := n_of hn rfl (by decide)
  replace hx : (match S with
    | .int x :: S => nx (pc + 1) L (.int (x.toUInt32 % 65536).toInt32 :: S) h
    | _ => none) = _ := hx
  split at hx
  · obtain ⟨rfl, rfl, rfl, rfl⟩ := nx_inj hx
    obtain ⟨_, _, rfl, e1, hT⟩ := X.2.1
    cases e1
    exact lv_i2c hexec hb hd rfl (k.stk X ⟨_, _, rfl, rfl, hT⟩)
  · cases hx
set_option maxHeartbeats 400000 in
theorem sn_i2d  (C : XC p R s m args meth c M A D aC sp sc) {n : Nat} (hf : xfetch M pc = some (.i2d, n)) (hx : xstep M (.i2d) pc L S h = some (.inl (pc', L', S', h'))) (X : XS s A D aC sp sc M c0 k0 ws L S h ls st H locs cells slots) (hroom : h'.2.2.1 ≤ c0 + R.cells ∧ h'.2.2.2.1 ≤ k0 + R.slots) (k : XK p l e R s m args below meth c Q M A D aC sp sc c0 k0 ws pc' L' S' h') : W p l e R s m args below meth c H locs cells slots Q (F0 m pc ls st) := by
  obtain ⟨hexec, hb, hml, hown, hts, hK, hA, hname, hdec, hfr, hlo, hscr, hsr, hao, hsx⟩ := C
  obtain ⟨hm, hn⟩ := xfetch_spec hf
  have hd : decode (xm_cc M) pc = .ok (.i2d, n) := dec_of hdec hf
  have hls : c.maxLocals = ls.size := hml.trans X.1.1.symm
  obtain rfl : n = 1 := n_of hn rfl (by decide)
  replace hx : (match S with
    | .int x :: S => nx (pc + 1) L (.double (FP.i2d x) :: S) h
    | _ => none) = _ := hx
  split at hx
  · obtain ⟨rfl, rfl, rfl, rfl⟩ := nx_inj hx
    obtain ⟨_, _, rfl, e1, hT⟩ := X.2.1
    cases e1
    exact lv_i2d hexec hb hd (k.stk X ⟨_, _, rfl, rfl, hT⟩)
  · cases hx
set_option maxHeartbeats 400000 in
theorem sn_ddiv  (C : XC p R s m args meth c M A D aC sp sc) {n : Nat} (hf : xfetch M pc = some (.ddiv, n)) (hx : xstep M (.ddiv) pc L S h = some (.inl (pc', L', S', h'))) (X : XS s A D aC sp sc M c0 k0 ws L S h ls st H locs cells slots) (hroom : h'.2.2.1 ≤ c0 + R.cells ∧ h'.2.2.2.1 ≤ k0 + R.slots) (k : XK p l e R s m args below meth c Q M A D aC sp sc c0 k0 ws pc' L' S' h') : W p l e R s m args below meth c H locs cells slots Q (F0 m pc ls st) := by
  obtain ⟨hexec, hb, hml, hown, hts, hK, hA, hname, hdec, hfr, hlo, hscr, hsr, hao, hsx⟩ := C
  obtain ⟨hm, hn⟩ := xfetch_spec hf
  have hd : decode (xm_cc M) pc = .ok (.ddiv, n) := dec_of hdec hf
  have hls : c.maxLocals = ls.size := hml.trans X.1.1.symm
  obtain rfl : n = 1 := n_of hn rfl (by decide)
  replace hx : (match S with
    | .double y :: .double x :: S => if FP.ddiv x y &&& 0x7fffffffffffffff ≤ 0x7ff0000000000000 then nx (pc + 1) L (.double (FP.ddiv x y) :: S) h else none
    | _ => none) = _ := hx
  split at hx
  · split at hx
    · next hne =>
      obtain ⟨rfl, rfl, rfl, rfl⟩ := nx_inj hx
      obtain ⟨_, _, rfl, e1, _, _, rfl, e2, hT⟩ := X.2.1
      cases e1; cases e2
      exact lv_ddiv hexec hb hd hne (k.stk X ⟨_, _, rfl, rfl, hT⟩)
    · cases hx
  · cases hx
set_option maxHeartbeats 400000 in
theorem sn_dcmp {op : CmpOp} (C : XC p R s m args meth c M A D aC sp sc) {n : Nat} (hf : xfetch M pc = some (.dcmp op, n)) (hx : xstep M (.dcmp op) pc L S h = some (.inl (pc', L', S', h'))) (X : XS s A D aC sp sc M c0 k0 ws L S h ls st H locs cells slots) (hroom : h'.2.2.1 ≤ c0 + R.cells ∧ h'.2.2.2.1 ≤ k0 + R.slots) (k : XK p l e R s m args below meth c Q M A D aC sp sc c0 k0 ws pc' L' S' h') : W p l e R s m args below meth c H locs cells slots Q (F0 m pc ls st) := by
  obtain ⟨hexec, hb, hml, hown, hts, hK, hA, hname, hdec, hfr, hlo, hscr, hsr, hao, hsx⟩ := C
  obtain ⟨hm, hn⟩ := xfetch_spec hf
  have hd : decode (xm_cc M) pc = .ok (.dcmp op, n) := dec_of hdec hf
  have hls : c.maxLocals = ls.size := hml.trans X.1.1.symm
  obtain rfl : n = 1 := n_of hn rfl (by decide)
  replace hx : (match S with
    | .double y :: .double x :: S => nx (pc + 1) L (.int (Op.cmpValue (FP.dcmp x y) op) :: S) h
    | _ => none) = _ := hx
  split at hx
  · obtain ⟨rfl, rfl, rfl, rfl⟩ := nx_inj hx
    obtain ⟨_, _, rfl, e1, _, _, rfl, e2, hT⟩ := X.2.1
    cases e1; cases e2
    exact lv_dcmp hexec hb hd (k.stk X ⟨_, _, rfl, rfl, hT⟩)
  · cases hx
set_option maxHeartbeats 400000 in
theorem sn_dup  (C : XC p R s m args meth c M A D aC sp sc) {n : Nat} (hf : xfetch M pc = some (.dup, n)) (hx : xstep M (.dup) pc L S h = some (.inl (pc', L', S', h'))) (X : XS s A D aC sp sc M c0 k0 ws L S h ls st H locs cells slots) (hroom : h'.2.2.1 ≤ c0 + R.cells ∧ h'.2.2.2.1 ≤ k0 + R.slots) (k : XK p l e R s m args below meth c Q M A D aC sp sc c0 k0 ws pc' L' S' h') : W p l e R s m args below meth c H locs cells slots Q (F0 m pc ls st) := by
  obtain ⟨hexec, hb, hml, hown, hts, hK, hA, hname, hdec, hfr, hlo, hscr, hsr, hao, hsx⟩ := C
  obtain ⟨hm, hn⟩ := xfetch_spec hf
  have hd : decode (xm_cc M) pc = .ok (.dup, n) := dec_of hdec hf
  have hls : c.maxLocals = ls.size := hml.trans X.1.1.symm
  obtain rfl : n = 1 := n_of hn rfl (by decide)
  replace hx : (match S with
    | .int x :: S => nx (pc + 1) L (.int x :: .int x :: S) h
    | .ref x :: S => nx (pc + 1) L (.ref x :: .ref x :: S) h
    | _ => none) = _ := hx
  split at hx
  · obtain ⟨rfl, rfl, rfl, rfl⟩ := nx_inj hx
    obtain ⟨_, _, rfl, e1, hT⟩ := X.2.1
    cases e1
    exact lv_dup hexec hb hd rfl (k.stk X ⟨_, _, rfl, rfl, _, _, rfl, rfl, hT⟩)
  · obtain ⟨rfl, rfl, rfl, rfl⟩ := nx_inj hx
    obtain ⟨_, _, rfl, e1, hT⟩ := X.2.1
    obtain ⟨b, rfl⟩ := e1.ref
    exact lv_dup hexec hb hd rfl (k.stk X ⟨_, _, rfl, e1, _, _, rfl, e1, hT⟩)
  · cases hx
set_option maxHeartbeats 400000 in
theorem sn_pop  (C : XC p R s m args meth c M A D aC sp sc) {n : Nat} (hf : xfetch M pc = some (.pop, n)) (hx : xstep M (.pop) pc L S h = some (.inl (pc', L', S', h'))) (X : XS s A D aC sp sc M c0 k0 ws L S h ls st H locs cells slots) (hroom : h'.2.2.1 ≤ c0 + R.cells ∧ h'.2.2.2.1 ≤ k0 + R.slots) (k : XK p l e R s m args below meth c Q M A D aC sp sc c0 k0 ws pc' L' S' h') : W p l e R s m args below meth c H locs cells slots Q (F0 m pc ls st) := by
  obtain ⟨hexec, hb, hml, hown, hts, hK, hA, hname, hdec, hfr, hlo, hscr, hsr, hao, hsx⟩ := C
  obtain ⟨hm, hn⟩ := xfetch_spec hf
  have hd : decode (xm_cc M) pc = .ok (.pop, n) := dec_of hdec hf
  have hls : c.maxLocals = ls.size := hml.trans X.1.1.symm
  obtain rfl : n = 1 := n_of hn rfl (by decide)
  replace hx : (match S with
    | .int _ :: S => nx (pc + 1) L S h
    | _ => none) = _ := hx
  split at hx
  · obtain ⟨rfl, rfl, rfl, rfl⟩ := nx_inj hx
    obtain ⟨_, _, rfl, e1, hT⟩ := X.2.1
    cases e1
    exact lv_pop hexec hb hd rfl (k.stk X hT)
  · cases hx
set_option maxHeartbeats 400000 in
theorem sn_dup2  (C : XC p R s m args meth c M A D aC sp sc) {n : Nat} (hf : xfetch M pc = some (.dup2, n)) (hx : xstep M (.dup2) pc L S h = some (.inl (pc', L', S', h'))) (X : XS s A D aC sp sc M c0 k0 ws L S h ls st H locs cells slots) (hroom : h'.2.2.1 ≤ c0 + R.cells ∧ h'.2.2.2.1 ≤ k0 + R.slots) (k : XK p l e R s m args below meth c Q M A D aC sp sc c0 k0 ws pc' L' S' h') : W p l e R s m args below meth c H locs cells slots Q (F0 m pc ls st) := by
  obtain ⟨hexec, hb, hml, hown, hts, hK, hA, hname, hdec, hfr, hlo, hscr, hsr, hao, hsx⟩ := C
  obtain ⟨hm, hn⟩ := xfetch_spec hf
  have hd : decode (xm_cc M) pc = .ok (.dup2, n) := dec_of hdec hf
  have hls : c.maxLocals = ls.size := hml.trans X.1.1.symm
  obtain rfl : n = 1 := n_of hn rfl (by decide)
  replace hx : (match S with
    | .int y :: .ref x :: S => nx (pc + 1) L (.int y :: .ref x :: .int y :: .ref x :: S) h
    | _ => none) = _ := hx
  split at hx
  · obtain ⟨rfl, rfl, rfl, rfl⟩ := nx_inj hx
    obtain ⟨_, _, rfl, e1, _, _, rfl, e2, hT⟩ := X.2.1
    cases e1
    obtain ⟨b, rfl⟩ := e2.ref
    exact lv_dup2_11 hexec hb hd rfl rfl (k.stk X ⟨_, _, rfl, rfl, _, _, rfl, e2, _, _, rfl, rfl, _, _, rfl, e2, hT⟩)
  · cases hx
set_option maxHeartbeats 400000 in
theorem sn_dup_x1  (C : XC p R s m args meth c M A D aC sp sc) {n : Nat} (hf : xfetch M pc = some (.dup_x1, n)) (hx : xstep M (.dup_x1) pc L S h = some (.inl (pc', L', S', h'))) (X : XS s A D aC sp sc M c0 k0 ws L S h ls st H locs cells slots) (hroom : h'.2.2.1 ≤ c0 + R.cells ∧ h'.2.2.2.1 ≤ k0 + R.slots) (k : XK p l e R s m args below meth c Q M A D aC sp sc c0 k0 ws pc' L' S' h') : W p l e R s m args below meth c H locs cells slots Q (F0 m pc ls st) := by
  obtain ⟨hexec, hb, hml, hown, hts, hK, hA, hname, hdec, hfr, hlo, hscr, hsr, hao, hsx⟩ := C
  obtain ⟨hm, hn⟩ := xfetch_spec hf
  have hd : decode (xm_cc M) pc = .ok (.dup_x1, n) := dec_of hdec hf
  have hls : c.maxLocals = ls.size := hml.trans X.1.1.symm
  obtain rfl : n = 1 := n_of hn rfl (by decide)
  replace hx : (match S with
    | .int y :: .ref x :: S => nx (pc + 1) L (.int y :: .ref x :: .int y :: S) h
    | _ => none) = _ := hx
  split at hx
  · obtain ⟨rfl, rfl, rfl, rfl⟩ := nx_inj hx
    obtain ⟨_, _, rfl, e1, _, _, rfl, e2, hT⟩ := X.2.1
    cases e1
    obtain ⟨b, rfl⟩ := e2.ref
    exact lv_dup_x1 hexec hb hd rfl rfl (k.stk X ⟨_, _, rfl, rfl, _, _, rfl, e2, _, _, rfl, rfl, hT⟩)
  · cases hx
set_option maxHeartbeats 400000 in
theorem sn_ifCond {cd : ClassFile.Cond} {off : Int} (C : XC p R s m args meth c M A D aC sp sc) {n : Nat} (hf : xfetch M pc = some (.ifCond cd off, n)) (hx : xstep M (.ifCond cd off) pc L S h = some (.inl (pc', L', S', h'))) (X : XS s A D aC sp sc M c0 k0 ws L S h ls st H locs cells slots) (hroom : h'.2.2.1 ≤ c0 + R.cells ∧ h'.2.2.2.1 ≤ k0 + R.slots) (k : XK p l e R s m args below meth c Q M A D aC sp sc c0 k0 ws pc' L' S' h') : W p l e R s m args below meth c H locs cells slots Q (F0 m pc ls st) := by
  obtain ⟨hexec, hb, hml, hown, hts, hK, hA, hname, hdec, hfr, hlo, hscr, hsr, hao, hsx⟩ := C
  obtain ⟨hm, hn⟩ := xfetch_spec hf
  have hd : decode (xm_cc M) pc = .ok (.ifCond cd off, n) := dec_of hdec hf
  have hls : c.maxLocals = ls.size := hml.trans X.1.1.symm
  obtain rfl : n = 3 := n_of hn rfl (by decide)
  replace hx : (match S with
    | .int x :: S => if 0 ≤ (pc : Int) + off then xif cd x 0 (xj pc off L S h) (nx (pc + 3) L S h) else none
    | _ => none) = _ := hx
  split at hx
  · split at hx
    · next h0 =>
      obtain ⟨_, _, rfl, e1, hT⟩ := X.2.1
      cases e1
      have ht := (Int.toNat_of_nonneg h0).symm
      cases cd <;> unfold xif at hx <;> dsimp only at hx <;> split at hx
      · next hc => obtain ⟨ht, rfl, rfl, rfl⟩ := xj_inj hx; exact lv_if_eq hexec hb hd ht (fun _ => k.stk X hT) (fun z => absurd hc z)
      · next hc => obtain ⟨rfl, rfl, rfl, rfl⟩ := nx_inj hx; exact lv_if_eq hexec hb hd ht (fun z => absurd z hc) (fun _ => k.stk X hT)
      · next hc => obtain ⟨ht, rfl, rfl, rfl⟩ := xj_inj hx; exact lv_if_ne hexec hb hd ht (fun _ => k.stk X hT) (fun z => absurd z hc)
      · next hc => obtain ⟨rfl, rfl, rfl, rfl⟩ := nx_inj hx; exact lv_if_ne hexec hb hd ht (fun z => absurd z hc) (fun _ => k.stk X hT)
      · next hc => obtain ⟨ht, rfl, rfl, rfl⟩ := xj_inj hx; exact lv_if_lt hexec hb hd ht (fun _ => k.stk X hT) (fun z => absurd hc z)
      · next hc => obtain ⟨rfl, rfl, rfl, rfl⟩ := nx_inj hx; exact lv_if_lt hexec hb hd ht (fun z => absurd z hc) (fun _ => k.stk X hT)
      · next hc => obtain ⟨ht, rfl, rfl, rfl⟩ := xj_inj hx; exact lv_if_ge hexec hb hd ht (fun _ => k.stk X hT) (fun z => absurd hc z)
      · next hc => obtain ⟨rfl, rfl, rfl, rfl⟩ := nx_inj hx; exact lv_if_ge hexec hb hd ht (fun z => absurd z hc) (fun _ => k.stk X hT)
      · next hc => obtain ⟨ht, rfl, rfl, rfl⟩ := xj_inj hx; exact lv_if_gt hexec hb hd ht (fun _ => k.stk X hT) (fun z => absurd hc z)
      · next hc => obtain ⟨rfl, rfl, rfl, rfl⟩ := nx_inj hx; exact lv_if_gt hexec hb hd ht (fun z => absurd z hc) (fun _ => k.stk X hT)
      · next hc => obtain ⟨ht, rfl, rfl, rfl⟩ := xj_inj hx; exact lv_if_le hexec hb hd ht (fun _ => k.stk X hT) (fun z => absurd hc z)
      · next hc => obtain ⟨rfl, rfl, rfl, rfl⟩ := nx_inj hx; exact lv_if_le hexec hb hd ht (fun z => absurd z hc) (fun _ => k.stk X hT)
    · cases hx
  · cases hx
set_option maxHeartbeats 400000 in
theorem sn_if_icmp {cd : ClassFile.Cond} {off : Int} (C : XC p R s m args meth c M A D aC sp sc) {n : Nat} (hf : xfetch M pc = some (.if_icmp cd off, n)) (hx : xstep M (.if_icmp cd off) pc L S h = some (.inl (pc', L', S', h'))) (X : XS s A D aC sp sc M c0 k0 ws L S h ls st H locs cells slots) (hroom : h'.2.2.1 ≤ c0 + R.cells ∧ h'.2.2.2.1 ≤ k0 + R.slots) (k : XK p l e R s m args below meth c Q M A D aC sp sc c0 k0 ws pc' L' S' h') : W p l e R s m args below meth c H locs cells slots Q (F0 m pc ls st) := by
  obtain ⟨hexec, hb, hml, hown, hts, hK, hA, hname, hdec, hfr, hlo, hscr, hsr, hao, hsx⟩ := C
  obtain ⟨hm, hn⟩ := xfetch_spec hf
  have hd : decode (xm_cc M) pc = .ok (.if_icmp cd off, n) := dec_of hdec hf
  have hls : c.maxLocals = ls.size := hml.trans X.1.1.symm
  obtain rfl : n = 3 := n_of hn rfl (by decide)
  replace hx : (match S with
    | .int y :: .int x :: S => if 0 ≤ (pc : Int) + off then xif cd x y (xj pc off L S h) (nx (pc + 3) L S h) else none
    | _ => none) = _ := hx
  split at hx
  · split at hx
    · next h0 =>
      obtain ⟨_, _, rfl, e1, _, _, rfl, e2, hT⟩ := X.2.1
      cases e1; cases e2
      have ht := (Int.toNat_of_nonneg h0).symm
      cases cd <;> unfold xif at hx <;> dsimp only at hx <;> split at hx
      · next hc => obtain ⟨ht, rfl, rfl, rfl⟩ := xj_inj hx; exact lv_icmp_eq hexec hb hd ht (fun _ => k.stk X hT) (fun z => absurd hc z)
      · next hc => obtain ⟨rfl, rfl, rfl, rfl⟩ := nx_inj hx; exact lv_icmp_eq hexec hb hd ht (fun z => absurd z hc) (fun _ => k.stk X hT)
      · next hc => obtain ⟨ht, rfl, rfl, rfl⟩ := xj_inj hx; exact lv_icmp_ne hexec hb hd ht (fun _ => k.stk X hT) (fun z => absurd z hc)
      · next hc => obtain ⟨rfl, rfl, rfl, rfl⟩ := nx_inj hx; exact lv_icmp_ne hexec hb hd ht (fun z => absurd z hc) (fun _ => k.stk X hT)
      · next hc => obtain ⟨ht, rfl, rfl, rfl⟩ := xj_inj hx; exact lv_icmp_lt hexec hb hd ht (fun _ => k.stk X hT) (fun z => absurd hc z)
      · next hc => obtain ⟨rfl, rfl, rfl, rfl⟩ := nx_inj hx; exact lv_icmp_lt hexec hb hd ht (fun z => absurd z hc) (fun _ => k.stk X hT)
      · next hc => obtain ⟨ht, rfl, rfl, rfl⟩ := xj_inj hx; exact lv_icmp_ge hexec hb hd ht (fun _ => k.stk X hT) (fun z => absurd hc z)
      · next hc => obtain ⟨rfl, rfl, rfl, rfl⟩ := nx_inj hx; exact lv_icmp_ge hexec hb hd ht (fun z => absurd z hc) (fun _ => k.stk X hT)
      · next hc => obtain ⟨ht, rfl, rfl, rfl⟩ := xj_inj hx; exact lv_icmp_gt hexec hb hd ht (fun _ => k.stk X hT) (fun z => absurd hc z)
      · next hc => obtain ⟨rfl, rfl, rfl, rfl⟩ := nx_inj hx; exact lv_icmp_gt hexec hb hd ht (fun z => absurd z hc) (fun _ => k.stk X hT)
      · next hc => obtain ⟨ht, rfl, rfl, rfl⟩ := xj_inj hx; exact lv_icmp_le hexec hb hd ht (fun _ => k.stk X hT) (fun z => absurd hc z)
      · next hc => obtain ⟨rfl, rfl, rfl, rfl⟩ := nx_inj hx; exact lv_icmp_le hexec hb hd ht (fun z => absurd z hc) (fun _ => k.stk X hT)
    · cases hx
  · cases hx
set_option maxHeartbeats 400000 in
theorem sn_goto {off : Int} (C : XC p R s m args meth c M A D aC sp sc) {n : Nat} (hf : xfetch M pc = some (.goto off, n)) (hx : xstep M (.goto off) pc L S h = some (.inl (pc', L', S', h'))) (X : XS s A D aC sp sc M c0 k0 ws L S h ls st H locs cells slots) (hroom : h'.2.2.1 ≤ c0 + R.cells ∧ h'.2.2.2.1 ≤ k0 + R.slots) (k : XK p l e R s m args below meth c Q M A D aC sp sc c0 k0 ws pc' L' S' h') : W p l e R s m args below meth c H locs cells slots Q (F0 m pc ls st) := by
  obtain ⟨hexec, hb, hml, hown, hts, hK, hA, hname, hdec, hfr, hlo, hscr, hsr, hao, hsx⟩ := C
  obtain ⟨hm, hn⟩ := xfetch_spec hf
  have hd : decode (xm_cc M) pc = .ok (.goto off, n) := dec_of hdec hf
  have hls : c.maxLocals = ls.size := hml.trans X.1.1.symm
  obtain rfl : n = 3 := n_of hn rfl (by decide)
  obtain ⟨ht, rfl, rfl, rfl⟩ := xj_inj (show xj _ _ _ _ _ = _ from hx)
  exact lv_goto hexec hb hd ht (k.stk X X.2.1)
set_option maxHeartbeats 400000 in
theorem sn_ifnull {off : Int} (C : XC p R s m args meth c M A D aC sp sc) {n : Nat} (hf : xfetch M pc = some (.ifnull off, n)) (hx : xstep M (.ifnull off) pc L S h = some (.inl (pc', L', S', h'))) (X : XS s A D aC sp sc M c0 k0 ws L S h ls st H locs cells slots) (hroom : h'.2.2.1 ≤ c0 + R.cells ∧ h'.2.2.2.1 ≤ k0 + R.slots) (k : XK p l e R s m args below meth c Q M A D aC sp sc c0 k0 ws pc' L' S' h') : W p l e R s m args below meth c H locs cells slots Q (F0 m pc ls st) := by
  obtain ⟨hexec, hb, hml, hown, hts, hK, hA, hname, hdec, hfr, hlo, hscr, hsr, hao, hsx⟩ := C
  obtain ⟨hm, hn⟩ := xfetch_spec hf
  have hd : decode (xm_cc M) pc = .ok (.ifnull off, n) := dec_of hdec hf
  have hls : c.maxLocals = ls.size := hml.trans X.1.1.symm
  obtain rfl : n = 3 := n_of hn rfl (by decide)
  replace hx : (match S with
    | .null :: S => xj pc off L S h
    | .ref _ :: S => nx (pc + 3) L S h
    | _ => none) = _ := hx
  split at hx
  · obtain ⟨ht, rfl, rfl, rfl⟩ := xj_inj hx
    obtain ⟨_, _, rfl, e1, hT⟩ := X.2.1
    cases e1
    exact lv_ifnullN hexec hb hd ht (k.stk X hT)
  · obtain ⟨rfl, rfl, rfl, rfl⟩ := nx_inj hx
    obtain ⟨_, _, rfl, e1, hT⟩ := X.2.1
    obtain ⟨b, rfl⟩ := e1.ref
    exact lv_ifnull hexec hb hd (k.stk X hT)
  · cases hx
set_option maxHeartbeats 400000 in
theorem sn_tableswitch {d : Int} {lo : Int} {hi : Int} {offs : Array Int} (C : XC p R s m args meth c M A D aC sp sc) {n : Nat} (hf : xfetch M pc = some (.tableswitch d lo hi offs, n)) (hx : xstep M (.tableswitch d lo hi offs) pc L S h = some (.inl (pc', L', S', h'))) (X : XS s A D aC sp sc M c0 k0 ws L S h ls st H locs cells slots) (hroom : h'.2.2.1 ≤ c0 + R.cells ∧ h'.2.2.2.1 ≤ k0 + R.slots) (k : XK p l e R s m args below meth c Q M A D aC sp sc c0 k0 ws pc' L' S' h') : W p l e R s m args below meth c H locs cells slots Q (F0 m pc ls st) := by
  obtain ⟨hexec, hb, hml, hown, hts, hK, hA, hname, hdec, hfr, hlo, hscr, hsr, hao, hsx⟩ := C
  obtain ⟨hm, hn⟩ := xfetch_spec hf
  have hd : decode (xm_cc M) pc = .ok (.tableswitch d lo hi offs, n) := dec_of hdec hf
  have hls : c.maxLocals = ls.size := hml.trans X.1.1.symm
  replace hx : (match S with
    | .int x :: S => if x.toInt < lo ∨ hi < x.toInt then xj pc d L S h else (match offs[(x.toInt - lo).toNat]? with
      | some off => xj pc off L S h
      | none => none)
    | _ => none) = _ := hx
  split at hx
  · obtain ⟨_, _, rfl, e1, hT⟩ := X.2.1
    cases e1
    split at hx
    · next hc =>
      obtain ⟨ht, rfl, rfl, rfl⟩ := xj_inj hx
      exact lv_tableOut hexec hb hd hc ht (k.stk X hT)
    · next hc =>
      split at hx
      · next off ho =>
        obtain ⟨ht, rfl, rfl, rfl⟩ := xj_inj hx
        exact lv_tableIn hexec hb hd (fun z => hc (Or.inl z)) (fun z => hc (Or.inr z)) ho ht (k.stk X hT)
      · cases hx
  · cases hx
set_option maxHeartbeats 400000 in
theorem sn_lookupswitch {d : Int} {ps : Array (Int × Int)} (C : XC p R s m args meth c M A D aC sp sc) {n : Nat} (hf : xfetch M pc = some (.lookupswitch d ps, n)) (hx : xstep M (.lookupswitch d ps) pc L S h = some (.inl (pc', L', S', h'))) (X : XS s A D aC sp sc M c0 k0 ws L S h ls st H locs cells slots) (hroom : h'.2.2.1 ≤ c0 + R.cells ∧ h'.2.2.2.1 ≤ k0 + R.slots) (k : XK p l e R s m args below meth c Q M A D aC sp sc c0 k0 ws pc' L' S' h') : W p l e R s m args below meth c H locs cells slots Q (F0 m pc ls st) := by
  obtain ⟨hexec, hb, hml, hown, hts, hK, hA, hname, hdec, hfr, hlo, hscr, hsr, hao, hsx⟩ := C
  obtain ⟨hm, hn⟩ := xfetch_spec hf
  have hd : decode (xm_cc M) pc = .ok (.lookupswitch d ps, n) := dec_of hdec hf
  have hls : c.maxLocals = ls.size := hml.trans X.1.1.symm
  replace hx : (match S with
    | .int x :: S => bif (ps.toList.zip (ps.toList.drop 1)).all (fun q => decide (q.1.1 < q.2.1)) then xj pc (Op.lookupswitch.offset ps.toList d x.toInt) L S h else none
    | _ => none) = _ := hx
  split at hx
  · obtain ⟨_, _, rfl, e1, hT⟩ := X.2.1
    cases e1
    cases hc : (ps.toList.zip (ps.toList.drop 1)).all (fun q => decide (q.1.1 < q.2.1)) with
    | false => rw [hc] at hx; cases hx
    | true =>
      rw [hc] at hx
      obtain ⟨ht, rfl, rfl, rfl⟩ := xj_inj (show xj _ _ _ _ _ = _ from hx)
      exact lv_lookup hexec hb hd hc rfl ht (k.stk X hT)
  · cases hx
set_option maxHeartbeats 400000 in
theorem sn_ldc {is : Nat} (C : XC p R s m args meth c M A D aC sp sc) {n : Nat} (hf : xfetch M pc = some (.ldc is, n)) (hx : xstep M (.ldc is) pc L S h = some (.inl (pc', L', S', h'))) (X : XS s A D aC sp sc M c0 k0 ws L S h ls st H locs cells slots) (hroom : h'.2.2.1 ≤ c0 + R.cells ∧ h'.2.2.2.1 ≤ k0 + R.slots) (k : XK p l e R s m args below meth c Q M A D aC sp sc c0 k0 ws pc' L' S' h') : W p l e R s m args below meth c H locs cells slots Q (F0 m pc ls st) := by
  obtain ⟨hexec, hb, hml, hown, hts, hK, hA, hname, hdec, hfr, hlo, hscr, hsr, hao, hsx⟩ := C
  obtain ⟨hm, hn⟩ := xfetch_spec hf
  have hd : decode (xm_cc M) pc = .ok (.ldc is, n) := dec_of hdec hf
  have hls : c.maxLocals = ls.size := hml.trans X.1.1.symm
  obtain rfl : n = 2 := n_of hn rfl (by decide)
  replace hx : (match xlk sT (xm_own M) is, xldc (xm_own M * 1000 + is) with
    | some _, some k => nx (pc + 2) L (.ref (1000000 + k) :: S) h
    | _, _ => none) = _ := hx
  split at hx
  · next tx j hs hj =>
    obtain ⟨hmem, hk1, hk2⟩ := xlk_mem hs
    obtain ⟨sa, hv, hj2⟩ := hsr _ hmem
    have hj3 := hj2 j hj
    dsimp only at hv
    rw [hk1, hk2, hj3] at hv
    obtain ⟨rfl, rfl, rfl, rfl⟩ := nx_inj hx
    exact va_ldcS hexec hb hown hv hd (k.stk X ⟨_, _, rfl, Or.inr ⟨Nat.le_add_right _ _, rfl⟩, X.2.1⟩)
  · cases hx
set_option maxHeartbeats 400000 in
theorem sn_ireturn  (C : XC p R s m args meth c M A D aC sp sc) {n : Nat} (hf : xfetch M pc = some (.ireturn, n)) (hx : xstep M (.ireturn) pc L S h = some (.inl (pc', L', S', h'))) (X : XS s A D aC sp sc M c0 k0 ws L S h ls st H locs cells slots) (hroom : h'.2.2.1 ≤ c0 + R.cells ∧ h'.2.2.2.1 ≤ k0 + R.slots) (k : XK p l e R s m args below meth c Q M A D aC sp sc c0 k0 ws pc' L' S' h') : W p l e R s m args below meth c H locs cells slots Q (F0 m pc ls st) := by
  obtain ⟨hexec, hb, hml, hown, hts, hK, hA, hname, hdec, hfr, hlo, hscr, hsr, hao, hsx⟩ := C
  obtain ⟨hm, hn⟩ := xfetch_spec hf
  have hd : decode (xm_cc M) pc = .ok (.ireturn, n) := dec_of hdec hf
  have hls : c.maxLocals = ls.size := hml.trans X.1.1.symm
  unfold xstep at hx
  dsimp only at hx
  repeat' (split at hx)
  all_goals cases hx
set_option maxHeartbeats 400000 in
theorem sn_lreturn  (C : XC p R s m args meth c M A D aC sp sc) {n : Nat} (hf : xfetch M pc = some (.lreturn, n)) (hx : xstep M (.lreturn) pc L S h = some (.inl (pc', L', S', h'))) (X : XS s A D aC sp sc M c0 k0 ws L S h ls st H locs cells slots) (hroom : h'.2.2.1 ≤ c0 + R.cells ∧ h'.2.2.2.1 ≤ k0 + R.slots) (k : XK p l e R s m args below meth c Q M A D aC sp sc c0 k0 ws pc' L' S' h') : W p l e R s m args below meth c H locs cells slots Q (F0 m pc ls st) := by
  obtain ⟨hexec, hb, hml, hown, hts, hK, hA, hname, hdec, hfr, hlo, hscr, hsr, hao, hsx⟩ := C
  obtain ⟨hm, hn⟩ := xfetch_spec hf
  have hd : decode (xm_cc M) pc = .ok (.lreturn, n) := dec_of hdec hf
  have hls : c.maxLocals = ls.size := hml.trans X.1.1.symm
  unfold xstep at hx
  dsimp only at hx
  repeat' (split at hx)
  all_goals cases hx
set_option maxHeartbeats 400000 in
theorem sn_dreturn  (C : XC p R s m args meth c M A D aC sp sc) {n : Nat} (hf : xfetch M pc = some (.dreturn, n)) (hx : xstep M (.dreturn) pc L S h = some (.inl (pc', L', S', h'))) (X : XS s A D aC sp sc M c0 k0 ws L S h ls st H locs cells slots) (hroom : h'.2.2.1 ≤ c0 + R.cells ∧ h'.2.2.2.1 ≤ k0 + R.slots) (k : XK p l e R s m args below meth c Q M A D aC sp sc c0 k0 ws pc' L' S' h') : W p l e R s m args below meth c H locs cells slots Q (F0 m pc ls st) := by
  obtain ⟨hexec, hb, hml, hown, hts, hK, hA, hname, hdec, hfr, hlo, hscr, hsr, hao, hsx⟩ := C
  obtain ⟨hm, hn⟩ := xfetch_spec hf
  have hd : decode (xm_cc M) pc = .ok (.dreturn, n) := dec_of hdec hf
  have hls : c.maxLocals = ls.size := hml.trans X.1.1.symm
  unfold xstep at hx
  dsimp only at hx
  repeat' (split at hx)
  all_goals cases hx
set_option maxHeartbeats 400000 in
theorem sn_areturn  (C : XC p R s m args meth c M A D aC sp sc) {n : Nat} (hf : xfetch M pc = some (.areturn, n)) (hx : xstep M (.areturn) pc L S h = some (.inl (pc', L', S', h'))) (X : XS s A D aC sp sc M c0 k0 ws L S h ls st H locs cells slots) (hroom : h'.2.2.1 ≤ c0 + R.cells ∧ h'.2.2.2.1 ≤ k0 + R.slots) (k : XK p l e R s m args below meth c Q M A D aC sp sc c0 k0 ws pc' L' S' h') : W p l e R s m args below meth c H locs cells slots Q (F0 m pc ls st) := by
  obtain ⟨hexec, hb, hml, hown, hts, hK, hA, hname, hdec, hfr, hlo, hscr, hsr, hao, hsx⟩ := C
  obtain ⟨hm, hn⟩ := xfetch_spec hf
  have hd : decode (xm_cc M) pc = .ok (.areturn, n) := dec_of hdec hf
  have hls : c.maxLocals = ls.size := hml.trans X.1.1.symm
  unfold xstep at hx
  dsimp only at hx
  repeat' (split at hx)
  all_goals cases hx
set_option maxHeartbeats 400000 in
theorem sn_return_  (C : XC p R s m args meth c M A D aC sp sc) {n : Nat} (hf : xfetch M pc = some (.return_, n)) (hx : xstep M (.return_) pc L S h = some (.inl (pc', L', S', h'))) (X : XS s A D aC sp sc M c0 k0 ws L S h ls st H locs cells slots) (hroom : h'.2.2.1 ≤ c0 + R.cells ∧ h'.2.2.2.1 ≤ k0 + R.slots) (k : XK p l e R s m args below meth c Q M A D aC sp sc c0 k0 ws pc' L' S' h') : W p l e R s m args below meth c H locs cells slots Q (F0 m pc ls st) := by
  obtain ⟨hexec, hb, hml, hown, hts, hK, hA, hname, hdec, hfr, hlo, hscr, hsr, hao, hsx⟩ := C
  obtain ⟨hm, hn⟩ := xfetch_spec hf
  have hd : decode (xm_cc M) pc = .ok (.return_, n) := dec_of hdec hf
  have hls : c.maxLocals = ls.size := hml.trans X.1.1.symm
  unfold xstep at hx
  dsimp only at hx
  repeat' (split at hx)
  all_goals cases hx
end Step
