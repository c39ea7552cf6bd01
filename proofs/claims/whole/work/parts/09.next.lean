theorem xcall_ne {M : XM} {As rest : List Value} {h : XH} {q : Nat × List Value × List Value × XH} : ¬ xcall M As rest h = some (.inl q) := by
  unfold xcall
  split
  · intro z; cases z
  · intro z; cases z
theorem xcp_spec {e0 e1 : Option va_E} {sp dp n : Int32} {f : va_E → Option XR} {r : XR} (h : xcp e0 e1 sp dp n f = some r) : ∃ n0 n1 g0 g1, e0 = some (.inl (0, n0, .inl g0)) ∧ e1 = some (.inl (0, n1, .inl g1)) ∧ ¬ sp < 0 ∧ ¬ dp < 0 ∧ ¬ n < 0 ∧ sp.toNatClampNeg + n.toNatClampNeg ≤ n0 ∧ dp.toNatClampNeg + n.toNatClampNeg ≤ n1 ∧ f (.inl (0, n1, .inl (va_cpy g0 g1 sp.toNatClampNeg dp.toNatClampNeg n.toNatClampNeg))) = some r := by
  unfold xcp at h
  split at h
  · next u n0 g0 v n1 g1 =>
    cases hb : (Nat.beq u 0 && Nat.beq v 0) with
    | false => rw [hb] at h; cases h
    | true =>
      rw [hb] at h
      simp only [Bool.and_eq_true] at hb
      have h1 := Nat.eq_of_beq_eq_true hb.1
      have h2 := Nat.eq_of_beq_eq_true hb.2
      subst h1; subst h2
      replace h : (if sp < 0 ∨ dp < 0 ∨ n < 0 ∨ n0 < sp.toNatClampNeg + n.toNatClampNeg ∨ n1 < dp.toNatClampNeg + n.toNatClampNeg then none else f (.inl (0, n1, .inl (va_cpy g0 g1 sp.toNatClampNeg dp.toNatClampNeg n.toNatClampNeg)))) = some r := h
      split at h
      · cases h
      · next hc =>
        simp only [not_or] at hc
        exact ⟨n0, n1, g0, g1, rfl, rfl, hc.1, hc.2.1, hc.2.2.1, Nat.not_lt.mp hc.2.2.2.1, Nat.not_lt.mp hc.2.2.2.2, h⟩
  · cases h
section Step
variable {p : Program} {l : Launch} {e : Env} {R : Room} {s : State} {m : MethodId} {args : Array Value} {below : List Frame} {meth : Method} {c : Code} {Q : State → Prop}
variable {M : XM} {A : Nat → Prop} {D : va_G} {aC : Nat → ClassId} {sp : Nat → Nat} {sc : Nat × (Nat → Int32)} {c0 k0 : Nat}
variable {ws : va_W} {L S L' S' : List Value} {h h' : XH} {ls : Array Slot} {st : List Value} {H : Heap} {locs : List Loc} {cells slots : Nat} {pc pc' : Nat}
theorem XS.world (X : XS s A D aC sp sc M c0 k0 ws L S h ls st H locs cells slots) {ws' : va_W} {h2 : XH} {S2 : List Value} {st2 : List Value} {H2 : Heap} {locs2 : List Loc} {cells2 slots2 : Nat} (E : Ext ws ws') (hS : SR ws' sp S2 st2) (hW : WR aC ws' sp h2) (hP : va_P D vwCl ws' H2) (hD : va_D A ws') (hV : va_S A s.heap H2 locs2) (h1 : cells2 + c0 = h2.2.2.1) (h3 : slots2 + k0 = h2.2.2.2.1) (h4 : h2.2.2.2.2 = h.2.2.2.2) : XS s A D aC sp sc M c0 k0 ws' L S2 h2 ls st2 H2 locs2 cells2 slots2 :=
  ⟨X.1.mono E, hS, hW, hP, hD, hV, h1, h3, fun q => h4.trans (X.2.2.2.2.2.2.2.2 q)⟩
/-- the class's rows -/
theorem cl_rows : ∀ (ci : Nat) (r : vw_C), 2 ≤ ci → vwCl[ci]? = some r → (∀ w ∈ u_ws r.1 r.2.1 r.2.2, w ∈ XT) ∧ (∀ k, k < r.2.2 → parseFieldDescriptor (r.2.1 k).2.2.1 = some (fty ci k)) ∧ (∀ a, a < r.2.2 → ∀ b, b < r.2.2 → a ≠ b → (r.2.1 a).2.1 ≠ (r.2.1 b).2.1) ∧ (∀ k, k < r.2.2 → (r.2.1 k).1 = r.1) ∧ r.1 = RN ci
  | 0, _, h, _ => absurd h (by decide)
  | 1, _, h, _ => absurd h (by decide)
  | 2, r, _, h => by cases h; exact ⟨fun w hw => List.mem_filter.mpr ⟨inX1 w hw, (show ∀ w ∈ wsX10, stab w = true by decide +kernel) w hw⟩, tyX1_ok, nmX1, by decide +kernel, rfl⟩
  | 3, r, _, h => by cases h; exact ⟨fun w hw => List.mem_filter.mpr ⟨inX2 w hw, (show ∀ w ∈ wsX20, stab w = true by decide +kernel) w hw⟩, tyX2_ok, nmX2, by decide +kernel, rfl⟩
  | 4, r, _, h => by cases h; exact ⟨fun w hw => List.mem_filter.mpr ⟨inX3 w hw, (show ∀ w ∈ wsX30, stab w = true by decide +kernel) w hw⟩, tyX3_ok, nmX3, by decide +kernel, rfl⟩
  | 5, r, _, h => by cases h; exact ⟨fun w hw => List.mem_filter.mpr ⟨inX4 w hw, (show ∀ w ∈ wsX40, stab w = true by decide +kernel) w hw⟩, tyX4_ok, nmX4, by decide +kernel, rfl⟩
  | 6, r, _, h => by cases h; exact ⟨fun w hw => List.mem_filter.mpr ⟨inX5 w hw, (show ∀ w ∈ wsX50, stab w = true by decide +kernel) w hw⟩, tyX5_ok, nmX5, by decide +kernel, rfl⟩
  | 7, r, _, h => by cases h; exact ⟨fun w hw => List.mem_filter.mpr ⟨inX6 w hw, (show ∀ w ∈ wsX60, stab w = true by decide +kernel) w hw⟩, tyX6_ok, nmX6, by decide +kernel, rfl⟩
  | 8, r, _, h => by cases h; exact ⟨fun w hw => List.mem_filter.mpr ⟨inX7 w hw, (show ∀ w ∈ wsX70, stab w = true by decide +kernel) w hw⟩, tyX7_ok, nmX7, by decide +kernel, rfl⟩
  | 9, r, _, h => by cases h; exact ⟨fun w hw => List.mem_filter.mpr ⟨inX8 w hw, (show ∀ w ∈ wsX80, stab w = true by decide +kernel) w hw⟩, tyX8_ok, nmX8, by decide +kernel, rfl⟩
  | n + 10, _, _, h => by simp [vwCl] at h
theorem xfit_spec {ty : FieldType} {v w : Value} {ws : va_W} {sp : Nat → Nat} (h : xfit ty v = true) (hv : VR ws sp v w) : narrow ty w = w ∧ fits ty w = true := by
  cases v with
  | int x =>
    cases hv
    cases ty with
    | int => exact ⟨rfl, rfl⟩
    | boolean =>
      have h1 : x = 0 ∨ x = 1 := of_decide_eq_true h
      rcases h1 with rfl | rfl <;> exact ⟨by decide, by decide⟩
    | _ => cases h
  | ref a =>
    obtain ⟨b, rfl⟩ := hv.ref
    cases ty with
    | object n => exact ⟨rfl, rfl⟩
    | array n => exact ⟨rfl, rfl⟩
    | _ => cases h
  | null =>
    cases hv
    cases ty with
    | object n => exact ⟨rfl, rfl⟩
    | array n => exact ⟨rfl, rfl⟩
    | _ => cases h
  | retAddr k => exact absurd hv id
  | _ => cases ty <;> cases h
theorem xtys_at {aC : Nat → ClassId} {t : Nat} (h : t < 5) : (xtys aC)[t]? = some (aC t, xty t) := by
  rcases t with _ | _ | _ | _ | _ | t
  · rfl
  · rfl
  · rfl
  · rfl
  · rfl
  · omega
theorem xblank_ok (ci N j : Nat) (hj : j < N) : defaultValue (fty ci j) = vp_V (xblank ci N) j := by
  simp [vp_V, xblank, List.getD_eq_getElem?_getD, hj]
theorem SR.blank (ws : va_W) (sp : Nat → Nat) (ci : Nat) : ∀ (l : List Nat), SR ws sp (l.map fun k => defaultValue (fty ci k)) (l.map fun k => defaultValue (fty ci k))
  | [] => rfl
  | k :: l => ⟨_, _, rfl, by cases fty ci k <;> rfl, SR.blank ws sp ci l⟩

set_option maxHeartbeats 4000000 in
theorem st_next (C : XC p R s m args meth c M A D aC sp sc) {i : Instr} {n : Nat} (hf : xfetch M pc = some (i, n)) (hx : xstep M i pc L S h = some (.inl (pc', L', S', h'))) (X : XS s A D aC sp sc M c0 k0 ws L S h ls st H locs cells slots) (hroom : h'.2.2.1 ≤ c0 + R.cells ∧ h'.2.2.2.1 ≤ k0 + R.slots) (k : XK p l e R s m args below meth c Q M A D aC sp sc c0 k0 ws pc' L' S' h') : W p l e R s m args below meth c H locs cells slots Q (F0 m pc ls st) := by
  obtain ⟨hexec, hb, hml, hown, hts, hK, hA, hname, hdec, hfr, hlo, hscr, hsr, hao⟩ := C
  obtain ⟨hm, hn⟩ := xfetch_spec hf
  have hd : decode (xm_cc M) pc = .ok (i, n) := hdec _ hm
  have hls : c.maxLocals = ls.size := hml.trans X.1.1.symm
  cases i with
  | iconst z =>
    obtain rfl : n = 1 := by simpa [xln, eq_comm] using hn
    obtain ⟨rfl, rfl, rfl, rfl⟩ := nx_inj (show nx _ _ _ _ = _ from hx)
    exact lv_iconst hexec hb hd rfl (k.stk X ⟨_, _, rfl, rfl, X.2.1⟩)
  | bipush z =>
    obtain rfl : n = 2 := by simpa [xln, eq_comm] using hn
    obtain ⟨rfl, rfl, rfl, rfl⟩ := nx_inj (show nx _ _ _ _ = _ from hx)
    exact lv_bipush hexec hb hd rfl (k.stk X ⟨_, _, rfl, rfl, X.2.1⟩)
  | sipush z =>
    obtain rfl : n = 3 := by simpa [xln, eq_comm] using hn
    obtain ⟨rfl, rfl, rfl, rfl⟩ := nx_inj (show nx _ _ _ _ = _ from hx)
    exact lv_sipush hexec hb hd rfl (k.stk X ⟨_, _, rfl, rfl, X.2.1⟩)
  | lconst z =>
    obtain rfl : n = 1 := by simpa [xln, eq_comm] using hn
    obtain ⟨rfl, rfl, rfl, rfl⟩ := nx_inj (show nx _ _ _ _ = _ from hx)
    exact lv_lconst hexec hb hd rfl (k.stk X ⟨_, _, rfl, rfl, X.2.1⟩)
  | aconst_null =>
    obtain rfl : n = 1 := by simpa [xln, eq_comm] using hn
    obtain ⟨rfl, rfl, rfl, rfl⟩ := nx_inj (show nx _ _ _ _ = _ from hx)
    exact lv_null hexec hb hd (k.stk X ⟨_, _, rfl, rfl, X.2.1⟩)
  | dconst z =>
    obtain rfl : n = 1 := by simpa [xln, eq_comm] using hn
    match z, hx, hd with
    | 0, hx, hd =>
      obtain ⟨rfl, rfl, rfl, rfl⟩ := nx_inj (show nx _ _ _ _ = _ from hx)
      exact lv_dconst0 hexec hb hd (k.stk X ⟨_, _, rfl, rfl, X.2.1⟩)
    | 1, hx, _ => exact absurd hx (by intro z; cases z)
  | iload_n z =>
    obtain rfl : n = 1 := by simpa [xln, eq_comm] using hn
    exact st_iload (show xiload _ _ _ _ _ = _ from hx) X k fun x hl kk => lv_iload_n hexec hb hd rfl hl kk
  | iload z =>
    obtain rfl : n = 2 := by simpa [xln, eq_comm] using hn
    exact st_iload (show xiload _ _ _ _ _ = _ from hx) X k fun x hl kk => lv_iload hexec hb hd hl kk
  | lload_n z =>
    obtain rfl : n = 1 := by simpa [xln, eq_comm] using hn
    exact st_lload (show xlload _ _ _ _ _ = _ from hx) X k fun x hl kk => lv_lload_n hexec hb hd rfl hl kk
  | lload z =>
    obtain rfl : n = 2 := by simpa [xln, eq_comm] using hn
    exact st_lload (show xlload _ _ _ _ _ = _ from hx) X k fun x hl kk => lv_lload hexec hb hd hl kk
  | dload_n z =>
    obtain rfl : n = 1 := by simpa [xln, eq_comm] using hn
    exact st_dload (show xdload _ _ _ _ _ = _ from hx) X k fun x hl kk => lv_dload_n hexec hb hd rfl hl kk
  | dload z =>
    obtain rfl : n = 2 := by simpa [xln, eq_comm] using hn
    exact st_dload (show xdload _ _ _ _ _ = _ from hx) X k fun x hl kk => lv_dload hexec hb hd hl kk
  | aload_n z =>
    obtain rfl : n = 1 := by simpa [xln, eq_comm] using hn
    exact st_aload (show xaload _ _ _ _ _ = _ from hx) X k fun x hl kk => lv_aload_n hexec hb hd rfl hl kk
  | aload z =>
    obtain rfl : n = 2 := by simpa [xln, eq_comm] using hn
    exact st_aload (show xaload _ _ _ _ _ = _ from hx) X k fun x hl kk => lv_aload hexec hb hd hl kk
  | istore_n z =>
    obtain rfl : n = 1 := by simpa [xln, eq_comm] using hn
    exact st_istore (show xistore _ _ _ _ _ = _ from hx) X k fun x rest hi hl kk => lv_istore_n hexec hb hd rfl hl hi rfl kk
  | istore z =>
    obtain rfl : n = 2 := by simpa [xln, eq_comm] using hn
    exact st_istore (show xistore _ _ _ _ _ = _ from hx) X k fun x rest hi hl kk => lv_istore hexec hb hd hl hi rfl kk
  | astore_n z =>
    obtain rfl : n = 1 := by simpa [xln, eq_comm] using hn
    exact st_astore (show xastore _ _ _ _ _ = _ from hx) X k fun x rest hi hl kk => lv_astore_n hexec hb hd rfl hl hi rfl kk
  | astore z =>
    obtain rfl : n = 2 := by simpa [xln, eq_comm] using hn
    exact st_astore (show xastore _ _ _ _ _ = _ from hx) X k fun x rest hi hl kk => lv_astore hexec hb hd hl hi rfl kk
  | lstore_n z =>
    obtain rfl : n = 1 := by simpa [xln, eq_comm] using hn
    exact st_lstore (show xlstore _ _ _ _ _ = _ from hx) X k fun x rest hi hl kk => lv_lstore_n hexec hb hd rfl hl hi rfl kk
  | lstore z =>
    obtain rfl : n = 2 := by simpa [xln, eq_comm] using hn
    exact st_lstore (show xlstore _ _ _ _ _ = _ from hx) X k fun x rest hi hl kk => lv_lstore hexec hb hd hl hi rfl kk
  | dstore_n z =>
    obtain rfl : n = 1 := by simpa [xln, eq_comm] using hn
    exact st_dstore (show xdstore _ _ _ _ _ = _ from hx) X k fun x rest hi hl kk => lv_dstore_n hexec hb hd rfl hl hi rfl kk
  | dstore z =>
    obtain rfl : n = 2 := by simpa [xln, eq_comm] using hn
    exact st_dstore (show xdstore _ _ _ _ _ = _ from hx) X k fun x rest hi hl kk => lv_dstore hexec hb hd hl hi rfl kk
  | iinc z y =>
    obtain rfl : n = 3 := by simpa [xln, eq_comm] using hn
    replace hx : xlo L z (fun v => match v with
      | .int x => nx (pc + 3) (xsto1 L z (.int (x + Int32.ofInt y))) S h
      | _ => none) = _ := hx
    unfold xlo at hx
    split at hx
    · next v hv =>
      dsimp only at hx
      split at hx
      · next x =>
        obtain ⟨rfl, rfl, rfl, rfl⟩ := nx_inj hx
        obtain ⟨w, h1, h2⟩ := X.1.at hv (fun _ => by intro z; cases z)
        cases h1
        obtain ⟨j, hj⟩ := List.getElem?_of_mem (lvAll_mem h2)
        have hz : z < xm_maxL M := by rw [← X.1.2.1]; exact (List.getElem?_eq_some_iff.mp hv).1
        refine lv_iinc hexec hb hd (lvAll_has X.1.1 X.1.2.2.1) hj rfl hz rfl fun ls' hl => ?_
        exact k.loc X (X.1.sto1 (Or.inl rfl) hl) X.2.1
      · cases hx
    · cases hx
  | iadd =>
    obtain rfl : n = 1 := by simpa [xln, eq_comm] using hn
    exact st_ii (show xii _ _ _ _ _ = _ from hx) X k fun x y rest kk => lv_iadd hexec hb hd kk
  | isub =>
    obtain rfl : n = 1 := by simpa [xln, eq_comm] using hn
    exact st_ii (show xii _ _ _ _ _ = _ from hx) X k fun x y rest kk => lv_isub hexec hb hd kk
  | imul =>
    obtain rfl : n = 1 := by simpa [xln, eq_comm] using hn
    exact st_ii (show xii _ _ _ _ _ = _ from hx) X k fun x y rest kk => lv_imul hexec hb hd kk
  | iand =>
    obtain rfl : n = 1 := by simpa [xln, eq_comm] using hn
    exact st_ii (show xii _ _ _ _ _ = _ from hx) X k fun x y rest kk => lv_iand hexec hb hd kk
  | ior =>
    obtain rfl : n = 1 := by simpa [xln, eq_comm] using hn
    exact st_ii (show xii _ _ _ _ _ = _ from hx) X k fun x y rest kk => lv_ior hexec hb hd kk
  | ishl =>
    obtain rfl : n = 1 := by simpa [xln, eq_comm] using hn
    exact st_ii (show xii _ _ _ _ _ = _ from hx) X k fun x y rest kk => lv_ishl hexec hb hd kk
  | ishr =>
    obtain rfl : n = 1 := by simpa [xln, eq_comm] using hn
    exact st_ii (show xii _ _ _ _ _ = _ from hx) X k fun x y rest kk => lv_ishr hexec hb hd kk
  | land =>
    obtain rfl : n = 1 := by simpa [xln, eq_comm] using hn
    exact st_ll (show xll _ _ _ _ _ = _ from hx) X k fun x y rest kk => lv_land hexec hb hd kk
  | lor =>
    obtain rfl : n = 1 := by simpa [xln, eq_comm] using hn
    exact st_ll (show xll _ _ _ _ _ = _ from hx) X k fun x y rest kk => lv_lor hexec hb hd kk
  | lshl =>
    obtain rfl : n = 1 := by simpa [xln, eq_comm] using hn
    exact st_li (show xli _ _ _ _ _ = _ from hx) X k fun x y rest kk => lv_lshl hexec hb hd rfl kk
  | lshr =>
    obtain rfl : n = 1 := by simpa [xln, eq_comm] using hn
    exact st_li (show xli _ _ _ _ _ = _ from hx) X k fun x y rest kk => lv_lshr hexec hb hd rfl kk
  | lcmp =>
    obtain rfl : n = 1 := by simpa [xln, eq_comm] using hn
    replace hx : (match S with
      | .long y :: .long x :: S => nx (pc + 1) L (.int (lg_cmp x y) :: S) h
      | _ => none) = _ := hx
    split at hx
    · obtain ⟨rfl, rfl, rfl, rfl⟩ := nx_inj hx
      obtain ⟨_, _, rfl, e1, _, _, rfl, e2, hT⟩ := X.2.1
      cases e1; cases e2
      exact W.lcmp hexec hb hd (k.stk X ⟨_, _, rfl, rfl, hT⟩)
    · cases hx
  | idiv =>
    obtain rfl : n = 1 := by simpa [xln, eq_comm] using hn
    replace hx : (match S with
      | .int y :: .int x :: S => if y = 0 then none else nx (pc + 1) L (.int (x / y) :: S) h
      | _ => none) = _ := hx
    split at hx
    · split at hx
      · cases hx
      · next hne =>
        obtain ⟨rfl, rfl, rfl, rfl⟩ := nx_inj hx
        obtain ⟨_, _, rfl, e1, _, _, rfl, e2, hT⟩ := X.2.1
        cases e1; cases e2
        exact lv_idiv hexec hb hd hne (k.stk X ⟨_, _, rfl, rfl, hT⟩)
    · cases hx
  | irem =>
    obtain rfl : n = 1 := by simpa [xln, eq_comm] using hn
    replace hx : (match S with
      | .int y :: .int x :: S => if y = 0 then none else nx (pc + 1) L (.int (x % y) :: S) h
      | _ => none) = _ := hx
    split at hx
    · split at hx
      · cases hx
      · next hne =>
        obtain ⟨rfl, rfl, rfl, rfl⟩ := nx_inj hx
        obtain ⟨_, _, rfl, e1, _, _, rfl, e2, hT⟩ := X.2.1
        cases e1; cases e2
        exact lv_irem hexec hb hd hne (k.stk X ⟨_, _, rfl, rfl, hT⟩)
    · cases hx
  | ineg =>
    obtain rfl : n = 1 := by simpa [xln, eq_comm] using hn
    replace hx : (match S with
      | .int x :: S => nx (pc + 1) L (.int (-x) :: S) h
      | _ => none) = _ := hx
    split at hx
    · obtain ⟨rfl, rfl, rfl, rfl⟩ := nx_inj hx
      obtain ⟨_, _, rfl, e1, hT⟩ := X.2.1
      cases e1
      exact lv_ineg hexec hb hd (k.stk X ⟨_, _, rfl, rfl, hT⟩)
    · cases hx
  | i2l =>
    obtain rfl : n = 1 := by simpa [xln, eq_comm] using hn
    replace hx : (match S with
      | .int x :: S => nx (pc + 1) L (.long x.toInt64 :: S) h
      | _ => none) = _ := hx
    split at hx
    · obtain ⟨rfl, rfl, rfl, rfl⟩ := nx_inj hx
      obtain ⟨_, _, rfl, e1, hT⟩ := X.2.1
      cases e1
      exact lv_i2l hexec hb hd rfl (k.stk X ⟨_, _, rfl, rfl, hT⟩)
    · cases hx
  | i2c =>
    obtain rfl : n = 1 := by simpa [xln, eq_comm] using hn
    replace hx : (match S with
      | .int x :: S => nx (pc + 1) L (.int (x.toUInt32 % 65536).toInt32 :: S) h
      | _ => none) = _ := hx
    split at hx
    · obtain ⟨rfl, rfl, rfl, rfl⟩ := nx_inj hx
      obtain ⟨_, _, rfl, e1, hT⟩ := X.2.1
      cases e1
      exact lv_i2c hexec hb hd rfl (k.stk X ⟨_, _, rfl, rfl, hT⟩)
    · cases hx
  | i2d =>
    obtain rfl : n = 1 := by simpa [xln, eq_comm] using hn
    replace hx : (match S with
      | .int x :: S => nx (pc + 1) L (.double (FP.i2d x) :: S) h
      | _ => none) = _ := hx
    split at hx
    · obtain ⟨rfl, rfl, rfl, rfl⟩ := nx_inj hx
      obtain ⟨_, _, rfl, e1, hT⟩ := X.2.1
      cases e1
      exact lv_i2d hexec hb hd (k.stk X ⟨_, _, rfl, rfl, hT⟩)
    · cases hx
  | ddiv =>
    obtain rfl : n = 1 := by simpa [xln, eq_comm] using hn
    replace hx : (match S with
      | .double y :: .double x :: S => if FP.ddiv x y &&& 0x7fffffffffffffff ≤ 0x7ff0000000000000 then nx (pc + 1) L (.double (FP.ddiv x y) :: S) h else none
      | _ => none) = _ := hx
    split at hx
    · split at hx
      · next hne =>
        obtain ⟨rfl, rfl, rfl, rfl⟩ := nx_inj hx
        obtain ⟨_, _, rfl, e1, _, _, rfl, e2, hT⟩ := X.2.1
        cases e1; cases e2
        exact lv_ddiv hexec hb hd hne (k.stk X ⟨_, _, rfl, rfl, hT⟩)
      · cases hx
    · cases hx
  | dcmp op =>
    obtain rfl : n = 1 := by simpa [xln, eq_comm] using hn
    replace hx : (match S with
      | .double y :: .double x :: S => nx (pc + 1) L (.int (Op.cmpValue (FP.dcmp x y) op) :: S) h
      | _ => none) = _ := hx
    split at hx
    · obtain ⟨rfl, rfl, rfl, rfl⟩ := nx_inj hx
      obtain ⟨_, _, rfl, e1, _, _, rfl, e2, hT⟩ := X.2.1
      cases e1; cases e2
      exact lv_dcmp hexec hb hd (k.stk X ⟨_, _, rfl, rfl, hT⟩)
    · cases hx
  | dup =>
    obtain rfl : n = 1 := by simpa [xln, eq_comm] using hn
    replace hx : (match S with
      | .int x :: S => nx (pc + 1) L (.int x :: .int x :: S) h
      | .ref x :: S => nx (pc + 1) L (.ref x :: .ref x :: S) h
      | _ => none) = _ := hx
    split at hx
    · obtain ⟨rfl, rfl, rfl, rfl⟩ := nx_inj hx
      obtain ⟨_, _, rfl, e1, hT⟩ := X.2.1
      cases e1
      exact lv_dup hexec hb hd rfl (k.stk X ⟨_, _, rfl, rfl, _, _, rfl, rfl, hT⟩)
    · obtain ⟨rfl, rfl, rfl, rfl⟩ := nx_inj hx
      obtain ⟨_, _, rfl, e1, hT⟩ := X.2.1
      obtain ⟨b, rfl⟩ := e1.ref
      exact lv_dup hexec hb hd rfl (k.stk X ⟨_, _, rfl, e1, _, _, rfl, e1, hT⟩)
    · cases hx
  | pop =>
    obtain rfl : n = 1 := by simpa [xln, eq_comm] using hn
    replace hx : (match S with
      | .int _ :: S => nx (pc + 1) L S h
      | _ => none) = _ := hx
    split at hx
    · obtain ⟨rfl, rfl, rfl, rfl⟩ := nx_inj hx
      obtain ⟨_, _, rfl, e1, hT⟩ := X.2.1
      cases e1
      exact lv_pop hexec hb hd rfl (k.stk X hT)
    · cases hx
  | dup2 =>
    obtain rfl : n = 1 := by simpa [xln, eq_comm] using hn
    replace hx : (match S with
      | .int y :: .ref x :: S => nx (pc + 1) L (.int y :: .ref x :: .int y :: .ref x :: S) h
      | _ => none) = _ := hx
    split at hx
    · obtain ⟨rfl, rfl, rfl, rfl⟩ := nx_inj hx
      obtain ⟨_, _, rfl, e1, _, _, rfl, e2, hT⟩ := X.2.1
      cases e1
      obtain ⟨b, rfl⟩ := e2.ref
      exact lv_dup2_11 hexec hb hd rfl rfl (k.stk X ⟨_, _, rfl, rfl, _, _, rfl, e2, _, _, rfl, rfl, _, _, rfl, e2, hT⟩)
    · cases hx
  | dup_x1 =>
    obtain rfl : n = 1 := by simpa [xln, eq_comm] using hn
    replace hx : (match S with
      | .int y :: .ref x :: S => nx (pc + 1) L (.int y :: .ref x :: .int y :: S) h
      | _ => none) = _ := hx
    split at hx
    · obtain ⟨rfl, rfl, rfl, rfl⟩ := nx_inj hx
      obtain ⟨_, _, rfl, e1, _, _, rfl, e2, hT⟩ := X.2.1
      cases e1
      obtain ⟨b, rfl⟩ := e2.ref
      exact lv_dup_x1 hexec hb hd rfl rfl (k.stk X ⟨_, _, rfl, rfl, _, _, rfl, e2, _, _, rfl, rfl, hT⟩)
    · cases hx
  | ifCond cd off =>
    obtain rfl : n = 3 := by simpa [xln, eq_comm] using hn
    replace hx : (match S with
      | .int x :: S => if 0 ≤ (pc : Int) + off then xif cd x 0 (xj pc off L S h) (nx (pc + 3) L S h) else none
      | _ => none) = _ := hx
    split at hx
    · split at hx
      · next h0 =>
        obtain ⟨_, _, rfl, e1, hT⟩ := X.2.1
        cases e1
        have ht := (Int.toNat_of_nonneg h0).symm
        cases cd <;> unfold xif at hx <;> dsimp only at hx <;> split at hx
        · next hc => obtain ⟨ht, rfl, rfl, rfl⟩ := xj_inj hx; exact lv_if_eq hexec hb hd ht (fun _ => k.stk X hT) (fun z => absurd hc z)
        · next hc => obtain ⟨rfl, rfl, rfl, rfl⟩ := nx_inj hx; exact lv_if_eq hexec hb hd ht (fun z => absurd z hc) (fun _ => k.stk X hT)
        · next hc => obtain ⟨ht, rfl, rfl, rfl⟩ := xj_inj hx; exact lv_if_ne hexec hb hd ht (fun _ => k.stk X hT) (fun z => absurd hc z)
        · next hc => obtain ⟨rfl, rfl, rfl, rfl⟩ := nx_inj hx; exact lv_if_ne hexec hb hd ht (fun z => absurd z hc) (fun _ => k.stk X hT)
        · next hc => obtain ⟨ht, rfl, rfl, rfl⟩ := xj_inj hx; exact lv_if_lt hexec hb hd ht (fun _ => k.stk X hT) (fun z => absurd hc z)
        · next hc => obtain ⟨rfl, rfl, rfl, rfl⟩ := nx_inj hx; exact lv_if_lt hexec hb hd ht (fun z => absurd z hc) (fun _ => k.stk X hT)
        · next hc => obtain ⟨ht, rfl, rfl, rfl⟩ := xj_inj hx; exact lv_if_ge hexec hb hd ht (fun _ => k.stk X hT) (fun z => absurd hc z)
        · next hc => obtain ⟨rfl, rfl, rfl, rfl⟩ := nx_inj hx; exact lv_if_ge hexec hb hd ht (fun z => absurd z hc) (fun _ => k.stk X hT)
        · next hc => obtain ⟨ht, rfl, rfl, rfl⟩ := xj_inj hx; exact lv_if_gt hexec hb hd ht (fun _ => k.stk X hT) (fun z => absurd hc z)
        · next hc => obtain ⟨rfl, rfl, rfl, rfl⟩ := nx_inj hx; exact lv_if_gt hexec hb hd ht (fun z => absurd z hc) (fun _ => k.stk X hT)
        · next hc => obtain ⟨ht, rfl, rfl, rfl⟩ := xj_inj hx; exact lv_if_le hexec hb hd ht (fun _ => k.stk X hT) (fun z => absurd hc z)
        · next hc => obtain ⟨rfl, rfl, rfl, rfl⟩ := nx_inj hx; exact lv_if_le hexec hb hd ht (fun z => absurd z hc) (fun _ => k.stk X hT)
      · cases hx
    · cases hx
  | if_icmp cd off =>
    obtain rfl : n = 3 := by simpa [xln, eq_comm] using hn
    replace hx : (match S with
      | .int y :: .int x :: S => if 0 ≤ (pc : Int) + off then xif cd x y (xj pc off L S h) (nx (pc + 3) L S h) else none
      | _ => none) = _ := hx
    split at hx
    · split at hx
      · next h0 =>
        obtain ⟨_, _, rfl, e1, _, _, rfl, e2, hT⟩ := X.2.1
        cases e1; cases e2
        have ht := (Int.toNat_of_nonneg h0).symm
        cases cd <;> unfold xif at hx <;> dsimp only at hx <;> split at hx
        · next hc => obtain ⟨ht, rfl, rfl, rfl⟩ := xj_inj hx; exact lv_icmp_eq hexec hb hd ht (fun _ => k.stk X hT) (fun z => absurd hc z)
        · next hc => obtain ⟨rfl, rfl, rfl, rfl⟩ := nx_inj hx; exact lv_icmp_eq hexec hb hd ht (fun z => absurd z hc) (fun _ => k.stk X hT)
        · next hc => obtain ⟨ht, rfl, rfl, rfl⟩ := xj_inj hx; exact lv_icmp_ne hexec hb hd ht (fun _ => k.stk X hT) (fun z => absurd hc z)
        · next hc => obtain ⟨rfl, rfl, rfl, rfl⟩ := nx_inj hx; exact lv_icmp_ne hexec hb hd ht (fun z => absurd z hc) (fun _ => k.stk X hT)
        · next hc => obtain ⟨ht, rfl, rfl, rfl⟩ := xj_inj hx; exact lv_icmp_lt hexec hb hd ht (fun _ => k.stk X hT) (fun z => absurd hc z)
        · next hc => obtain ⟨rfl, rfl, rfl, rfl⟩ := nx_inj hx; exact lv_icmp_lt hexec hb hd ht (fun z => absurd z hc) (fun _ => k.stk X hT)
        · next hc => obtain ⟨ht, rfl, rfl, rfl⟩ := xj_inj hx; exact lv_icmp_ge hexec hb hd ht (fun _ => k.stk X hT) (fun z => absurd hc z)
        · next hc => obtain ⟨rfl, rfl, rfl, rfl⟩ := nx_inj hx; exact lv_icmp_ge hexec hb hd ht (fun z => absurd z hc) (fun _ => k.stk X hT)
        · next hc => obtain ⟨ht, rfl, rfl, rfl⟩ := xj_inj hx; exact lv_icmp_gt hexec hb hd ht (fun _ => k.stk X hT) (fun z => absurd hc z)
        · next hc => obtain ⟨rfl, rfl, rfl, rfl⟩ := nx_inj hx; exact lv_icmp_gt hexec hb hd ht (fun z => absurd z hc) (fun _ => k.stk X hT)
        · next hc => obtain ⟨ht, rfl, rfl, rfl⟩ := xj_inj hx; exact lv_icmp_le hexec hb hd ht (fun _ => k.stk X hT) (fun z => absurd hc z)
        · next hc => obtain ⟨rfl, rfl, rfl, rfl⟩ := nx_inj hx; exact lv_icmp_le hexec hb hd ht (fun z => absurd z hc) (fun _ => k.stk X hT)
      · cases hx
    · cases hx
  | goto off =>
    obtain rfl : n = 3 := by simpa [xln, eq_comm] using hn
    obtain ⟨ht, rfl, rfl, rfl⟩ := xj_inj (show xj _ _ _ _ _ = _ from hx)
    exact lv_goto hexec hb hd ht (k.stk X X.2.1)
  | ifnull off =>
    obtain rfl : n = 3 := by simpa [xln, eq_comm] using hn
    replace hx : (match S with
      | .null :: S => xj pc off L S h
      | .ref _ :: S => nx (pc + 3) L S h
      | _ => none) = _ := hx
    split at hx
    · obtain ⟨ht, rfl, rfl, rfl⟩ := xj_inj hx
      obtain ⟨_, _, rfl, e1, hT⟩ := X.2.1
      cases e1
      exact lv_ifnullN hexec hb hd ht (k.stk X hT)
    · obtain ⟨rfl, rfl, rfl, rfl⟩ := nx_inj hx
      obtain ⟨_, _, rfl, e1, hT⟩ := X.2.1
      obtain ⟨b, rfl⟩ := e1.ref
      exact lv_ifnull hexec hb hd (k.stk X hT)
    · cases hx
  | tableswitch d lo hi offs =>
    replace hx : (match S with
      | .int x :: S => if x.toInt < lo ∨ hi < x.toInt then xj pc d L S h else (match offs[(x.toInt - lo).toNat]? with
        | some off => xj pc off L S h
        | none => none)
      | _ => none) = _ := hx
    split at hx
    · obtain ⟨_, _, rfl, e1, hT⟩ := X.2.1
      cases e1
      split at hx
      · next hc =>
        obtain ⟨ht, rfl, rfl, rfl⟩ := xj_inj hx
        exact lv_tableOut hexec hb hd hc ht (k.stk X hT)
      · next hc =>
        split at hx
        · next off ho =>
          obtain ⟨ht, rfl, rfl, rfl⟩ := xj_inj hx
          exact lv_tableIn hexec hb hd (fun z => hc (Or.inl z)) (fun z => hc (Or.inr z)) ho ht (k.stk X hT)
        · cases hx
    · cases hx
  | lookupswitch d ps =>
    replace hx : (match S with
      | .int x :: S => bif (ps.toList.zip (ps.toList.drop 1)).all (fun q => decide (q.1.1 < q.2.1)) then xj pc (Op.lookupswitch.offset ps.toList d x.toInt) L S h else none
      | _ => none) = _ := hx
    split at hx
    · obtain ⟨_, _, rfl, e1, hT⟩ := X.2.1
      cases e1
      cases hc : (ps.toList.zip (ps.toList.drop 1)).all (fun q => decide (q.1.1 < q.2.1)) with
      | false => rw [hc] at hx; cases hx
      | true =>
        rw [hc] at hx
        obtain ⟨ht, rfl, rfl, rfl⟩ := xj_inj (show xj _ _ _ _ _ = _ from hx)
        exact lv_lookup hexec hb hd hc rfl ht (k.stk X hT)
    · cases hx
  | getfield idx =>
    obtain rfl : n = 3 := by simpa [xln, eq_comm] using hn
    replace hx : (match S with
      | .ref a :: S => (match xlk fT (xm_own M) idx with
        | some (ci, k, _) => xgf (hget h a) ci k fun v => nx (pc + 3) L (v :: S) h
        | none => none)
      | _ => none) = _ := hx
    split at hx
    · split at hx
      · next ci j nest hft =>
        obtain ⟨hmem, hk1, hk2⟩ := xlk_mem hft
        obtain ⟨r, h2, hr, hj, hl1, hl2⟩ := fT_ok _ hmem
        dsimp only at h2 hr hj hl1 hl2
        rw [hk1, hk2] at hl1 hl2
        obtain ⟨fs, v, hg, hv, hx⟩ := xgf_spec hx
        obtain ⟨rfl, rfl, rfl, rfl⟩ := nx_inj hx
        obtain ⟨_, _, rfl, e1, hT⟩ := X.2.1
        obtain ⟨b, _, hq, rfl, _, gs, rfl, hgs⟩ := X.2.2.1.ref hg e1
        obtain ⟨w, hw, hvw⟩ := hgs.get hv
        obtain ⟨hin, _, _, _, _⟩ := cl_rows ci r h2 hr
        cases nest with
        | false => exact va_get (T := r.2.1) (N := r.2.2) (C := r.1) hexec hb hts hin hown hK X.2.2.2.1 _ hq hr j hj (hts _ (hl1 rfl).inT) (fun _ z => z) hw hd (k.stk X ⟨_, _, rfl, hvw, hT⟩)
        | true => exact va_getN (T := r.2.1) (N := r.2.2) (C := r.1) hexec hb hts hin hown hK X.2.2.2.1 _ hq hr j hj (hts _ (hl2 rfl).inT) (fun _ z => z) hw hd (k.stk X ⟨_, _, rfl, hvw, hT⟩)
      · cases hx
    · cases hx
  | putfield idx =>
    obtain rfl : n = 3 := by simpa [xln, eq_comm] using hn
    replace hx : (match S with
      | v :: .ref a :: S => (match xlk fT (xm_own M) idx with
        | some (ci, k, nest) => (match vwCl[ci]? with
          | some r => bif (!(r.2.1 k).2.2.2) || ((!nest) && (xm_y M).name == "<init>" && (Nat.beq (xm_own M) ci)) then xpf (hget h a) ci k v fun e => nx (pc + 3) L S (hset h a e) else none
          | none => none)
        | none => none)
      | _ => none) = _ := hx
    split at hx
    · split at hx
      · next ci j nest hft =>
        split at hx
        · next r hr =>
          obtain ⟨hmem, hk1, hk2⟩ := xlk_mem hft
          obtain ⟨r', h2, hr', hj, hl1, hl2⟩ := fT_ok _ hmem
          dsimp only at h2 hr' hj hl1 hl2
          cases hr.symm.trans hr'
          rw [hk1, hk2] at hl1 hl2
          cases hc : ((!(r.2.1 j).2.2.2) || ((!nest) && (xm_y M).name == "<init>" && (Nat.beq (xm_own M) ci))) with
          | false => rw [hc] at hx; cases hx
          | true =>
            rw [hc] at hx
            obtain ⟨fs, hg, hlen, hfit, hx⟩ := xpf_spec (show xpf _ _ _ _ _ = _ from hx)
            obtain ⟨rfl, rfl, rfl, rfl⟩ := nx_inj hx
            obtain ⟨_, _, rfl, e1, _, _, rfl, e2, hT⟩ := X.2.1
            obtain ⟨b, _, hq, rfl, h02, gs, rfl, hgs⟩ := X.2.2.1.ref hg e2
            obtain ⟨hin, hty, hnm, hdec1, hRN⟩ := cl_rows ci r h2 hr
            obtain ⟨f1, f2⟩ := xfit_spec hfit e1
            have hlen' : j < gs.length := by rw [hgs.len]; exact hlen
            have fin : ∀ (H1 : Heap) (locs1 : List Loc), va_P D vwCl (ws.set _ (b, .inr (ci, gs.set j _))) H1 → va_D A (ws.set _ (b, .inr (ci, gs.set j _))) → va_S A s.heap H1 locs1 → _ := fun H1 locs1 q1 q2 q3 =>
              k ls _ H1 locs1 cells slots _ (Ext.set hq) (X.world (Ext.set hq) (hT.mono (Ext.set hq)) (X.2.2.1.set hq (x := .inr (ci, fs.set j _)) ⟨h02, _, rfl, hgs.setv e1⟩) q1 q2 q3 X.2.2.2.2.2.2.1 X.2.2.2.2.2.2.2.1 rfl)
            cases hfn : (r.2.1 j).2.2.2 with
            | false =>
              cases nest with
              | false => exact va_put (T := r.2.1) (N := r.2.2) (C := r.1) hexec hb hts hin (fty ci) hty hnm hown hK X.2.2.2.1 X.2.2.2.2.1 X.2.2.2.2.2.1 _ hq hr j hj (hts _ (hl1 rfl).inT) (fun _ z => z) hfn (hty j hj) f1 f2 hlen' hd fin
              | true => exact va_putN (T := r.2.1) (N := r.2.2) (C := r.1) hexec hb hts hin (fty ci) hty hnm hown hK X.2.2.2.1 X.2.2.2.2.1 X.2.2.2.2.2.1 _ hq hr j hj (hts _ (hl2 rfl).inT) (fun _ z => z) hfn (hty j hj) f1 f2 hlen' hd fin
            | true =>
              rw [hfn] at hc
              simp only [Bool.not_true, Bool.false_or, Bool.and_eq_true, Bool.not_eq_true', beq_iff_eq] at hc
              obtain ⟨⟨rfl, hi⟩, ho⟩ := hc
              have ho := Nat.eq_of_beq_eq_true ho
              exact va_putF (T := r.2.1) (N := r.2.2) (C := r.1) hexec hb hts hin (fty ci) hty hnm hown hK X.2.2.2.1 X.2.2.2.2.1 X.2.2.2.2.2.1 _ hq hr j hj (hts _ (hl1 rfl).inT) (fun _ z => z) hfn (hname.trans hi) (by rw [hdec1 j hj, hRN, ho]) (hty j hj) f1 f2 hlen' hd fin
        · cases hx
      · cases hx
    · cases hx
  | baload =>
    obtain rfl : n = 1 := by simpa [xln, eq_comm] using hn
    replace hx : (match S with
      | .int i :: .ref a :: S => xga (hget h a) 1 i fun x => nx (pc + 1) L (.int x :: S) h
      | _ => none) = _ := hx
    split at hx
    · obtain ⟨n9, g, hg, hi, hx⟩ := xga_spec hx
      obtain ⟨rfl, rfl, rfl, rfl⟩ := nx_inj hx
      obtain ⟨_, _, rfl, e1, _, _, rfl, e2, hT⟩ := X.2.1
      cases e1
      obtain ⟨b, _, hq, rfl, _, rfl⟩ := X.2.2.1.ref hg e2
      exact va_zald hexec hb hK X.2.2.2.1 _ 1 hq rfl hi hd (k.stk X ⟨_, _, rfl, rfl, hT⟩)
    · cases hx
  | caload =>
    obtain rfl : n = 1 := by simpa [xln, eq_comm] using hn
    replace hx : (match S with
      | .int i :: .ref a :: S => xga (hget h a) 2 i fun x => nx (pc + 1) L (.int x :: S) h
      | _ => none) = _ := hx
    split at hx
    · obtain ⟨n9, g, hg, hi, hx⟩ := xga_spec hx
      obtain ⟨rfl, rfl, rfl, rfl⟩ := nx_inj hx
      obtain ⟨_, _, rfl, e1, _, _, rfl, e2, hT⟩ := X.2.1
      cases e1
      obtain ⟨b, _, hq, rfl, _, rfl⟩ := X.2.2.1.ref hg e2
      exact va_cald hexec hb hK X.2.2.2.1 _ 2 hq rfl hi hd (k.stk X ⟨_, _, rfl, rfl, hT⟩)
    · cases hx
  | laload =>
    obtain rfl : n = 1 := by simpa [xln, eq_comm] using hn
    replace hx : (match S with
      | .int i :: .ref a :: S => xgl (hget h a) i fun x => nx (pc + 1) L (.long x :: S) h
      | _ => none) = _ := hx
    split at hx
    · obtain ⟨n9, g, hg, hi, hx⟩ := xgl_spec hx
      obtain ⟨rfl, rfl, rfl, rfl⟩ := nx_inj hx
      obtain ⟨_, _, rfl, e1, _, _, rfl, e2, hT⟩ := X.2.1
      cases e1
      obtain ⟨b, _, hq, rfl, _, rfl⟩ := X.2.2.1.ref hg e2
      exact va_lald hexec hb hK X.2.2.2.1 _ 3 hq rfl hi hd (k.stk X ⟨_, _, rfl, rfl, hT⟩)
    · cases hx
  | daload =>
    obtain rfl : n = 1 := by simpa [xln, eq_comm] using hn
    replace hx : (match S with
      | .int i :: .ref a :: S => xgd (hget h a) i fun x => nx (pc + 1) L (.double x :: S) h
      | _ => none) = _ := hx
    split at hx
    · obtain ⟨n9, g, hg, hi, hx⟩ := xgd_spec hx
      obtain ⟨rfl, rfl, rfl, rfl⟩ := nx_inj hx
      obtain ⟨_, _, rfl, e1, _, _, rfl, e2, hT⟩ := X.2.1
      cases e1
      obtain ⟨b, _, hq, rfl, _, rfl⟩ := X.2.2.1.ref hg e2
      exact va_dald hexec hb hK X.2.2.2.1 _ 4 hq rfl hi hd (k.stk X ⟨_, _, rfl, rfl, hT⟩)
    · cases hx
  | iaload =>
    obtain rfl : n = 1 := by simpa [xln, eq_comm] using hn
    replace hx : (match S with
      | .int i :: .ref a :: S => bif Nat.beq (xm_own M) 11 && Nat.beq a 2000000 then (if i < 0 ∨ h.2.2.2.2.1 ≤ i.toNatClampNeg then none else nx (pc + 1) L (.int (h.2.2.2.2.2 i.toNatClampNeg) :: S) h)
            else xga (hget h a) 0 i fun x => nx (pc + 1) L (.int x :: S) h
      | _ => none) = _ := hx
    split at hx
    · next i a S0 =>
      cases hc : (Nat.beq (xm_own M) 11 && Nat.beq a 2000000) with
      | false =>
        rw [hc] at hx
        obtain ⟨n9, g, hg, hi, hx⟩ := xga_spec (show xga _ _ _ _ = _ from hx)
        obtain ⟨rfl, rfl, rfl, rfl⟩ := nx_inj hx
        obtain ⟨_, _, rfl, e1, _, _, rfl, e2, hT⟩ := X.2.1
        cases e1
        obtain ⟨b, _, hq, rfl, _, rfl⟩ := X.2.2.1.ref hg e2
        exact va_iald hexec hb hK X.2.2.2.1 _ 0 hq rfl hi hd (k.stk X ⟨_, _, rfl, rfl, hT⟩)
      | true =>
        rw [hc] at hx
        rw [Bool.and_eq_true] at hc
        have ho := Nat.eq_of_beq_eq_true hc.1
        have hc := Nat.eq_of_beq_eq_true hc.2
        subst hc
        replace hx : (if i < 0 ∨ h.2.2.2.2.1 ≤ i.toNatClampNeg then none else nx (pc + 1) L (.int (h.2.2.2.2.2 i.toNatClampNeg) :: S0) h) = _ := hx
        split at hx
        · cases hx
        · next hi =>
          obtain ⟨rfl, rfl, rfl, rfl⟩ := nx_inj hx
          obtain ⟨_, _, rfl, e1, _, _, rfl, e2, hT⟩ := X.2.1
          cases e1
          rcases e2 with ⟨z, _⟩ | ⟨_, rfl⟩
          · exact absurd z (by omega)
          · obtain ⟨b, hb1, hX, hb2, hb3⟩ := hscr ho
            have hsc := X.2.2.2.2.2.2.2.2 ho
            rw [hb1]
            rw [hsc] at hi k
            exact va_sld hexec hb hX hb2 hb3 X.2.2.2.2.2.1 hi hd (k.stk X ⟨_, _, rfl, rfl, hT⟩)
    · cases hx
  | aaload =>
    obtain rfl : n = 1 := by simpa [xln, eq_comm] using hn
    replace hx : (match S with
      | .int i :: .ref a :: S => xgr (hget h a) i fun x => nx (pc + 1) L (va_rf x :: S) h
      | _ => none) = _ := hx
    split at hx
    · obtain ⟨n9, g, hg, hi, hx⟩ := xgr_spec hx
      obtain ⟨rfl, rfl, rfl, rfl⟩ := nx_inj hx
      obtain ⟨_, _, rfl, e1, _, _, rfl, e2, hT⟩ := X.2.1
      cases e1
      obtain ⟨b, _, hq, rfl, _, g2, rfl, hg2⟩ := X.2.2.1.ref hg e2
      refine va_aldq hexec hb hK X.2.2.2.1 _ 5 hq rfl hi hd (k.stk X ⟨_, _, rfl, ?_, hT⟩)
      have h9 := hg2 (Int32.toNatClampNeg _)
      revert h9
      cases g (Int32.toNatClampNeg _) with
      | none => intro h9; rw [show g2 _ = none from h9]; rfl
      | some a9 =>
        rintro ⟨h8, q, h7, h6⟩
        rw [h6]
        exact Or.inl ⟨h8, q, h7, rfl⟩
    · cases hx
  | iastore =>
    obtain rfl : n = 1 := by simpa [xln, eq_comm] using hn
    replace hx : (match S with
      | .int x :: .int i :: .ref a :: S => xpa (hget h a) 0 i x fun e => nx (pc + 1) L S (hset h a e)
      | _ => none) = _ := hx
    split at hx
    · obtain ⟨n9, g, hg, hi, hx⟩ := xpa_spec hx
      obtain ⟨rfl, rfl, rfl, rfl⟩ := nx_inj hx
      obtain ⟨_, _, rfl, e0, _, _, rfl, e1, _, _, rfl, e2, hT⟩ := X.2.1
      cases e0; cases e1
      obtain ⟨b, _, hq, rfl, ht9, rfl⟩ := X.2.2.1.ref hg e2
      exact va_iast hexec hb hK X.2.2.2.1 X.2.2.2.2.1 X.2.2.2.2.2.1 _ 0 hq rfl hi hd fun H1 locs1 q1 q2 q3 =>
        k ls _ H1 locs1 cells slots _ (Ext.set hq) (X.world (Ext.set hq) (hT.mono (Ext.set hq)) (X.2.2.1.set hq ⟨ht9, rfl⟩) q1 q2 q3 X.2.2.2.2.2.2.1 X.2.2.2.2.2.2.2.1 rfl)
    · cases hx
  | bastore =>
    obtain rfl : n = 1 := by simpa [xln, eq_comm] using hn
    replace hx : (match S with
      | .int x :: .int i :: .ref a :: S => xpa (hget h a) 1 i (vp_nar .boolean x) fun e => nx (pc + 1) L S (hset h a e)
      | _ => none) = _ := hx
    split at hx
    · obtain ⟨n9, g, hg, hi, hx⟩ := xpa_spec hx
      obtain ⟨rfl, rfl, rfl, rfl⟩ := nx_inj hx
      obtain ⟨_, _, rfl, e0, _, _, rfl, e1, _, _, rfl, e2, hT⟩ := X.2.1
      cases e0; cases e1
      obtain ⟨b, _, hq, rfl, ht9, rfl⟩ := X.2.2.1.ref hg e2
      exact va_zast hexec hb hK X.2.2.2.1 X.2.2.2.2.1 X.2.2.2.2.2.1 _ 1 hq rfl hi hd fun H1 locs1 q1 q2 q3 =>
        k ls _ H1 locs1 cells slots _ (Ext.set hq) (X.world (Ext.set hq) (hT.mono (Ext.set hq)) (X.2.2.1.set hq ⟨ht9, rfl⟩) q1 q2 q3 X.2.2.2.2.2.2.1 X.2.2.2.2.2.2.2.1 rfl)
    · cases hx
  | castore =>
    obtain rfl : n = 1 := by simpa [xln, eq_comm] using hn
    replace hx : (match S with
      | .int x :: .int i :: .ref a :: S => xpa (hget h a) 2 i (vp_nar .char x) fun e => nx (pc + 1) L S (hset h a e)
      | _ => none) = _ := hx
    split at hx
    · obtain ⟨n9, g, hg, hi, hx⟩ := xpa_spec hx
      obtain ⟨rfl, rfl, rfl, rfl⟩ := nx_inj hx
      obtain ⟨_, _, rfl, e0, _, _, rfl, e1, _, _, rfl, e2, hT⟩ := X.2.1
      cases e0; cases e1
      obtain ⟨b, _, hq, rfl, ht9, rfl⟩ := X.2.2.1.ref hg e2
      exact va_cast hexec hb hK X.2.2.2.1 X.2.2.2.2.1 X.2.2.2.2.2.1 _ 2 hq rfl hi hd fun H1 locs1 q1 q2 q3 =>
        k ls _ H1 locs1 cells slots _ (Ext.set hq) (X.world (Ext.set hq) (hT.mono (Ext.set hq)) (X.2.2.1.set hq ⟨ht9, rfl⟩) q1 q2 q3 X.2.2.2.2.2.2.1 X.2.2.2.2.2.2.2.1 rfl)
    · cases hx
  | lastore =>
    obtain rfl : n = 1 := by simpa [xln, eq_comm] using hn
    replace hx : (match S with
      | .long x :: .int i :: .ref a :: S => xpl (hget h a) i x fun e => nx (pc + 1) L S (hset h a e)
      | _ => none) = _ := hx
    split at hx
    · obtain ⟨n9, g, hg, hi, hx⟩ := xpl_spec hx
      obtain ⟨rfl, rfl, rfl, rfl⟩ := nx_inj hx
      obtain ⟨_, _, rfl, e0, _, _, rfl, e1, _, _, rfl, e2, hT⟩ := X.2.1
      cases e0; cases e1
      obtain ⟨b, _, hq, rfl, ht9, rfl⟩ := X.2.2.1.ref hg e2
      exact va_last hexec hb hK X.2.2.2.1 X.2.2.2.2.1 X.2.2.2.2.2.1 _ 3 hq rfl hi hd fun H1 locs1 q1 q2 q3 =>
        k ls _ H1 locs1 cells slots _ (Ext.set hq) (X.world (Ext.set hq) (hT.mono (Ext.set hq)) (X.2.2.1.set hq ⟨ht9, rfl⟩) q1 q2 q3 X.2.2.2.2.2.2.1 X.2.2.2.2.2.2.2.1 rfl)
    · cases hx
  | dastore =>
    obtain rfl : n = 1 := by simpa [xln, eq_comm] using hn
    replace hx : (match S with
      | .double x :: .int i :: .ref a :: S => xpd (hget h a) i x fun e => nx (pc + 1) L S (hset h a e)
      | _ => none) = _ := hx
    split at hx
    · obtain ⟨n9, g, hg, hi, hx⟩ := xpd_spec hx
      obtain ⟨rfl, rfl, rfl, rfl⟩ := nx_inj hx
      obtain ⟨_, _, rfl, e0, _, _, rfl, e1, _, _, rfl, e2, hT⟩ := X.2.1
      cases e0; cases e1
      obtain ⟨b, _, hq, rfl, ht9, rfl⟩ := X.2.2.1.ref hg e2
      exact va_dast hexec hb hK X.2.2.2.1 X.2.2.2.2.1 X.2.2.2.2.2.1 _ 4 hq rfl hi hd fun H1 locs1 q1 q2 q3 =>
        k ls _ H1 locs1 cells slots _ (Ext.set hq) (X.world (Ext.set hq) (hT.mono (Ext.set hq)) (X.2.2.1.set hq ⟨ht9, rfl⟩) q1 q2 q3 X.2.2.2.2.2.2.1 X.2.2.2.2.2.2.2.1 rfl)
    · cases hx
  | aastore =>
    obtain rfl : n = 1 := by simpa [xln, eq_comm] using hn
    replace hx : (match S with
      | .ref x :: .int i :: .ref a :: S => (match hget h x with
        | some (.inr (cj, _)) => bif Nat.beq cj 5 then xpr (hget h a) i x fun e => nx (pc + 1) L S (hset h a e) else none
        | _ => none)
      | _ => none) = _ := hx
    split at hx
    · next x i a S0 =>
      split at hx
      · next cj fs0 hg0 =>
        cases hc : Nat.beq cj 5 with
        | false => rw [hc] at hx; cases hx
        | true =>
          rw [hc] at hx
          have hc := Nat.eq_of_beq_eq_true hc
          subst hc
          obtain ⟨n9, g, hg, hi, hx⟩ := xpr_spec (show xpr _ _ _ _ = _ from hx)
          obtain ⟨rfl, rfl, rfl, rfl⟩ := nx_inj hx
          obtain ⟨_, _, rfl, e0, _, _, rfl, e1, _, _, rfl, e2, hT⟩ := X.2.1
          cases e1
          obtain ⟨bx, _, hqx, rfl, _, vs, rfl, _⟩ := X.2.2.1.ref hg0 e0
          obtain ⟨b, _, hq, rfl, ht9, g2, rfl, hg2⟩ := X.2.2.1.ref hg e2
          have hlx : x < 1000000 := Nat.lt_of_lt_of_le (List.getElem?_eq_some_iff.mp hqx).1 X.2.2.1.1.2
          refine va_astq (r := (RX4, TX4, 5)) hexec hb hK X.2.2.2.1 X.2.2.2.2.1 X.2.2.2.2.2.1 _ 5 _ 5 hq rfl hqx rfl hi hd fun H1 locs1 q1 q2 q3 => ?_
          refine k ls _ H1 locs1 cells slots _ (Ext.set hq) (X.world (Ext.set hq) (hT.mono (Ext.set hq)) (X.2.2.1.set hq ⟨ht9, _, rfl, fun j => ?_⟩) q1 q2 q3 X.2.2.2.2.2.2.1 X.2.2.2.2.2.2.2.1 rfl)
          unfold va_up
          by_cases hj : j = i.toNatClampNeg
          · rw [if_pos hj, if_pos hj]
            exact ⟨hlx, _, hqx, rfl⟩
          · rw [if_neg hj, if_neg hj]
            exact hg2 j
      · cases hx
    · cases hx
  | arraylength =>
    obtain rfl : n = 1 := by simpa [xln, eq_comm] using hn
    replace hx : (match S with
      | .ref a :: S => xlen M h a fun x => nx (pc + 1) L (.int x :: S) h
      | _ => none) = _ := hx
    split at hx
    · next a S0 =>
      unfold xlen at hx
      cases hc : (Nat.beq (xm_own M) 11 && Nat.beq a 2000000) with
      | false =>
        rw [hc] at hx
        replace hx : (match hget h a with
          | some (.inl (_, n, _)) => nx (pc + 1) L (.int (Int32.ofNat n) :: S0) h
          | _ => none) = _ := hx
        split at hx
        · next t9 n9 a9 hg =>
          obtain ⟨rfl, rfl, rfl, rfl⟩ := nx_inj hx
          obtain ⟨_, _, rfl, e2, hT⟩ := X.2.1
          obtain ⟨b, e9, hq, rfl, hX⟩ := X.2.2.1.ref hg e2
          rcases a9 with f | f | f | f | f
          · obtain ⟨ht9, rfl⟩ := hX
            exact va_alen hexec hb hK X.2.2.2.1 _ t9 hq (xtys_at ht9) rfl hd (k.stk X ⟨_, _, rfl, rfl, hT⟩)
          · obtain ⟨ht9, rfl⟩ := hX
            exact va_alen hexec hb hK X.2.2.2.1 _ t9 hq (xtys_at ht9) rfl hd (k.stk X ⟨_, _, rfl, rfl, hT⟩)
          · obtain ⟨ht9, rfl⟩ := hX
            exact va_alen hexec hb hK X.2.2.2.1 _ t9 hq (xtys_at ht9) rfl hd (k.stk X ⟨_, _, rfl, rfl, hT⟩)
          · obtain ⟨ht9, rfl⟩ := hX
            exact va_alen hexec hb hK X.2.2.2.1 _ t9 hq (xtys_at ht9) rfl hd (k.stk X ⟨_, _, rfl, rfl, hT⟩)
          · obtain ⟨rfl, g2, rfl, _⟩ := hX
            exact va_alen hexec hb hK X.2.2.2.1 _ 5 hq rfl rfl hd (k.stk X ⟨_, _, rfl, rfl, hT⟩)
        · cases hx
      | true =>
        rw [hc] at hx
        rw [Bool.and_eq_true] at hc
        have ho := Nat.eq_of_beq_eq_true hc.1
        have hc := Nat.eq_of_beq_eq_true hc.2
        subst hc
        obtain ⟨rfl, rfl, rfl, rfl⟩ := nx_inj (show nx _ _ _ _ = _ from hx)
        obtain ⟨_, _, rfl, e2, hT⟩ := X.2.1
        rcases e2 with ⟨z, _⟩ | ⟨_, rfl⟩
        · exact absurd z (by omega)
        · obtain ⟨b, hb1, hX, hb2, hb3⟩ := hscr ho
          have hsc := X.2.2.2.2.2.2.2.2 ho
          rw [hb1]
          rw [hsc] at k
          exact va_slen hexec hb hX hb2 hb3 X.2.2.2.2.2.1 hd (k.stk X ⟨_, _, rfl, rfl, hT⟩)
    · cases hx
  | newarray t =>
    obtain rfl : n = 2 := by simpa [xln, eq_comm] using hn
    replace hx : (match S with
      | .int n :: S => if n < 0 ∨ 10000 < n.toNatClampNeg ∨ 1000000 ≤ h.2.1 then none else (match xarr (xatc t) n.toNatClampNeg with
        | some e => nx (pc + 2) L (.ref h.2.1 :: S) (hnew h e n.toNatClampNeg)
        | none => none)
      | _ => none) = _ := hx
    split at hx
    · next z S0 =>
      split at hx
      · cases hx
      · next hc =>
      obtain ⟨_, _, rfl, e1, hT⟩ := X.2.1
      cases e1
      have hlt : h.2.1 < 1000000 := Nat.not_le.mp fun q => hc (Or.inr (Or.inr q))
      have hsm : z.toNatClampNeg ≤ 10000 := Nat.not_lt.mp fun q => hc (Or.inr (Or.inl q))
      cases t with
      | int =>
        obtain ⟨rfl, rfl, rfl, rfl⟩ := nx_inj (show nx _ _ _ _ = _ from hx)
        refine va_newa (atype := .int) hexec hb (hts _ wArr_int.inT) rfl hK X.2.2.2.1 X.2.2.2.2.1 X.2.2.2.2.2.1 hA (a0 := (z.toNatClampNeg, .inl fun _ => 0)) (fun _ => rfl) (fun q => hc (Or.inl q)) rfl (by simp only [componentBytes]; omega) (by have := hroom.1; have := X.2.2.2.2.2.2.1; simp only [hnew] at *; omega) (by have := hroom.2; have := X.2.2.2.2.2.2.2.1; simp only [hnew] at *; omega) hd fun q cA H1 q0 q1 q2 q3 => ?_
        have hcA : cA = aC 0 := by
          have e1 := (q0.2 6 (cA, _) rfl).2
          have e2 := (hK.2 0 (aC 0, _) rfl).2
          exact Option.some.inj (Eq.trans (Eq.symm e1) e2)
        subst hcA
        exact k ls _ H1 locs (cells + 1) _ _ Ext.app (X.world Ext.app ⟨_, _, rfl, Or.inl ⟨hlt, (q, _), by rw [X.2.2.1.1.1]; exact List.getElem?_concat_length, rfl⟩, hT.mono Ext.app⟩ (X.2.2.1.new hlt ⟨by decide, rfl⟩) q1 q2 q3 (by have := X.2.2.2.2.2.2.1; simp only [hnew] at *; omega) (by have := X.2.2.2.2.2.2.2.1; simp only [hnew] at *; omega) rfl)
      | boolean =>
        obtain ⟨rfl, rfl, rfl, rfl⟩ := nx_inj (show nx _ _ _ _ = _ from hx)
        refine va_newa (atype := .boolean) hexec hb (hts _ wArr_boolean.inT) rfl hK X.2.2.2.1 X.2.2.2.2.1 X.2.2.2.2.2.1 hA (a0 := (z.toNatClampNeg, .inl fun _ => 0)) (fun _ => rfl) (fun q => hc (Or.inl q)) rfl (by simp only [componentBytes]; omega) (by have := hroom.1; have := X.2.2.2.2.2.2.1; simp only [hnew] at *; omega) (by have := hroom.2; have := X.2.2.2.2.2.2.2.1; simp only [hnew] at *; omega) hd fun q cA H1 q0 q1 q2 q3 => ?_
        have hcA : cA = aC 1 := by
          have e1 := (q0.2 6 (cA, _) rfl).2
          have e2 := (hK.2 1 (aC 1, _) rfl).2
          exact Option.some.inj (Eq.trans (Eq.symm e1) e2)
        subst hcA
        exact k ls _ H1 locs (cells + 1) _ _ Ext.app (X.world Ext.app ⟨_, _, rfl, Or.inl ⟨hlt, (q, _), by rw [X.2.2.1.1.1]; exact List.getElem?_concat_length, rfl⟩, hT.mono Ext.app⟩ (X.2.2.1.new hlt ⟨by decide, rfl⟩) q1 q2 q3 (by have := X.2.2.2.2.2.2.1; simp only [hnew] at *; omega) (by have := X.2.2.2.2.2.2.2.1; simp only [hnew] at *; omega) rfl)
      | char =>
        obtain ⟨rfl, rfl, rfl, rfl⟩ := nx_inj (show nx _ _ _ _ = _ from hx)
        refine va_newa (atype := .char) hexec hb (hts _ wArr_char.inT) rfl hK X.2.2.2.1 X.2.2.2.2.1 X.2.2.2.2.2.1 hA (a0 := (z.toNatClampNeg, .inl fun _ => 0)) (fun _ => rfl) (fun q => hc (Or.inl q)) rfl (by simp only [componentBytes]; omega) (by have := hroom.1; have := X.2.2.2.2.2.2.1; simp only [hnew] at *; omega) (by have := hroom.2; have := X.2.2.2.2.2.2.2.1; simp only [hnew] at *; omega) hd fun q cA H1 q0 q1 q2 q3 => ?_
        have hcA : cA = aC 2 := by
          have e1 := (q0.2 6 (cA, _) rfl).2
          have e2 := (hK.2 2 (aC 2, _) rfl).2
          exact Option.some.inj (Eq.trans (Eq.symm e1) e2)
        subst hcA
        exact k ls _ H1 locs (cells + 1) _ _ Ext.app (X.world Ext.app ⟨_, _, rfl, Or.inl ⟨hlt, (q, _), by rw [X.2.2.1.1.1]; exact List.getElem?_concat_length, rfl⟩, hT.mono Ext.app⟩ (X.2.2.1.new hlt ⟨by decide, rfl⟩) q1 q2 q3 (by have := X.2.2.2.2.2.2.1; simp only [hnew] at *; omega) (by have := X.2.2.2.2.2.2.2.1; simp only [hnew] at *; omega) rfl)
      | long =>
        obtain ⟨rfl, rfl, rfl, rfl⟩ := nx_inj (show nx _ _ _ _ = _ from hx)
        refine va_newa (atype := .long) hexec hb (hts _ wArr_long.inT) rfl hK X.2.2.2.1 X.2.2.2.2.1 X.2.2.2.2.2.1 hA (a0 := (z.toNatClampNeg, .inr (.inl fun _ => 0))) (fun _ => rfl) (fun q => hc (Or.inl q)) rfl (by simp only [componentBytes]; omega) (by have := hroom.1; have := X.2.2.2.2.2.2.1; simp only [hnew] at *; omega) (by have := hroom.2; have := X.2.2.2.2.2.2.2.1; simp only [hnew] at *; omega) hd fun q cA H1 q0 q1 q2 q3 => ?_
        have hcA : cA = aC 3 := by
          have e1 := (q0.2 6 (cA, _) rfl).2
          have e2 := (hK.2 3 (aC 3, _) rfl).2
          exact Option.some.inj (Eq.trans (Eq.symm e1) e2)
        subst hcA
        exact k ls _ H1 locs (cells + 1) _ _ Ext.app (X.world Ext.app ⟨_, _, rfl, Or.inl ⟨hlt, (q, _), by rw [X.2.2.1.1.1]; exact List.getElem?_concat_length, rfl⟩, hT.mono Ext.app⟩ (X.2.2.1.new hlt ⟨by decide, rfl⟩) q1 q2 q3 (by have := X.2.2.2.2.2.2.1; simp only [hnew] at *; omega) (by have := X.2.2.2.2.2.2.2.1; simp only [hnew] at *; omega) rfl)
      | double =>
        obtain ⟨rfl, rfl, rfl, rfl⟩ := nx_inj (show nx _ _ _ _ = _ from hx)
        refine va_newa (atype := .double) hexec hb (hts _ wArr_double.inT) rfl hK X.2.2.2.1 X.2.2.2.2.1 X.2.2.2.2.2.1 hA (a0 := (z.toNatClampNeg, .inr (.inr (.inr (.inl fun _ => 0))))) (fun _ => rfl) (fun q => hc (Or.inl q)) rfl (by simp only [componentBytes]; omega) (by have := hroom.1; have := X.2.2.2.2.2.2.1; simp only [hnew] at *; omega) (by have := hroom.2; have := X.2.2.2.2.2.2.2.1; simp only [hnew] at *; omega) hd fun q cA H1 q0 q1 q2 q3 => ?_
        have hcA : cA = aC 4 := by
          have e1 := (q0.2 6 (cA, _) rfl).2
          have e2 := (hK.2 4 (aC 4, _) rfl).2
          exact Option.some.inj (Eq.trans (Eq.symm e1) e2)
        subst hcA
        exact k ls _ H1 locs (cells + 1) _ _ Ext.app (X.world Ext.app ⟨_, _, rfl, Or.inl ⟨hlt, (q, _), by rw [X.2.2.1.1.1]; exact List.getElem?_concat_length, rfl⟩, hT.mono Ext.app⟩ (X.2.2.1.new hlt ⟨by decide, rfl⟩) q1 q2 q3 (by have := X.2.2.2.2.2.2.1; simp only [hnew] at *; omega) (by have := X.2.2.2.2.2.2.2.1; simp only [hnew] at *; omega) rfl)
      | _ => cases hx
    · cases hx
  | anewarray idx =>
    obtain rfl : n = 3 := by simpa [xln, eq_comm] using hn
    replace hx : (match S with
      | .int n :: S => (match xlk cT (xm_own M) idx with
        | some ci => if ci ≠ 5 ∨ n < 0 ∨ 10000 < n.toNatClampNeg ∨ 1000000 ≤ h.2.1 then none else nx (pc + 3) L (.ref h.2.1 :: S) (hnew h (.inl (5, n.toNatClampNeg, .inr (.inr (.inr (.inr fun _ => none))))) n.toNatClampNeg)
        | none => none)
      | _ => none) = _ := hx
    split at hx
    · next z S0 =>
      split at hx
      · next ci hct =>
        split at hx
        · cases hx
        · next hc =>
          have hc5 : ci = 5 := Decidable.not_not.mp fun q => hc (Or.inl q)
          subst hc5
          obtain ⟨hmem, hk1, hk2⟩ := xlk_mem hct
          obtain ⟨r, h2, hr, hcl, _, _⟩ := cT_ok _ hmem
          cases hr
          rw [hk1, hk2] at hcl
          obtain ⟨rfl, rfl, rfl, rfl⟩ := nx_inj hx
          obtain ⟨_, _, rfl, e1, hT⟩ := X.2.1
          cases e1
          have hlt : h.2.1 < 1000000 := Nat.not_le.mp fun q => hc (Or.inr (Or.inr (Or.inr q)))
          have hsm : z.toNatClampNeg ≤ 10000 := Nat.not_lt.mp fun q => hc (Or.inr (Or.inr (Or.inl q)))
          refine va_newq (C := RX4) hexec hb hown (hts _ hcl.inT) hao hK X.2.2.2.1 X.2.2.2.2.1 X.2.2.2.2.2.1 hA (fun q => hc (Or.inr (Or.inl q))) rfl (by omega) (by have := hroom.1; have := X.2.2.2.2.2.2.1; simp only [hnew] at *; omega) (by have := hroom.2; have := X.2.2.2.2.2.2.2.1; simp only [hnew] at *; omega) hd fun q cA H1 q0 q1 q2 q3 => ?_
          have hcA : cA = aC 5 := by
            obtain ⟨_, _, _, _, _, e1⟩ := (q0.2 6 (cA, _) rfl).2
            obtain ⟨_, _, _, _, _, e2⟩ := (hK.2 5 (aC 5, _) rfl).2
            exact Option.some.inj (Eq.trans (Eq.symm e1) e2)
          subst hcA
          exact k ls _ H1 locs (cells + 1) _ _ Ext.app (X.world Ext.app ⟨_, _, rfl, Or.inl ⟨hlt, (q, _), by rw [X.2.2.1.1.1]; exact List.getElem?_concat_length, rfl⟩, hT.mono Ext.app⟩ (X.2.2.1.new hlt ⟨rfl, _, rfl, fun _ => rfl⟩) q1 q2 q3 (by have := X.2.2.2.2.2.2.1; simp only [hnew] at *; omega) (by have := X.2.2.2.2.2.2.2.1; simp only [hnew] at *; omega) rfl)
      · cases hx
    · cases hx
  | new idx =>
    obtain rfl : n = 3 := by simpa [xln, eq_comm] using hn
    replace hx : (match xlk cT (xm_own M) idx with
      | some ci => (match vwCl[ci]? with
        | some r => bif Nat.blt h.2.1 1000000 then nx (pc + 3) L (.ref h.2.1 :: S) (hnew h (.inr (ci, xblank ci r.2.2)) r.2.2) else none
        | none => none)
      | none => (match xlk tT (xm_own M) idx with
        | some (E, ic) => bif xle4 S && (Nat.blt (xm_own M) 11 && ((xm_hh M).isEmpty && xthrow M pc E ic)) then some (.inr (.inr (.inl (E, hexc h)))) else none
        | none => none)) = _ := hx
    split at hx
    · next ci hct =>
      split at hx
      · next r hr =>
        obtain ⟨hmem, hk1, hk2⟩ := xlk_mem hct
        obtain ⟨r', h2, hr', hcl, hins, hini⟩ := cT_ok _ hmem
        dsimp only at h2 hr' hcl
        cases hr.symm.trans hr'
        rw [hk1, hk2] at hcl
        cases hc : Nat.blt h.2.1 1000000 with
        | false => rw [hc] at hx; cases hx
        | true =>
          rw [hc] at hx
          have hlt : h.2.1 < 1000000 := Nat.le_of_ble_eq_true hc
          obtain ⟨rfl, rfl, rfl, rfl⟩ := nx_inj (show nx _ _ _ _ = _ from hx)
          obtain ⟨hin, hty, hnm, _, _⟩ := cl_rows ci r h2 hr
          refine va_new (T := r.2.1) (N := r.2.2) (C := r.1) hexec hb hts hin (fty ci) hty hown (hts _ hcl.inT) (hts _ hins.inT) (hts _ hini.inT) hK X.2.2.2.1 X.2.2.2.2.1 X.2.2.2.2.2.1 hA hr (fs := xblank ci r.2.2) (fun j hj => xblank_ok ci _ j hj) (by have := hroom.1; have := X.2.2.2.2.2.2.1; simp only [hnew] at *; omega) (by have := hroom.2; have := X.2.2.2.2.2.2.2.1; simp only [hnew] at *; omega) hd fun q H1 q1 q2 q3 => ?_
          exact k ls _ H1 locs (cells + 1) _ _ Ext.app (X.world Ext.app ⟨_, _, rfl, Or.inl ⟨hlt, (q, _), by rw [X.2.2.1.1.1]; exact List.getElem?_concat_length, rfl⟩, X.2.1.mono Ext.app⟩ (X.2.2.1.new hlt ⟨h2, _, rfl, SR.blank _ _ _ _⟩) q1 q2 q3 (by have := X.2.2.2.2.2.2.1; simp only [hnew] at *; omega) (by have := X.2.2.2.2.2.2.2.1; simp only [hnew] at *; omega) rfl)
      · cases hx
    · split at hx
      · next E ic _ =>
        cases hc : (xle4 S && (Nat.blt (xm_own M) 11 && ((xm_hh M).isEmpty && xthrow M pc E ic))) <;> rw [hc] at hx <;> cases hx
      · cases hx
  | ldc is =>
    obtain rfl : n = 2 := by simpa [xln, eq_comm] using hn
    replace hx : (match xlk sT (xm_own M) is, xldc (xm_own M * 1000 + is) with
      | some _, some k => nx (pc + 2) L (.ref (1000000 + k) :: S) h
      | _, _ => none) = _ := hx
    split at hx
    · next tx j hs hj =>
      obtain ⟨hmem, hk1, hk2⟩ := xlk_mem hs
      obtain ⟨sa, hv, hj2⟩ := hsr _ hmem
      have hj3 := hj2 j hj
      dsimp only at hv
      rw [hk1, hk2, hj3] at hv
      obtain ⟨rfl, rfl, rfl, rfl⟩ := nx_inj hx
      exact va_ldcS hexec hb hown hv hd (k.stk X ⟨_, _, rfl, Or.inr ⟨by omega, rfl⟩, X.2.1⟩)
    · cases hx
  | invokestatic idx =>
    obtain rfl : n = 3 := by simpa [xln, eq_comm] using hn
    unfold xstep at hx
    dsimp only at hx
    split at hx
    · next j hj =>
      obtain ⟨hmem, hk1, hk2⟩ := xlk_mem hj
      have hl := pT_ok _ hmem
      dsimp only at hl
      rw [hk1, hk2] at hl
      cases hc : Nat.ble j 3 with
      | false => rw [hc] at hx; cases hx
      | true =>
        rw [hc] at hx
        replace hx : xprim M j pc L S h = _ := hx
        match j, hc, hl, hx with
        | 0, _, _, hx => cases hx
        | 1, _, hl, hx =>
          unfold xprim at hx
          dsimp only at hx
          split at hx
          · next y x S0 =>
            cases hz : xle4 S0 with
            | false => rw [hz] at hx; cases hx
            | true =>
              rw [hz] at hx
              obtain ⟨rfl, rfl, rfl, rfl⟩ := nx_inj (show nx _ _ _ _ = _ from hx)
              obtain ⟨_, _, rfl, e1, _, _, rfl, e2, hT⟩ := X.2.1
              cases e1; cases e2
              have hw := xle4_cat hz hT
              exact va_mmax hexec hb hls hown (hts _ hl.inT) (hts _ wMaxS.inT) (hts _ wMathI.inT) (hts _ wMaxC.inT) (by omega) (by omega) (by have := hroom.1; have := X.2.2.2.2.2.2.1; omega) (by have := hroom.2; have := X.2.2.2.2.2.2.2.1; omega) hd (k.stk X ⟨_, _, rfl, rfl, hT⟩)
          · cases hx
        | 2, _, hl, hx =>
          unfold xprim at hx
          dsimp only at hx
          split at hx
          · next y x S0 =>
            cases hz : xle4 S0 with
            | false => rw [hz] at hx; cases hx
            | true =>
              rw [hz] at hx
              obtain ⟨rfl, rfl, rfl, rfl⟩ := nx_inj (show nx _ _ _ _ = _ from hx)
              obtain ⟨_, _, rfl, e1, _, _, rfl, e2, hT⟩ := X.2.1
              cases e1; cases e2
              have hw := xle4_cat hz hT
              exact va_mmin hexec hb hls hown (hts _ hl.inT) (hts _ wMinS.inT) (hts _ wMathI.inT) (hts _ wMinC.inT) (by omega) (by omega) (by have := hroom.1; have := X.2.2.2.2.2.2.1; omega) (by have := hroom.2; have := X.2.2.2.2.2.2.2.1; omega) hd (k.stk X ⟨_, _, rfl, rfl, hT⟩)
          · cases hx
        | 3, _, hl, hx =>
          unfold xprim at hx
          dsimp only at hx
          split at hx
          · next n9 dp a sp9 a0 S0 =>
            cases hz : xle4 S0 with
            | false => rw [hz] at hx; cases hx
            | true =>
              rw [hz] at hx
              obtain ⟨n0, n1, g0, g1, hg0, hg1, hc1, hc2, hc3, hc4, hc5, hx⟩ := xcp_spec (show xcp _ _ _ _ _ _ = _ from hx)
              obtain ⟨rfl, rfl, rfl, rfl⟩ := nx_inj hx
              obtain ⟨_, _, rfl, e1, _, _, rfl, e2, _, _, rfl, e3, _, _, rfl, e4, _, _, rfl, e5, hT⟩ := X.2.1
              cases e1; cases e2; cases e4
              obtain ⟨b0, _, hq0, rfl, _, rfl⟩ := X.2.2.1.ref hg0 e5
              obtain ⟨b, _, hq, rfl, ht9, rfl⟩ := X.2.2.1.ref hg1 e3
              have hw := xle4_cat hz hT
              have hnf : nativeFrameWords "java/lang/System" "arraycopy" 5 ≤ 100 := by decide +kernel
              exact va_copyi hexec hb hls hown (hts _ hl.inT) (hts _ wCpN.inT) (hts _ wCpS.inT) (hts _ wSysI.inT) hK X.2.2.2.1 X.2.2.2.2.1 X.2.2.2.2.2.1 _ _ 0 0 hq0 hq rfl rfl rfl hc1 hc2 hc3 hc4 hc5 (fun _ _ => rfl) (by omega) (by omega) hd fun H1 locs1 q1 q2 q3 =>
                k ls _ H1 locs1 cells slots _ (Ext.set hq) (X.world (Ext.set hq) (hT.mono (Ext.set hq)) (X.2.2.1.set hq ⟨ht9, rfl⟩) q1 q2 q3 X.2.2.2.2.2.2.1 X.2.2.2.2.2.2.2.1 rfl)
          · cases hx
        | j + 4, hc, _, _ => exact absurd (Nat.le_of_ble_eq_true hc) (by omega)
    · split at hx
      · next M' _ =>
        cases hc : xm_st M' with
        | false => rw [hc] at hx; cases hx
        | true =>
          rw [hc] at hx
          replace hx : (match xpop (xm_n M') [] S with
            | some (As, rest) => xcall M' As rest h
            | none => none) = _ := hx
          split at hx
          · exact absurd hx (xcall_ne)
          · cases hx
      · cases hx
  | invokevirtual idx =>
    obtain rfl : n = 3 := by simpa [xln, eq_comm] using hn
    unfold xstep at hx
    dsimp only at hx
    split at hx
    · next j hj =>
      sorry
    · split at hx
      · next M' _ =>
        cases hc : (!(xm_st M') && !((xm_y M').name == "<init>")) with
        | false => rw [hc] at hx; cases hx
        | true =>
          rw [hc] at hx
          dsimp only [cond_true] at hx
          split at hx
          · split at hx
            · next cj _ _ =>
              cases hc2 : Nat.beq cj (xm_own M') with
              | false => rw [hc2] at hx; cases hx
              | true =>
                rw [hc2] at hx
                exact absurd hx xcall_ne
            · cases hx
          · cases hx
      · cases hx
  | invokespecial idx =>
    obtain rfl : n = 3 := by simpa [xln, eq_comm] using hn
    unfold xstep at hx
    dsimp only at hx
    split at hx
    · next j hj =>
      obtain ⟨hmem, hk1, hk2⟩ := xlk_mem hj
      have hl := pT_ok _ hmem
      dsimp only at hl
      rw [hk1, hk2] at hl
      cases hc : Nat.beq j 7 with
      | false => rw [hc] at hx; cases hx
      | true =>
        rw [hc] at hx
        have hc := Nat.eq_of_beq_eq_true hc
        subst hc
        replace hx : xprim M 7 pc L S h = _ := hx
        unfold xprim at hx
        dsimp only at hx
        split at hx
        · next a S0 =>
          cases hz : xle4 S0 with
          | false => rw [hz] at hx; cases hx
          | true =>
            rw [hz] at hx
            obtain ⟨rfl, rfl, rfl, rfl⟩ := nx_inj (show nx _ _ _ _ = _ from hx)
            obtain ⟨_, _, rfl, e1, hT⟩ := X.2.1
            obtain ⟨b, rfl⟩ := e1.ref
            have hw := xle4_cat hz hT
            exact W.objInit hexec hb hown (hts _ hl.inT) (hts _ wObjI.inT) (hts _ wObjC.inT) rfl hls.symm rfl hd (by omega) (by show 2 * 0 + _ + 12 ≤ _; omega) (W.eq (g2 := F0 m (pc + 3) ls _) rfl (k.stk X hT))
        · cases hx
    · split at hx
      · next M' _ =>
        cases hc : (!(xm_st M') && ((xm_y M').name == "<init>" && ((xm_hh M').isEmpty && (xm_ret M').isNone))) with
        | false => rw [hc] at hx; cases hx
        | true =>
          rw [hc] at hx
          dsimp only [cond_true] at hx
          split at hx
          · exact absurd hx xcall_ne
          · cases hx
      · cases hx
  | ireturn =>
    unfold xstep at hx
    dsimp only at hx
    repeat' (split at hx)
    all_goals cases hx
  | lreturn =>
    unfold xstep at hx
    dsimp only at hx
    repeat' (split at hx)
    all_goals cases hx
  | dreturn =>
    unfold xstep at hx
    dsimp only at hx
    repeat' (split at hx)
    all_goals cases hx
  | areturn =>
    unfold xstep at hx
    dsimp only at hx
    repeat' (split at hx)
    all_goals cases hx
  | return_ =>
    unfold xstep at hx
    dsimp only at hx
    repeat' (split at hx)
    all_goals cases hx
  | _ => exact absurd hx (by intro z; cases z)
end Step
