section StrCall
variable {p : Program} {l : Launch} {e : Env} {R : Room} {s : State} {m : MethodId} {args : Array Value} {below : List Frame} {meth : Method} {c : Code} {Q : State → Prop}
variable {M : XM} {A : Nat → Prop} {D : va_G} {aC : Nat → ClassId} {sp : Nat → Nat} {sc : Nat × (Nat → Int32)} {c0 k0 : Nat}
variable {ws : va_W} {L S L' S' : List Value} {h h' : XH} {ls : Array Slot} {st : List Value} {H : Heap} {locs : List Loc} {cells slots : Nat} {pc pc' : Nat}
theorem sx_keep (X : XS s A D aC sp sc M c0 k0 ws L S h ls st H locs cells slots) {H1 : Heap} {locs1 : List Loc} (hk : ∀ q : Nat, q < H.size → ¬ sNo q → H1[q]? = H[q]?) (hS : va_S A s.heap H1 locs1) {S2 st2 : List Value} (h2 : SR ws sp S2 st2) : XS s A D aC sp sc M c0 k0 ws L S2 h ls st2 H1 locs1 cells slots :=
  ⟨X.1, h2, X.2.2.1, fun i q hq => (X.2.2.2.1 i q hq).kept (hk q.1 (X.2.2.2.1 i q hq).lt (fun z => z)), X.2.2.2.2.1, hS, X.2.2.2.2.2.2⟩
theorem sx_form {a : Nat} (z1 : Nat.ble 1000000 a = true) (z2 : Nat.blt a 1000007 = true) : ∃ k : Nat, k < 7 ∧ a = 1000000 + k := by
  have h1 := Nat.le_of_ble_eq_true z1
  have h2 : a + 1 ≤ 1000007 := Nat.le_of_ble_eq_true z2
  exact ⟨a - 1000000, by omega, by omega⟩
theorem sx_ref {k : Nat} {w : Value} (h : VR ws sp (.ref (1000000 + k)) w) : w = .ref (sp (1000000 + k)) := by
  rcases h with ⟨q, _⟩ | ⟨_, q⟩
  · exact absurd (show 1000000 + k < 1000000 from q) (by omega)
  · exact q
set_option maxHeartbeats 1000000 in
theorem snv_prim {idx j : Nat} (hexec : p.tables.exec = Jvm.exec) (hb : c.code = xm_cc M) (hml : c.maxLocals = xm_maxL M) (hown : s.vm.findClass (RN (xm_own M)) = some m.cls) (hts : ∀ w ∈ XT, w.before args s = true) (hfr : 6 ≤ R.frames) (hlo : 200 ≤ R.locals) (hsx : SX A sp s s.heap) (hd : decode (xm_cc M) pc = .ok (.invokevirtual idx, 3))
    (hl : XMem (.methodLink (RN (xm_own M)) idx (PN j))) (hc : (Nat.ble 4 j && Nat.ble j 6) = true) (hx : xprim M j pc L S h = some (.inl (pc', L', S', h'))) (X : XS s A D aC sp sc M c0 k0 ws L S h ls st H locs cells slots) (hroom : h'.2.2.1 ≤ c0 + R.cells ∧ h'.2.2.2.1 ≤ k0 + R.slots)
    (k : XK p l e R s m args below meth c Q M A D aC sp sc c0 k0 ws pc' L' S' h') : W p l e R s m args below meth c H locs cells slots Q (F0 m pc ls st) := by
  obtain ⟨adV, hE⟩ := hsx
  have hS := X.2.2.2.2.2.1
  have hls : ls.size = xm_maxL M := X.1.1
  match j, hc, hl, hx with
  | 0, hc, _, _ => exact absurd hc (by decide)
  | 1, hc, _, _ => exact absurd hc (by decide)
  | 2, hc, _, _ => exact absurd hc (by decide)
  | 3, hc, _, _ => exact absurd hc (by decide)
  | 4, _, hl, hx =>
    replace hx : (match S with
      | .int i :: .ref a :: S => bif xle4 S && (Nat.ble 1000000 a && Nat.blt a 1000007) then (if i < 0 ∨ (xstr (a - 1000000)).length ≤ i.toNatClampNeg then none else nx (pc + 3) L (.int (Int32.ofNat ((xstr (a - 1000000)).getD i.toNatClampNeg 0)) :: S) h) else none
      | _ => none) = _ := hx
    split at hx
    · next i a S0 _ =>
      cases hz : (xle4 S0 && (Nat.ble 1000000 a && Nat.blt a 1000007)) with
      | false => rw [hz] at hx; cases hx
      | true =>
        rw [hz] at hx
        simp only [Bool.and_eq_true] at hz
        obtain ⟨k9, hk9, rfl⟩ := sx_form hz.2.1 hz.2.2
        try simp only [cond_true, Nat.add_sub_cancel_left] at hx
        split at hx
        · cases hx
        · next hi =>
          obtain ⟨rfl, rfl, rfl, rfl⟩ := nx_inj (show nx _ _ _ _ = _ from hx)
          obtain ⟨_, _, rfl, e1, _, _, rfl, e2, hT⟩ := X.2.1
          cases e1
          cases sx_ref e2
          have hw := xle4_cat hz.1 hT
          have hi9 : vp_in i (lenF.getD k9 0) := by rw [lenF_str k9 hk9]; exact hi
          have hv9 : Int32.ofNat ((xstr k9).getD i.toNatClampNeg 0) = chF k9 i := (chF_str k9 hk9 _ (Nat.not_le.mp fun z => hi9 (Or.inr z))).symm
          rw [hv9] at k
          refine va_calli (va_runV (As := [.int i]) (b := sp (1000000 + k9)) (C := RJ0) (rest := _) (own := RN (xm_own M)) (Ts := XT) ⟨hexec, hb, hml, hown, hts⟩ (c_chr l (fun j => sp (1000000 + j)) adV hk9 i hi9) ⟨sCallB hts (xm_r 583 (by decide +kernel) (by decide +kernel)) (xm_r 18 (by decide +kernel) (by decide +kernel)) hl (n := 1) (by decide) (by decide +kernel) ⟨Nat.le_trans (Nat.le_of_ble_eq_true rfl) hfr, Nat.le_trans (Nat.le_of_ble_eq_true rfl) hlo⟩, (hts _ (xm_r 581 (by decide +kernel) (by decide +kernel)).inT), (hts _ (xm_r 582 (by decide +kernel) (by decide +kernel)).inT)⟩ ⟨sBl, vk_recv (adK := fun j => sp (1000000 + j)) (i := k9) hE.1 hk9 hS, sPre hE hS⟩ rfl rfl hls rfl (lv_room hw) hd ⟨by have := hroom.1; have := X.2.2.2.2.2.2.1; omega, by have := hroom.2; have := X.2.2.2.2.2.2.2.1; omega⟩) hS (fun _ _ z => z.elim) (fun _ z => z.elim) (fun r u t H1 locs1 ht hvm hw9 hB hz1 hk1 hS1 => ?_)
          cases hw9
          exact k ls _ H1 locs1 cells slots _ Ext.rf (sx_keep X hk1 hS1 ⟨_, _, rfl, rfl, hT⟩)
    · cases hx
  | 5, _, hl, hx =>
    replace hx : (match S with
      | .ref a :: S => bif xle4 S && (Nat.ble 1000000 a && Nat.blt a 1000007) then nx (pc + 3) L (.int (Int32.ofNat (xstr (a - 1000000)).length) :: S) h else none
      | _ => none) = _ := hx
    split at hx
    · next a S0 _ =>
      cases hz : (xle4 S0 && (Nat.ble 1000000 a && Nat.blt a 1000007)) with
      | false => rw [hz] at hx; cases hx
      | true =>
        rw [hz] at hx
        simp only [Bool.and_eq_true] at hz
        obtain ⟨k9, hk9, rfl⟩ := sx_form hz.2.1 hz.2.2
        try simp only [cond_true, Nat.add_sub_cancel_left] at hx
        · obtain ⟨rfl, rfl, rfl, rfl⟩ := nx_inj (show nx _ _ _ _ = _ from hx)
          obtain ⟨_, _, rfl, e2, hT⟩ := X.2.1
          cases sx_ref e2
          have hw := xle4_cat hz.1 hT
          rw [← lenF_str k9 hk9] at k
          refine va_calli (va_runV (As := []) (b := sp (1000000 + k9)) (C := RJ0) (rest := _) (own := RN (xm_own M)) (Ts := XT) ⟨hexec, hb, hml, hown, hts⟩ (c_len l (fun j => sp (1000000 + j)) adV hk9) ⟨sCallB hts (xm_r 573 (by decide +kernel) (by decide +kernel)) (xm_r 18 (by decide +kernel) (by decide +kernel)) hl (n := 0) (by decide) (by decide +kernel) ⟨Nat.le_trans (Nat.le_of_ble_eq_true rfl) hfr, Nat.le_trans (Nat.le_of_ble_eq_true rfl) hlo⟩, (hts _ (xm_r 571 (by decide +kernel) (by decide +kernel)).inT), (hts _ (xm_r 572 (by decide +kernel) (by decide +kernel)).inT)⟩ ⟨sBl, vk_recv (adK := fun j => sp (1000000 + j)) (i := k9) hE.1 hk9 hS, sPre hE hS⟩ rfl rfl hls rfl (lv_room hw) hd ⟨by have := hroom.1; have := X.2.2.2.2.2.2.1; omega, by have := hroom.2; have := X.2.2.2.2.2.2.2.1; omega⟩) hS (fun _ _ z => z.elim) (fun _ z => z.elim) (fun r u t H1 locs1 ht hvm hw9 hB hz1 hk1 hS1 => ?_)
          cases hw9
          exact k ls _ H1 locs1 cells slots _ Ext.rf (sx_keep X hk1 hS1 ⟨_, _, rfl, rfl, hT⟩)
    · cases hx
  | 6, _, hl, hx =>
    replace hx : (match S with
      | .ref a :: S => bif xle4 S && (Nat.ble 1000000 a && Nat.blt a 1000007) then nx (pc + 3) L (.int 0 :: S) h else none
      | _ => none) = _ := hx
    split at hx
    · next a S0 _ =>
      cases hz : (xle4 S0 && (Nat.ble 1000000 a && Nat.blt a 1000007)) with
      | false => rw [hz] at hx; cases hx
      | true =>
        rw [hz] at hx
        simp only [Bool.and_eq_true] at hz
        have hx6 := nx_inj (show nx _ _ _ _ = _ from hx)
        obtain ⟨k9, hk9, rfl⟩ := sx_form hz.2.1 hz.2.2
        try simp only [cond_true, Nat.add_sub_cancel_left] at hx
        · obtain ⟨rfl, rfl, rfl, rfl⟩ := hx6
          obtain ⟨_, _, rfl, e2, hT⟩ := X.2.1
          cases sx_ref e2
          have hw := xle4_cat hz.1 hT
          refine va_calli (va_runV (As := []) (b := sp (1000000 + k9)) (C := RJ0) (rest := _) (own := RN (xm_own M)) (Ts := XT) ⟨hexec, hb, hml, hown, hts⟩ (c_emp l (fun j => sp (1000000 + j)) adV hk9) ⟨sCallB hts (xm_r 664 (by decide +kernel) (by decide +kernel)) (xm_r 18 (by decide +kernel) (by decide +kernel)) hl (n := 0) (by decide) (by decide +kernel) ⟨Nat.le_trans (Nat.le_of_ble_eq_true rfl) hfr, Nat.le_trans (Nat.le_of_ble_eq_true rfl) hlo⟩, (hts _ (xm_r 662 (by decide +kernel) (by decide +kernel)).inT), (hts _ (xm_r 663 (by decide +kernel) (by decide +kernel)).inT)⟩ ⟨sBl, vk_recv (adK := fun j => sp (1000000 + j)) (i := k9) hE.1 hk9 hS, sPre hE hS⟩ rfl rfl hls rfl (lv_room hw) hd ⟨by have := hroom.1; have := X.2.2.2.2.2.2.1; omega, by have := hroom.2; have := X.2.2.2.2.2.2.2.1; omega⟩) hS (fun _ _ z => z.elim) (fun _ z => z.elim) (fun r u t H1 locs1 ht hvm hw9 hB hz1 hk1 hS1 => ?_)
          cases hw9
          exact k ls _ H1 locs1 cells slots _ Ext.rf (sx_keep X hk1 hS1 ⟨_, _, rfl, rfl, hT⟩)
    · cases hx
  | j + 7, hc, _, _ => exact absurd hc (by simp [Nat.ble_eq])
end StrCall
