theorem irem_eq {x y : Int32} : x - x / y * y = x % y := by
  apply Int32.toInt_inj.mp
  have h0 : (x % y).toInt.bmod 4294967296 = (x % y).toInt := Int32.toInt_bmod _
  rw [← h0]
  simp only [Int32.toInt_sub, Int32.toInt_mul, Int32.toInt_div, Int32.toInt_mod]
  have h1 := Int.tmod_def x.toInt y.toInt
  rw [h1]
  simp only [Int.sub_bmod_bmod, Int.bmod_sub_bmod, Int.bmod_mul_bmod, Int.mul_bmod_bmod, Int.sub_bmod_bmod]
  rw [Int.mul_comm]
theorem xcall_ne {M : XM} {As rest : List Value} {h : XH} {q : Nat × List Value × List Value × XH} : ¬ xcall M As rest h = some (.inl q) := by
  unfold xcall
  split
  · intro z; cases z
  · intro z; cases z
theorem xcp_spec {e0 e1 : Option va_E} {sp dp n : Int32} {f : va_E → Option XR} {r : XR} (h : xcp e0 e1 sp dp n f = some r) : ∃ n0 n1 g0 g1, e0 = some (.inl (0, n0, .inl g0)) ∧ e1 = some (.inl (0, n1, .inl g1)) ∧ ¬ sp < 0 ∧ ¬ dp < 0 ∧ ¬ n < 0 ∧ sp.toNatClampNeg + n.toNatClampNeg ≤ n0 ∧ dp.toNatClampNeg + n.toNatClampNeg ≤ n1 ∧ f (.inl (0, n1, .inl (va_cpy g0 g1 sp.toNatClampNeg dp.toNatClampNeg n.toNatClampNeg))) = some r := by
  unfold xcp at h
  split at h
  · next u n0 g0 v n1 g1 =>
    cases hb : (Nat.beq u 0 && Nat.beq v 0) with
    | false => rw [hb] at h; cases h
    | true =>
      rw [hb] at h
      simp only [Bool.and_eq_true] at hb
      have h1 := Nat.eq_of_beq_eq_true hb.1
      have h2 := Nat.eq_of_beq_eq_true hb.2
      subst h1; subst h2
      replace h : (if sp < 0 ∨ dp < 0 ∨ n < 0 ∨ n0 < sp.toNatClampNeg + n.toNatClampNeg ∨ n1 < dp.toNatClampNeg + n.toNatClampNeg then none else f (.inl (0, n1, .inl (va_cpy g0 g1 sp.toNatClampNeg dp.toNatClampNeg n.toNatClampNeg)))) = some r := h
      split at h
      · cases h
      · next hc =>
        simp only [not_or] at hc
        exact ⟨n0, n1, g0, g1, rfl, rfl, hc.1, hc.2.1, hc.2.2.1, Nat.not_lt.mp hc.2.2.2.1, Nat.not_lt.mp hc.2.2.2.2, h⟩
  · cases h
section Step
variable {p : Program} {l : Launch} {e : Env} {R : Room} {s : State} {m : MethodId} {args : Array Value} {below : List Frame} {meth : Method} {c : Code} {Q : State → Prop}
variable {M : XM} {A : Nat → Prop} {D : va_G} {aC : Nat → ClassId} {sp : Nat → Nat} {sc : Nat × (Nat → Int32)} {c0 k0 : Nat}
variable {ws : va_W} {L S L' S' : List Value} {h h' : XH} {ls : Array Slot} {st : List Value} {H : Heap} {locs : List Loc} {cells slots : Nat} {pc pc' : Nat}
theorem XS.world (X : XS s A D aC sp sc M c0 k0 ws L S h ls st H locs cells slots) {ws' : va_W} {h2 : XH} {S2 : List Value} {st2 : List Value} {H2 : Heap} {locs2 : List Loc} {cells2 slots2 : Nat} (E : Ext ws ws') (hS : SR ws' sp S2 st2) (hW : WR aC ws' sp h2) (hP : va_P D vwCl ws' H2) (hD : va_D A ws') (hV : va_S A s.heap H2 locs2) (h1 : cells2 + c0 = h2.2.2.1) (h3 : slots2 + k0 = h2.2.2.2.1) (h4 : h2.2.2.2.2 = h.2.2.2.2) : XS s A D aC sp sc M c0 k0 ws' L S2 h2 ls st2 H2 locs2 cells2 slots2 :=
  ⟨X.1.mono E, hS, hW, hP, hD, hV, h1, h3, fun q => h4.trans (X.2.2.2.2.2.2.2.2 q)⟩
/-- the class's rows -/
theorem cl_rows : ∀ (ci : Nat) (r : vw_C), 2 ≤ ci → vwCl[ci]? = some r → (∀ w ∈ u_ws r.1 r.2.1 r.2.2, w ∈ XT) ∧ (∀ k, k < r.2.2 → parseFieldDescriptor (r.2.1 k).2.2.1 = some (fty ci k)) ∧ (∀ a, a < r.2.2 → ∀ b, b < r.2.2 → a ≠ b → (r.2.1 a).2.1 ≠ (r.2.1 b).2.1) ∧ (∀ k, k < r.2.2 → (r.2.1 k).1 = r.1) ∧ r.1 = RN ci
  | 0, _, h, _ => absurd h (by decide)
  | 1, _, h, _ => absurd h (by decide)
  | 2, r, _, h => by cases h; exact ⟨fun w hw => List.mem_filter.mpr ⟨inX1 w hw, (show ∀ w ∈ wsX10, stab w = true by decide +kernel) w hw⟩, tyX1_ok, nmX1, by decide +kernel, rfl⟩
  | 3, r, _, h => by cases h; exact ⟨fun w hw => List.mem_filter.mpr ⟨inX2 w hw, (show ∀ w ∈ wsX20, stab w = true by decide +kernel) w hw⟩, tyX2_ok, nmX2, by decide +kernel, rfl⟩
  | 4, r, _, h => by cases h; exact ⟨fun w hw => List.mem_filter.mpr ⟨inX3 w hw, (show ∀ w ∈ wsX30, stab w = true by decide +kernel) w hw⟩, tyX3_ok, nmX3, by decide +kernel, rfl⟩
  | 5, r, _, h => by cases h; exact ⟨fun w hw => List.mem_filter.mpr ⟨inX4 w hw, (show ∀ w ∈ wsX40, stab w = true by decide +kernel) w hw⟩, tyX4_ok, nmX4, by decide +kernel, rfl⟩
  | 6, r, _, h => by cases h; exact ⟨fun w hw => List.mem_filter.mpr ⟨inX5 w hw, (show ∀ w ∈ wsX50, stab w = true by decide +kernel) w hw⟩, tyX5_ok, nmX5, by decide +kernel, rfl⟩
  | 7, r, _, h => by cases h; exact ⟨fun w hw => List.mem_filter.mpr ⟨inX6 w hw, (show ∀ w ∈ wsX60, stab w = true by decide +kernel) w hw⟩, tyX6_ok, nmX6, by decide +kernel, rfl⟩
  | 8, r, _, h => by cases h; exact ⟨fun w hw => List.mem_filter.mpr ⟨inX7 w hw, (show ∀ w ∈ wsX70, stab w = true by decide +kernel) w hw⟩, tyX7_ok, nmX7, by decide +kernel, rfl⟩
  | 9, r, _, h => by cases h; exact ⟨fun w hw => List.mem_filter.mpr ⟨inX8 w hw, (show ∀ w ∈ wsX80, stab w = true by decide +kernel) w hw⟩, tyX8_ok, nmX8, by decide +kernel, rfl⟩
  | n + 10, _, _, h => by simp [vwCl] at h
theorem xfit_spec {ty : FieldType} {v w : Value} {ws : va_W} {sp : Nat → Nat} (h : xfit ty v = true) (hv : VR ws sp v w) : narrow ty w = w ∧ fits ty w = true := by
  cases v with
  | int x =>
    cases hv
    cases ty with
    | int => exact ⟨rfl, rfl⟩
    | boolean =>
      have h1 : x = 0 ∨ x = 1 := of_decide_eq_true h
      rcases h1 with rfl | rfl <;> exact ⟨by decide, by decide⟩
    | _ => cases h
  | ref a =>
    obtain ⟨b, rfl⟩ := hv.ref
    cases ty with
    | object n => exact ⟨rfl, rfl⟩
    | array n => exact ⟨rfl, rfl⟩
    | _ => cases h
  | null =>
    cases hv
    cases ty with
    | object n => exact ⟨rfl, rfl⟩
    | array n => exact ⟨rfl, rfl⟩
    | _ => cases h
  | retAddr k => exact absurd hv id
  | _ => cases ty <;> cases h
theorem xtys_at {aC : Nat → ClassId} {t : Nat} (h : t < 5) : (xtys aC)[t]? = some (aC t, xty t) := by
  rcases t with _ | _ | _ | _ | _ | t
  · rfl
  · rfl
  · rfl
  · rfl
  · rfl
  · omega
theorem xblank_ok (ci N j : Nat) (hj : j < N) : defaultValue (fty ci j) = vp_V (xblank ci N) j := by
  simp [vp_V, xblank, List.getD_eq_getElem?_getD, hj]
theorem SR.blank (ws : va_W) (sp : Nat → Nat) (ci : Nat) : ∀ (l : List Nat), SR ws sp (l.map fun k => defaultValue (fty ci k)) (l.map fun k => defaultValue (fty ci k))
  | [] => rfl
  | k :: l => ⟨_, _, rfl, (fun ty : FieldType => (by cases ty <;> exact Eq.refl _ : VR ws sp (defaultValue ty) (defaultValue ty))) (fty ci k), SR.blank ws sp ci l⟩

end Step
