/-! What an abstract state stands for in the machine's heap. ws: the world, a cell's number its place there; sp: the addresses of the constants (from 1000000 on). -/
def VR (ws : va_W) (sp : Nat → Nat) (v w : Value) : Prop := match v with
  | .ref a => (a < 1000000 ∧ ∃ q, ws[a]? = some q ∧ w = .ref q.1) ∨ (1000000 ≤ a ∧ w = .ref (sp a))
  | .retAddr _ => False
  | v => w = v
def SR (ws : va_W) (sp : Nat → Nat) : List Value → List Value → Prop
  | [], T => T = []
  | v :: S, T => ∃ w T', T = w :: T' ∧ VR ws sp v w ∧ SR ws sp S T'
def VO (ws : va_W) (a b : Option Nat) : Prop := match a with
  | none => b = none
  | some k => k < 1000000 ∧ ∃ q, ws[k]? = some q ∧ b = some q.1
def XER (aC : Nat → ClassId) (ws : va_W) (sp : Nat → Nat) (x e : va_E) : Prop := match x with
  | .inr (ci, fs) => 2 ≤ ci ∧ ∃ gs, e = .inr (ci, gs) ∧ SR ws sp fs gs
  | .inl (t, n, .inr (.inr (.inr (.inr f)))) => t = 5 ∧ ∃ g, e = .inl (aC 5, n, .inr (.inr (.inr (.inr g)))) ∧ ∀ j, VO ws (f j) (g j)
  | .inl (t, a) => t < 5 ∧ e = .inl (aC t, a)
def LR (ws : va_W) (sp : Nat → Nat) (L : List Value) (ls : Array Slot) (nL : Nat) : Prop :=
  ls.size = nL ∧ L.length = nL ∧ lv_wf ls ∧ ∀ (i : Nat) (v : Value), L[i]? = some v → (∃ k, v = .retAddr k) ∨ ∃ w, VR ws sp v w ∧ ls[i]? = some (.val w)
def WR (aC : Nat → ClassId) (ws : va_W) (sp : Nat → Nat) (h : XH) : Prop :=
  (h.2.1 = ws.length ∧ ws.length ≤ 1000000) ∧ ∀ k : Nat, (h.1 k = none ∧ ws[k]? = none) ∨ ∃ x q, h.1 k = some x ∧ ws[k]? = some q ∧ XER aC ws sp x q.2
def Ext (ws ws' : va_W) : Prop := ∀ (k : Nat) (q : Nat × va_E), ws[k]? = some q → ∃ q', ws'[k]? = some q' ∧ q'.1 = q.1
theorem Ext.rf {ws : va_W} : Ext ws ws := fun _ q h => ⟨q, h, rfl⟩
theorem Ext.tr {a b c : va_W} (h1 : Ext a b) (h2 : Ext b c) : Ext a c := fun k q h => by
  obtain ⟨q1, e1, e2⟩ := h1 k q h
  obtain ⟨q2, e3, e4⟩ := h2 k q1 e1
  exact ⟨q2, e3, e4.trans e2⟩
theorem Ext.set {ws : va_W} {p a : Nat} {e0 e : va_E} (hp : ws[p]? = some (a, e0)) : Ext ws (ws.set p (a, e)) := by
  intro k q hk
  have hl := (List.getElem?_eq_some_iff.mp hp).1
  by_cases hkp : k = p
  · subst hkp
    refine ⟨(a, e), by rw [List.getElem?_set_self hl], ?_⟩
    rw [hp] at hk
    cases hk
    rfl
  · exact ⟨q, by rw [List.getElem?_set_ne (Ne.symm hkp)]; exact hk, rfl⟩
theorem Ext.app {ws w2 : va_W} : Ext ws (ws ++ w2) := fun k q hk => ⟨q, by
  rw [List.getElem?_append_left (List.getElem?_eq_some_iff.mp hk).1]; exact hk, rfl⟩
section Mono
variable {ws ws' : va_W} {sp : Nat → Nat} {aC : Nat → ClassId} (E : Ext ws ws')
theorem VR.mono {v w : Value} (h : VR ws sp v w) (E : Ext ws ws') : VR ws' sp v w := by
  cases v with
  | ref a =>
    rcases h with ⟨h0, q, h1, h2⟩ | h
    · obtain ⟨q', h3, h4⟩ := E a q h1
      exact Or.inl ⟨h0, q', h3, by rw [h4]; exact h2⟩
    · exact Or.inr h
  | _ => exact h
theorem SR.mono : ∀ {S T : List Value}, SR ws sp S T → Ext ws ws' → SR ws' sp S T
  | [], _, h, _ => h
  | _ :: _, _, ⟨w, T', h1, h2, h3⟩, E => ⟨w, T', h1, h2.mono E, SR.mono h3 E⟩
theorem VO.mono {a b : Option Nat} (h : VO ws a b) (E : Ext ws ws') : VO ws' a b := by
  cases a with
  | none => exact h
  | some k =>
    obtain ⟨h0, q, h1, h2⟩ := h
    obtain ⟨q', h3, h4⟩ := E k q h1
    exact ⟨h0, q', h3, by rw [h4]; exact h2⟩
theorem XER.mono {x e : va_E} (h : XER aC ws sp x e) (E : Ext ws ws') : XER aC ws' sp x e := by
  rcases x with ⟨t, n, f | f | f | f | f⟩ | ⟨ci, fs⟩
  · exact h
  · exact h
  · exact h
  · exact h
  · obtain ⟨h0, g, h1, h2⟩ := h
    exact ⟨h0, g, h1, fun j => (h2 j).mono E⟩
  · obtain ⟨h0, gs, h1, h2⟩ := h
    exact ⟨h0, gs, h1, h2.mono E⟩
theorem LR.mono {L : List Value} {ls : Array Slot} {nL : Nat} (h : LR ws sp L ls nL) (E : Ext ws ws') : LR ws' sp L ls nL := by
  obtain ⟨h1, h2, h3, h4⟩ := h
  refine ⟨h1, h2, h3, fun i v hv => ?_⟩
  rcases h4 i v hv with h | ⟨w, h5, h6⟩
  · exact Or.inl h
  · exact Or.inr ⟨w, h5.mono E, h6⟩
end Mono
theorem SR.len {ws : va_W} {sp : Nat → Nat} : ∀ {S T : List Value}, SR ws sp S T → T.length = S.length
  | [], _, h => by rw [h]
  | _ :: _, _, ⟨w, T', h1, _, h3⟩ => by rw [h1, List.length_cons, List.length_cons, SR.len h3]
theorem SR.get {ws : va_W} {sp : Nat → Nat} : ∀ {S T : List Value} {k : Nat} {v : Value}, SR ws sp S T → S[k]? = some v → ∃ w, T[k]? = some w ∧ VR ws sp v w
  | [], _, _, _, _, hk => by simp at hk
  | _ :: _, _, 0, _, ⟨w, T', h1, h2, _⟩, hk => by
    simp at hk
    subst hk
    exact ⟨w, by rw [h1]; rfl, h2⟩
  | _ :: _, _, k + 1, v, ⟨w, T', h1, _, h3⟩, hk => by
    obtain ⟨w', h4, h5⟩ := SR.get (k := k) h3 (by simpa using hk)
    exact ⟨w', by rw [h1]; simpa using h4, h5⟩
theorem SR.setv {ws : va_W} {sp : Nat → Nat} : ∀ {S T : List Value} {k : Nat} {v w : Value}, SR ws sp S T → VR ws sp v w → SR ws sp (S.set k v) (T.set k w)
  | [], _, _, _, _, h, _ => by rw [h]; rfl
  | _ :: _, _, 0, _, w, ⟨w0, T', h1, _, h3⟩, hv => by
    rw [h1]
    exact ⟨w, T', rfl, hv, h3⟩
  | _ :: _, _, k + 1, _, w, ⟨w0, T', h1, h2, h3⟩, hv => by
    rw [h1]
    exact ⟨w0, T'.set k w, rfl, h2, SR.setv h3 hv⟩
theorem SR.app {ws : va_W} {sp : Nat → Nat} : ∀ {S T S' T' : List Value}, SR ws sp S T → SR ws sp S' T' → SR ws sp (S ++ S') (T ++ T')
  | [], _, _, _, h, h' => by rw [h]; exact h'
  | _ :: _, _, _, _, ⟨w, T0, h1, h2, h3⟩, h' => ⟨w, T0 ++ _, by rw [h1]; rfl, h2, SR.app h3 h'⟩
theorem VR.cat {ws : va_W} {sp : Nat → Nat} {v w : Value} (h : VR ws sp v w) : w.category = v.category := by
  cases v with
  | ref a =>
    rcases h with ⟨_, q, _, h⟩ | ⟨_, h⟩ <;> rw [h] <;> rfl
  | retAddr k => exact absurd h id
  | _ => rw [show w = _ from h]
theorem SR.cat {ws : va_W} {sp : Nat → Nat} : ∀ {S T : List Value}, SR ws sp S T → (T.map fun v => v.category).sum = (S.map fun v => v.category).sum
  | [], _, h => by rw [h]
  | _ :: _, _, ⟨w, T', h1, h2, h3⟩ => by rw [h1, List.map_cons, List.map_cons, List.sum_cons, List.sum_cons, h2.cat, SR.cat h3]
theorem xle4_cat {ws : va_W} {sp : Nat → Nat} {S T : List Value} (h : xle4 S = true) (hS : SR ws sp S T) : (T.map fun v => v.category).sum ≤ 8 := by
  have hc : ∀ v : Value, v.category ≤ 2 := fun v => by cases v <;> exact Nat.le_of_ble_eq_true rfl
  have hl : T.length ≤ 4 := by
    rw [hS.len]
    rcases S with _ | ⟨a, _ | ⟨b, _ | ⟨c, _ | ⟨d, _ | ⟨e, r⟩⟩⟩⟩⟩
    · exact Nat.zero_le _
    · exact Nat.le_of_ble_eq_true rfl
    · exact Nat.le_of_ble_eq_true rfl
    · exact Nat.le_of_ble_eq_true rfl
    · exact Nat.le_of_ble_eq_true rfl
    · cases h
  rcases T with _ | ⟨a, _ | ⟨b, _ | ⟨c, _ | ⟨d, _ | ⟨e, r⟩⟩⟩⟩⟩
  · exact Nat.zero_le _
  · simp only [List.map_cons, List.map_nil, List.sum_cons, List.sum_nil]; have := hc a; omega
  · simp only [List.map_cons, List.map_nil, List.sum_cons, List.sum_nil]; have := hc a; have := hc b; omega
  · simp only [List.map_cons, List.map_nil, List.sum_cons, List.sum_nil]; have := hc a; have := hc b; have := hc c; omega
  · simp only [List.map_cons, List.map_nil, List.sum_cons, List.sum_nil]; have := hc a; have := hc b; have := hc c; have := hc d; omega
  · simp at hl
/-- all locals of an array of slots, as the kit lists them -/
def lvAll (ls : Array Slot) : List (Nat × Value) := (List.range ls.size).filterMap fun i => match ls[i]? with
  | some (Slot.val w) => some (i, w)
  | _ => none
theorem lvAll_mem {ls : Array Slot} {i : Nat} {w : Value} (h : ls[i]? = some (.val w)) : (i, w) ∈ lvAll ls :=
  List.mem_filterMap.mpr ⟨i, List.mem_range.mpr (Array.getElem?_eq_some_iff.mp h).1, by rw [h]⟩
theorem lvAll_has {ls : Array Slot} {n : Nat} (hn : ls.size = n) (hw : lv_wf ls) : lv_has ls n (lvAll ls) := by
  refine ⟨hn, hw, fun q hq => ?_⟩
  obtain ⟨i, _, hi⟩ := List.mem_filterMap.mp hq
  cases hs : ls[i]? with
  | none => rw [hs] at hi; cases hi
  | some x =>
    rw [hs] at hi
    cases x with
    | val w =>
      cases hi
      exact hs
    | _ => cases hi
theorem WR.at {aC : Nat → ClassId} {ws : va_W} {sp : Nat → Nat} {h : XH} (hW : WR aC ws sp h) {a : Nat} {x : va_E} (hx : hget h a = some x) : ∃ q, ws[a]? = some q ∧ XER aC ws sp x q.2 := by
  rcases hW.2 a with ⟨h1, _⟩ | ⟨x', q, h1, h2, h3⟩
  · rw [show h.1 a = some x from hx] at h1; cases h1
  · rw [show h.1 a = some x from hx] at h1
    cases h1
    exact ⟨q, h2, h3⟩
theorem WR.set {aC : Nat → ClassId} {ws : va_W} {sp : Nat → Nat} {h : XH} (hW : WR aC ws sp h) {a b : Nat} {e0 e x : va_E} (hq : ws[a]? = some (b, e0)) (he : XER aC ws sp x e) : WR aC (ws.set a (b, e)) sp (hset h a x) := by
  have hl := (List.getElem?_eq_some_iff.mp hq).1
  have E : Ext ws (ws.set a (b, e)) := Ext.set hq
  refine ⟨⟨by rw [List.length_set]; exact hW.1.1, by rw [List.length_set]; exact hW.1.2⟩, fun k => ?_⟩
  by_cases hk : k = a
  · subst hk
    exact Or.inr ⟨x, (b, e), by simp [hset], by rw [List.getElem?_set_self hl], he.mono E⟩
  · rw [List.getElem?_set_ne (Ne.symm hk)]
    rcases hW.2 k with ⟨h1, h2⟩ | ⟨x', q, h1, h2, h3⟩
    · exact Or.inl ⟨by simp [hset, hk, h1], h2⟩
    · exact Or.inr ⟨x', q, by simp [hset, hk, h1], h2, h3.mono E⟩
theorem WR.new {aC : Nat → ClassId} {ws : va_W} {sp : Nat → Nat} {h : XH} (hW : WR aC ws sp h) (hl : h.2.1 < 1000000) {b k0 : Nat} {e x : va_E} (he : XER aC (ws ++ [(b, e)]) sp x e) : WR aC (ws ++ [(b, e)]) sp (hnew h x k0) := by
  refine ⟨⟨by rw [List.length_append]; exact congrArg (· + 1) hW.1.1, by rw [List.length_append, List.length_singleton]; have := hW.1.1; omega⟩, fun k => ?_⟩
  have E : Ext ws (ws ++ [(b, e)]) := Ext.app
  by_cases hk : k = ws.length
  · subst hk
    exact Or.inr ⟨x, (b, e), by simp [hnew, hW.1.1], by simp, he⟩
  · have h0 : (hnew h x k0).1 k = h.1 k := by simp [hnew, hW.1.1, hk]
    rw [h0]
    rcases hW.2 k with ⟨h1, h2⟩ | ⟨x', q, h1, h2, h3⟩
    · refine Or.inl ⟨h1, ?_⟩
      have := List.getElem?_eq_none_iff.mp h2
      exact List.getElem?_eq_none_iff.mpr (by rw [List.length_append, List.length_singleton]; omega)
    · exact Or.inr ⟨x', q, h1, by rw [List.getElem?_append_left (List.getElem?_eq_some_iff.mp h2).1]; exact h2, h3.mono E⟩
theorem WR.exc {aC : Nat → ClassId} {ws : va_W} {sp : Nat → Nat} {h : XH} (hW : WR aC ws sp h) : WR aC ws sp (hexc h) := hW
theorem WR.ref {aC : Nat → ClassId} {ws : va_W} {sp : Nat → Nat} {h : XH} (hW : WR aC ws sp h) {a : Nat} {x : va_E} {w : Value} (hx : hget h a = some x) (hv : VR ws sp (.ref a) w) : ∃ (b : Nat) (e : va_E), ws[a]? = some (b, e) ∧ w = .ref b ∧ XER aC ws sp x e := by
  obtain ⟨⟨b, e⟩, h1, h2⟩ := hW.at hx
  have hl := (List.getElem?_eq_some_iff.mp h1).1
  rcases hv with ⟨_, q, h3, h4⟩ | ⟨h3, _⟩
  · rw [h1] at h3
    cases h3
    exact ⟨b, e, h1, h4, h2⟩
  · have h5 : 1000000 ≤ a := h3
    have := hW.1.2
    omega
/-! what a heap's reading says where it goes on -/
theorem xgf_spec {e : Option va_E} {ci k : Nat} {f : Value → Option XR} {r : XR} (h : xgf e ci k f = some r) : ∃ fs v, e = some (.inr (ci, fs)) ∧ fs[k]? = some v ∧ f v = some r := by
  unfold xgf at h
  split at h
  · next cj fs =>
    cases hb : Nat.beq cj ci with
    | false => rw [hb] at h; cases h
    | true =>
      rw [hb] at h
      have hc := Nat.eq_of_beq_eq_true hb
      subst hc
      replace h : (match fs[k]? with
        | some v => f v
        | none => none) = some r := h
      split at h
      · next v hv => exact ⟨fs, v, rfl, hv, h⟩
      · cases h
  · cases h
theorem xpf_spec {e : Option va_E} {ci k : Nat} {v : Value} {f : va_E → Option XR} {r : XR} (h : xpf e ci k v f = some r) : ∃ fs, e = some (.inr (ci, fs)) ∧ k < fs.length ∧ xfit (fty ci k) v = true ∧ f (.inr (ci, fs.set k v)) = some r := by
  unfold xpf at h
  split at h
  · next cj fs =>
    cases hb : (Nat.beq cj ci && (Nat.blt k fs.length && xfit (fty ci k) v)) with
    | false => rw [hb] at h; cases h
    | true =>
      rw [hb] at h
      simp only [Bool.and_eq_true] at hb
      have hc := Nat.eq_of_beq_eq_true hb.1
      subst hc
      exact ⟨fs, rfl, Nat.le_of_ble_eq_true hb.2.1, hb.2.2, h⟩
  · cases h
theorem xga_spec {e : Option va_E} {t : Nat} {i : Int32} {f : Int32 → Option XR} {r : XR} (h : xga e t i f = some r) : ∃ n g, e = some (.inl (t, n, .inl g)) ∧ vp_in i n ∧ f (g i.toNatClampNeg) = some r := by
  unfold xga at h
  split at h
  · next u n g =>
    cases hb : Nat.beq u t with
    | false => rw [hb] at h; cases h
    | true =>
      rw [hb] at h
      have hc := Nat.eq_of_beq_eq_true hb
      subst hc
      replace h : (if i < 0 ∨ n ≤ i.toNatClampNeg then none else f (g i.toNatClampNeg)) = some r := h
      split at h
      · cases h
      · next hin => exact ⟨n, g, rfl, hin, h⟩
  · cases h
theorem xgl_spec {e : Option va_E} {i : Int32} {f : Int64 → Option XR} {r : XR} (h : xgl e i f = some r) : ∃ n g, e = some (.inl (3, n, .inr (.inl g))) ∧ vp_in i n ∧ f (g i.toNatClampNeg) = some r := by
  unfold xgl at h
  split at h
  · next u n g =>
    cases hb : Nat.beq u 3 with
    | false => rw [hb] at h; cases h
    | true =>
      rw [hb] at h
      have hc := Nat.eq_of_beq_eq_true hb
      subst hc
      replace h : (if i < 0 ∨ n ≤ i.toNatClampNeg then none else f (g i.toNatClampNeg)) = some r := h
      split at h
      · cases h
      · next hin => exact ⟨n, g, rfl, hin, h⟩
  · cases h
theorem xgd_spec {e : Option va_E} {i : Int32} {f : UInt64 → Option XR} {r : XR} (h : xgd e i f = some r) : ∃ n g, e = some (.inl (4, n, .inr (.inr (.inr (.inl g))))) ∧ vp_in i n ∧ f (g i.toNatClampNeg) = some r := by
  unfold xgd at h
  split at h
  · next u n g =>
    cases hb : Nat.beq u 4 with
    | false => rw [hb] at h; cases h
    | true =>
      rw [hb] at h
      have hc := Nat.eq_of_beq_eq_true hb
      subst hc
      replace h : (if i < 0 ∨ n ≤ i.toNatClampNeg then none else f (g i.toNatClampNeg)) = some r := h
      split at h
      · cases h
      · next hin => exact ⟨n, g, rfl, hin, h⟩
  · cases h
theorem xgr_spec {e : Option va_E} {i : Int32} {f : Option Nat → Option XR} {r : XR} (h : xgr e i f = some r) : ∃ n g, e = some (.inl (5, n, .inr (.inr (.inr (.inr g))))) ∧ vp_in i n ∧ f (g i.toNatClampNeg) = some r := by
  unfold xgr at h
  split at h
  · next u n g =>
    cases hb : Nat.beq u 5 with
    | false => rw [hb] at h; cases h
    | true =>
      rw [hb] at h
      have hc := Nat.eq_of_beq_eq_true hb
      subst hc
      replace h : (if i < 0 ∨ n ≤ i.toNatClampNeg then none else f (g i.toNatClampNeg)) = some r := h
      split at h
      · cases h
      · next hin => exact ⟨n, g, rfl, hin, h⟩
  · cases h
theorem xpa_spec {e : Option va_E} {t : Nat} {i x : Int32} {f : va_E → Option XR} {r : XR} (h : xpa e t i x f = some r) : ∃ n g, e = some (.inl (t, n, .inl g)) ∧ vp_in i n ∧ f (.inl (t, n, .inl (upd g i.toNatClampNeg x))) = some r := by
  unfold xpa at h
  split at h
  · next u n g =>
    cases hb : Nat.beq u t with
    | false => rw [hb] at h; cases h
    | true =>
      rw [hb] at h
      have hc := Nat.eq_of_beq_eq_true hb
      subst hc
      replace h : (if i < 0 ∨ n ≤ i.toNatClampNeg then none else f (.inl (u, n, .inl (upd g i.toNatClampNeg x)))) = some r := h
      split at h
      · cases h
      · next hin => exact ⟨n, g, rfl, hin, h⟩
  · cases h
theorem xpl_spec {e : Option va_E} {i : Int32} {x : Int64} {f : va_E → Option XR} {r : XR} (h : xpl e i x f = some r) : ∃ n g, e = some (.inl (3, n, .inr (.inl g))) ∧ vp_in i n ∧ f (.inl (3, n, .inr (.inl (vp_updL g i.toNatClampNeg x)))) = some r := by
  unfold xpl at h
  split at h
  · next u n g =>
    cases hb : Nat.beq u 3 with
    | false => rw [hb] at h; cases h
    | true =>
      rw [hb] at h
      have hc := Nat.eq_of_beq_eq_true hb
      subst hc
      replace h : (if i < 0 ∨ n ≤ i.toNatClampNeg then none else f (.inl (3, n, .inr (.inl (vp_updL g i.toNatClampNeg x))))) = some r := h
      split at h
      · cases h
      · next hin => exact ⟨n, g, rfl, hin, h⟩
  · cases h
theorem xpd_spec {e : Option va_E} {i : Int32} {x : UInt64} {f : va_E → Option XR} {r : XR} (h : xpd e i x f = some r) : ∃ n g, e = some (.inl (4, n, .inr (.inr (.inr (.inl g))))) ∧ vp_in i n ∧ f (.inl (4, n, .inr (.inr (.inr (.inl (vf_upd g i.toNatClampNeg x)))))) = some r := by
  unfold xpd at h
  split at h
  · next u n g =>
    cases hb : Nat.beq u 4 with
    | false => rw [hb] at h; cases h
    | true =>
      rw [hb] at h
      have hc := Nat.eq_of_beq_eq_true hb
      subst hc
      replace h : (if i < 0 ∨ n ≤ i.toNatClampNeg then none else f (.inl (4, n, .inr (.inr (.inr (.inl (vf_upd g i.toNatClampNeg x))))))) = some r := h
      split at h
      · cases h
      · next hin => exact ⟨n, g, rfl, hin, h⟩
  · cases h
theorem xpr_spec {e : Option va_E} {i : Int32} {a : Nat} {f : va_E → Option XR} {r : XR} (h : xpr e i a f = some r) : ∃ n g, e = some (.inl (5, n, .inr (.inr (.inr (.inr g))))) ∧ vp_in i n ∧ f (.inl (5, n, .inr (.inr (.inr (.inr (va_up g i.toNatClampNeg (some a))))))) = some r := by
  unfold xpr at h
  split at h
  · next u n g =>
    cases hb : Nat.beq u 5 with
    | false => rw [hb] at h; cases h
    | true =>
      rw [hb] at h
      have hc := Nat.eq_of_beq_eq_true hb
      subst hc
      replace h : (if i < 0 ∨ n ≤ i.toNatClampNeg then none else f (.inl (5, n, .inr (.inr (.inr (.inr (va_up g i.toNatClampNeg (some a)))))))) = some r := h
      split at h
      · cases h
      · next hin => exact ⟨n, g, rfl, hin, h⟩
  · cases h
