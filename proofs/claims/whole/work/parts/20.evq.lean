/-! The pure reading as a rewriting: what a run comes to. -/
theorem xback_mono {M M' : XM} {pc : Nat} {L rest : List Value} {o : XO} {h : XH} {go go' : Nat → List Value → List Value → XH → Option (XO × XH)} {r : XO × XH} (hg : ∀ a b c d r, go a b c d = some r → go' a b c d = some r) (q : xback M M' pc L rest o h go = some r) : xback M M' pc L rest o h go' = some r := by
  unfold xback at q ⊢
  cases o with
  | inl v => exact hg _ _ _ _ _ q
  | inr E =>
    dsimp only at q ⊢
    cases hi : ((xm_y M').name == "<init>") with
    | true => rw [hi] at q; cases q
    | false =>
      rw [hi] at q
      dsimp only [cond_false] at q ⊢
      cases hc : (xm_hh M).isEmpty with
      | true => rw [hc] at q; exact q
      | false =>
        rw [hc] at q
        dsimp only [cond_false] at q ⊢
        cases hh : xhandler M pc E (xm_hh M) with
        | none => rw [hh] at q; cases q
        | some w =>
          rw [hh] at q
          dsimp only at q ⊢
          by_cases hk : w.2 < L.length
          · rw [if_pos hk] at q ⊢
            exact hg _ _ _ _ _ q
          · rw [if_neg hk] at q
            cases q
theorem ex_step1 : ∀ (f d : Nat) (M : XM) (pc : Nat) (L S : List Value) (h : XH) (r : XO × XH), ex f d M pc L S h = some r → ex (f + 1) d M pc L S h = some r := by
  intro f
  induction f with
  | zero => intro d M pc L S h r q; cases q
  | succ f ih =>
    intro d M pc L S h r q
    rw [ex] at q ⊢
    cases hf : xfetch M pc with
    | none => rw [hf] at q; cases q
    | some w =>
      obtain ⟨i, n⟩ := w
      rw [hf] at q
      dsimp only at q ⊢
      cases hx : xstep M i pc L S h with
      | none => rw [hx] at q; cases q
      | some z =>
        rw [hx] at q
        rcases z with ⟨pc', L', S', h'⟩ | ⟨v, h'⟩ | ⟨E, h'⟩ | ⟨M', As, rest, h'⟩
        · exact ih _ _ _ _ _ _ _ q
        · exact q
        · exact q
        · dsimp only at q ⊢
          cases d with
          | zero => cases q
          | succ d' =>
            dsimp only at q ⊢
            cases he : ex f d' M' 0 (xentry M' As) [] h' with
            | none => rw [he] at q; cases q
            | some w =>
              obtain ⟨o, h2⟩ := w
              rw [he] at q
              rw [ih _ _ _ _ _ _ _ he]
              exact xback_mono (fun a b c d r z => ih _ _ _ _ _ _ _ z) q
theorem ex_mono {f f' d : Nat} {M : XM} {pc : Nat} {L S : List Value} {h : XH} {r : XO × XH} (hl : f ≤ f') (q : ex f d M pc L S h = some r) : ex f' d M pc L S h = some r := by
  induction hl with
  | refl => exact q
  | step _ ih => exact ex_step1 _ _ _ _ _ _ _ _ ih
/-- the run comes to an end of which Q holds -/
def EvQ (d : Nat) (M : XM) (pc : Nat) (L S : List Value) (h : XH) (Q : XO → XH → Prop) : Prop := ∃ (f : Nat) (o : XO) (h2 : XH), ex f d M pc L S h = some (o, h2) ∧ Q o h2
def Call (d : Nat) (M : XM) (As : List Value) (h : XH) (Q : XO → XH → Prop) : Prop := EvQ d M 0 (xentry M As) [] h Q
/-- behind a call -/
def Bck (d : Nat) (M M' : XM) (pc : Nat) (L rest : List Value) (Q : XO → XH → Prop) : XO → XH → Prop := fun o h2 => ∃ (f : Nat) (o' : XO) (h3 : XH), xback M M' pc L rest o h2 (fun pc' L' S' h'' => ex f d M pc' L' S' h'') = some (o', h3) ∧ Q o' h3
def Aft (d : Nat) (M : XM) (pc : Nat) (L : List Value) (Q : XO → XH → Prop) : Option XR → Prop
  | none => False
  | some (.inl (pc', L', S', h')) => EvQ d M pc' L' S' h' Q
  | some (.inr (.inl (v, h'))) => Q (.inl v) h'
  | some (.inr (.inr (.inl (E, h')))) => Q (.inr E) h'
  | some (.inr (.inr (.inr (M', As, rest, h')))) => match d with
    | 0 => False
    | d' + 1 => Call d' M' As h' (Bck (d' + 1) M M' pc L rest Q)
section Ev
variable {d : Nat} {M M' : XM} {pc n : Nat} {i : Instr} {L S : List Value} {h : XH} {Q : XO → XH → Prop}
theorem evq (hf : xfetch M pc = some (i, n)) : EvQ d M pc L S h Q = Aft d M pc L Q (xstep M i pc L S h) := by
  apply propext
  constructor
  · rintro ⟨f, o, h2, q, hQ⟩
    cases f with
    | zero => cases q
    | succ f =>
      rw [ex, hf] at q
      dsimp only at q
      cases hx : xstep M i pc L S h with
      | none => rw [hx] at q; cases q
      | some z =>
        rw [hx] at q
        rcases z with ⟨pc', L', S', h'⟩ | ⟨v, h'⟩ | ⟨E, h'⟩ | ⟨M', As, rest, h'⟩
        · exact ⟨f, o, h2, q, hQ⟩
        · cases q; exact hQ
        · cases q; exact hQ
        · dsimp only at q
          cases d with
          | zero => cases q
          | succ d' =>
            dsimp only at q
            cases he : ex f d' M' 0 (xentry M' As) [] h' with
            | none => rw [he] at q; cases q
            | some w =>
              rw [he] at q
              exact ⟨f, w.1, w.2, he, f, o, h2, q, hQ⟩
  · intro hA
    cases hx : xstep M i pc L S h with
    | none => rw [hx] at hA; exact absurd hA id
    | some z =>
      rw [hx] at hA
      rcases z with ⟨pc', L', S', h'⟩ | ⟨v, h'⟩ | ⟨E, h'⟩ | ⟨M', As, rest, h'⟩
      · obtain ⟨f, o, h2, q, hQ⟩ := hA
        refine ⟨f + 1, o, h2, ?_, hQ⟩
        rw [ex, hf]
        dsimp only
        rw [hx]
        exact q
      · refine ⟨1, _, _, ?_, hA⟩
        rw [ex, hf]
        dsimp only
        rw [hx]
      · refine ⟨1, _, _, ?_, hA⟩
        rw [ex, hf]
        dsimp only
        rw [hx]
      · cases d with
        | zero => exact absurd hA id
        | succ d' =>
          obtain ⟨f1, o1, h1, q1, f2, o2, h2, q2, hQ⟩ := hA
          refine ⟨max f1 f2 + 1, o2, h2, ?_, hQ⟩
          rw [ex, hf]
          dsimp only
          rw [hx]
          dsimp only
          rw [ex_mono (Nat.le_max_left f1 f2) q1]
          exact xback_mono (fun a b c d r z => ex_mono (Nat.le_max_right f1 f2) z) q2
theorem evx {pc' : Nat} {L' S' : List Value} {h' : XH} (hf : xfetch M pc = some (i, n)) (hx : xstep M i pc L S h = some (.inl (pc', L', S', h'))) : EvQ d M pc L S h Q = EvQ d M pc' L' S' h' Q := by
  rw [evq hf, hx]
  rfl
theorem bck_ret {d : Nat} {v : Option Value} {L rest : List Value} {h2 : XH} : Bck d M M' pc L rest Q (.inl v) h2 = EvQ d M (pc + 3) L (v.toList ++ rest) h2 Q := rfl
theorem bck_thr {E : Nat} {L rest : List Value} {h2 : XH} (h1 : (xm_hh M).isEmpty = true) (h3 : Nat.blt (xm_own M) 11 = true) (h4 : ((xm_y M').name == "<init>") = false) : Bck d M M' pc L rest Q (.inr E) h2 = Q (.inr E) h2 := by
  apply propext
  unfold Bck
  constructor
  · rintro ⟨f, o', h3', q, hQ⟩
    unfold xback at q
    dsimp only at q
    rw [h4, h1, h3] at q
    cases q
    exact hQ
  · intro hQ
    refine ⟨0, .inr E, h2, ?_, hQ⟩
    unfold xback
    dsimp only
    rw [h4, h1, h3]
    rfl
end Ev
/-! What the heap's reads and writes come to. -/
def egf (e : Option va_E) (ci k : Nat) (K : Value → Prop) : Prop := match e with
  | some (.inr (cj, fs)) => bif Nat.beq cj ci then (match fs[k]? with
    | some v => K v
    | none => False) else False
  | _ => False
def epf (e : Option va_E) (ci k : Nat) (v : Value) (K : va_E → Prop) : Prop := match e with
  | some (.inr (cj, fs)) => bif Nat.beq cj ci && (Nat.blt k fs.length && xfit (fty ci k) v) then K (.inr (ci, fs.set k v)) else False
  | _ => False
def ega (e : Option va_E) (t : Nat) (i : Int32) (K : Int32 → Prop) : Prop := match e with
  | some (.inl (u, n, .inl g)) => bif Nat.beq u t then (if i < 0 ∨ n ≤ i.toNatClampNeg then False else K (g i.toNatClampNeg)) else False
  | _ => False
def egl (e : Option va_E) (i : Int32) (K : Int64 → Prop) : Prop := match e with
  | some (.inl (u, n, .inr (.inl g))) => bif Nat.beq u 3 then (if i < 0 ∨ n ≤ i.toNatClampNeg then False else K (g i.toNatClampNeg)) else False
  | _ => False
def egd (e : Option va_E) (i : Int32) (K : UInt64 → Prop) : Prop := match e with
  | some (.inl (u, n, .inr (.inr (.inr (.inl g))))) => bif Nat.beq u 4 then (if i < 0 ∨ n ≤ i.toNatClampNeg then False else K (g i.toNatClampNeg)) else False
  | _ => False
def egr (e : Option va_E) (i : Int32) (K : Option Nat → Prop) : Prop := match e with
  | some (.inl (u, n, .inr (.inr (.inr (.inr g))))) => bif Nat.beq u 5 then (if i < 0 ∨ n ≤ i.toNatClampNeg then False else K (g i.toNatClampNeg)) else False
  | _ => False
def epa (e : Option va_E) (t : Nat) (i x : Int32) (K : va_E → Prop) : Prop := match e with
  | some (.inl (u, n, .inl g)) => bif Nat.beq u t then (if i < 0 ∨ n ≤ i.toNatClampNeg then False else K (.inl (t, n, .inl (upd g i.toNatClampNeg x)))) else False
  | _ => False
def epl (e : Option va_E) (i : Int32) (x : Int64) (K : va_E → Prop) : Prop := match e with
  | some (.inl (u, n, .inr (.inl g))) => bif Nat.beq u 3 then (if i < 0 ∨ n ≤ i.toNatClampNeg then False else K (.inl (3, n, .inr (.inl (vp_updL g i.toNatClampNeg x))))) else False
  | _ => False
def epd (e : Option va_E) (i : Int32) (x : UInt64) (K : va_E → Prop) : Prop := match e with
  | some (.inl (u, n, .inr (.inr (.inr (.inl g))))) => bif Nat.beq u 4 then (if i < 0 ∨ n ≤ i.toNatClampNeg then False else K (.inl (4, n, .inr (.inr (.inr (.inl (vf_upd g i.toNatClampNeg x))))))) else False
  | _ => False
def elen (e : Option va_E) (K : Int32 → Prop) : Prop := match e with
  | some (.inl (_, n, _)) => K (Int32.ofNat n)
  | _ => False
def ecp (e0 e1 : Option va_E) (sp dp n : Int32) (K : va_E → Prop) : Prop := match e0, e1 with
  | some (.inl (u, n0, .inl g0)), some (.inl (v, n1, .inl g1)) => bif Nat.beq u 0 && Nat.beq v 0 then
      (if sp < 0 ∨ dp < 0 ∨ n < 0 ∨ n0 < sp.toNatClampNeg + n.toNatClampNeg ∨ n1 < dp.toNatClampNeg + n.toNatClampNeg then False else K (.inl (0, n1, .inl (va_cpy g0 g1 sp.toNatClampNeg dp.toNatClampNeg n.toNatClampNeg)))) else False
  | _, _ => False
/-- an object of the class c -/
def eob (e : Option va_E) (c : Nat) (P : Prop) : Prop := match e with
  | some (.inr (cj, _)) => bif Nat.beq cj c then P else False
  | _ => False
section Afts
variable {d : Nat} {M : XM} {pc : Nat} {L : List Value} {Q : XO → XH → Prop} {e e' : Option va_E}
theorem aft_ite {c : Prop} [Decidable c] {a b : Option XR} : Aft d M pc L Q (if c then a else b) = if c then Aft d M pc L Q a else Aft d M pc L Q b := by
  split <;> rfl
theorem aft_gf {ci k : Nat} {f : Value → Option XR} : Aft d M pc L Q (xgf e ci k f) = egf e ci k (fun v => Aft d M pc L Q (f v)) := by
  rcases e with _ | (⟨u, n, g⟩ | ⟨cj, fs⟩)
  · rfl
  · rfl
  · simp only [xgf, egf]
    cases Nat.beq cj ci
    · rfl
    · simp only [cond_true]
      cases fs[k]? <;> rfl
theorem aft_pf {ci k : Nat} {v : Value} {f : va_E → Option XR} : Aft d M pc L Q (xpf e ci k v f) = epf e ci k v (fun v => Aft d M pc L Q (f v)) := by
  rcases e with _ | (⟨u, n, g⟩ | ⟨cj, fs⟩)
  · rfl
  · rfl
  · simp only [xpf, epf]
    cases (Nat.beq cj ci && (Nat.blt k fs.length && xfit (fty ci k) v)) <;> rfl
theorem aft_ga {t : Nat} {i : Int32} {f : Int32 → Option XR} : Aft d M pc L Q (xga e t i f) = ega e t i (fun v => Aft d M pc L Q (f v)) := by
  rcases e with _ | (⟨u, n, g⟩ | ⟨cj, fs⟩)
  · rfl
  · rcases g with g | g | g | g | g
    all_goals first
      | rfl
      | (simp only [xga, ega]
         cases Nat.beq u t
         · rfl
         · exact aft_ite)
  · rfl
theorem aft_gl {i : Int32} {f : Int64 → Option XR} : Aft d M pc L Q (xgl e i f) = egl e i (fun v => Aft d M pc L Q (f v)) := by
  rcases e with _ | (⟨u, n, g⟩ | ⟨cj, fs⟩)
  · rfl
  · rcases g with g | g | g | g | g
    all_goals first
      | rfl
      | (simp only [xgl, egl]
         cases Nat.beq u 3
         · rfl
         · exact aft_ite)
  · rfl
theorem aft_gd {i : Int32} {f : UInt64 → Option XR} : Aft d M pc L Q (xgd e i f) = egd e i (fun v => Aft d M pc L Q (f v)) := by
  rcases e with _ | (⟨u, n, g⟩ | ⟨cj, fs⟩)
  · rfl
  · rcases g with g | g | g | g | g
    all_goals first
      | rfl
      | (simp only [xgd, egd]
         cases Nat.beq u 4
         · rfl
         · exact aft_ite)
  · rfl
theorem aft_gr {i : Int32} {f : Option Nat → Option XR} : Aft d M pc L Q (xgr e i f) = egr e i (fun v => Aft d M pc L Q (f v)) := by
  rcases e with _ | (⟨u, n, g⟩ | ⟨cj, fs⟩)
  · rfl
  · rcases g with g | g | g | g | g
    all_goals first
      | rfl
      | (simp only [xgr, egr]
         cases Nat.beq u 5
         · rfl
         · exact aft_ite)
  · rfl
theorem aft_pa {t : Nat} {i x : Int32} {f : va_E → Option XR} : Aft d M pc L Q (xpa e t i x f) = epa e t i x (fun v => Aft d M pc L Q (f v)) := by
  rcases e with _ | (⟨u, n, g⟩ | ⟨cj, fs⟩)
  · rfl
  · rcases g with g | g | g | g | g
    all_goals first
      | rfl
      | (simp only [xpa, epa]
         cases Nat.beq u t
         · rfl
         · exact aft_ite)
  · rfl
theorem aft_pl {i : Int32} {x : Int64} {f : va_E → Option XR} : Aft d M pc L Q (xpl e i x f) = epl e i x (fun v => Aft d M pc L Q (f v)) := by
  rcases e with _ | (⟨u, n, g⟩ | ⟨cj, fs⟩)
  · rfl
  · rcases g with g | g | g | g | g
    all_goals first
      | rfl
      | (simp only [xpl, epl]
         cases Nat.beq u 3
         · rfl
         · exact aft_ite)
  · rfl
theorem aft_pd {i : Int32} {x : UInt64} {f : va_E → Option XR} : Aft d M pc L Q (xpd e i x f) = epd e i x (fun v => Aft d M pc L Q (f v)) := by
  rcases e with _ | (⟨u, n, g⟩ | ⟨cj, fs⟩)
  · rfl
  · rcases g with g | g | g | g | g
    all_goals first
      | rfl
      | (simp only [xpd, epd]
         cases Nat.beq u 4
         · rfl
         · exact aft_ite)
  · rfl
theorem aft_cp {x y z : Int32} {f : va_E → Option XR} : Aft d M pc L Q (xcp e e' x y z f) = ecp e e' x y z (fun v => Aft d M pc L Q (f v)) := by
  rcases e with _ | (⟨u, n, g⟩ | ⟨cj, fs⟩)
  · rfl
  · rcases g with g | g | g | g | g
    · rcases e' with _ | (⟨u', n', g'⟩ | ⟨cj', fs'⟩)
      · rfl
      · rcases g' with g' | g' | g' | g' | g'
        · simp only [xcp, ecp]
          cases (Nat.beq u 0 && Nat.beq u' 0)
          · rfl
          · exact aft_ite
        all_goals rfl
      · rfl
    all_goals rfl
  · rfl
end Afts
