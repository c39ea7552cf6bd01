/-! Counters only grow. -/
def Ge (h h' : XH) : Prop := h.2.2.1 ≤ h'.2.2.1 ∧ h.2.2.2.1 ≤ h'.2.2.2.1 ∧ h'.2.2.2.2 = h.2.2.2.2
theorem ge_rf {h : XH} : Ge h h := ⟨Nat.le_refl _, Nat.le_refl _, rfl⟩
theorem ge_tr {a b c : XH} (h1 : Ge a b) (h2 : Ge b c) : Ge a c := ⟨Nat.le_trans h1.1 h2.1, Nat.le_trans h1.2.1 h2.2.1, h2.2.2.trans h1.2.2⟩
theorem ge_set {h : XH} {a : Nat} {e : va_E} : Ge h (hset h a e) := ⟨Nat.le_refl _, Nat.le_refl _, rfl⟩
theorem ge_new {h : XH} {e : va_E} {k : Nat} : Ge h (hnew h e k) := ⟨Nat.le_succ _, Nat.le_add_right _ _, rfl⟩
theorem ge_exc {h : XH} : Ge h (hexc h) := ⟨Nat.le_succ _, Nat.le_add_right _ _, rfl⟩
def GeR (h : XH) (r : XR) : Prop := match r with
  | .inl q => Ge h q.2.2.2
  | .inr (.inl q) => Ge h q.2
  | .inr (.inr (.inl q)) => Ge h q.2
  | .inr (.inr (.inr q)) => q.2.2.2 = h
def KO (P : XR → Prop) (x : Option XR) : Prop := ∀ r, x = some r → P r
section GO
variable {P : XR → Prop} {h h' : XH} {pc k : Nat} {L S : List Value} {a b : Option XR} {e e' : Option va_E}
theorem go_none : KO P none := fun _ z => nomatch z
theorem go_nx (g : P (.inl (pc, L, S, h'))) : KO P (nx pc L S h') := fun _ z => by cases z; exact g
theorem go_xj {off : Int} (g : ∀ q, P (.inl (q, L, S, h'))) : KO P (xj pc off L S h') := by
  unfold xj
  split
  · exact go_nx (g _)
  · exact go_none
theorem go_ite {c : Prop} [Decidable c] (h1 : KO P a) (h2 : KO P b) : KO P (if c then a else b) := by
  split
  · exact h1
  · exact h2
theorem go_cond {c : Bool} (h1 : KO P a) (h2 : KO P b) : KO P (bif c then a else b) := by
  cases c
  · exact h2
  · exact h1
theorem go_xif {c : ClassFile.Cond} {x y : Int32} (h1 : KO P a) (h2 : KO P b) : KO P (xif c x y a b) := by
  cases c <;> exact go_ite h1 h2
theorem go_ret {v : Option Value} (g : P (.inr (.inl (v, h)))) : KO P (xret v h) := fun _ z => by cases z; exact g
theorem go_exc {E : Nat} (g : P (.inr (.inr (.inl (E, hexc h))))) : KO P (some (.inr (.inr (.inl (E, hexc h))))) := fun _ z => by cases z; exact g
theorem go_call {M : XM} {As rest : List Value} (g : P (.inr (.inr (.inr (M, As, rest, h))))) : KO P (xcall M As rest h) := by
  unfold xcall
  split
  · intro _ z; cases z; exact g
  · exact go_none
theorem go_lo {f : Value → Option XR} (hf : ∀ v, KO P (f v)) : KO P (xlo L k f) := by
  unfold xlo
  split
  · exact hf _
  · exact go_none
theorem go_gf {ci : Nat} {f : Value → Option XR} (hf : ∀ v, KO P (f v)) : KO P (xgf e ci k f) := fun r z => by
  obtain ⟨_, _, _, _, z⟩ := xgf_spec z
  exact hf _ r z
theorem go_pf {ci : Nat} {v : Value} {f : va_E → Option XR} (hf : ∀ v, KO P (f v)) : KO P (xpf e ci k v f) := fun r z => by
  obtain ⟨_, _, _, _, z⟩ := xpf_spec z
  exact hf _ r z
theorem go_xga {t : Nat} {i : Int32} {f : Int32 → Option XR} (hf : ∀ v, KO P (f v)) : KO P (xga e t i f) := fun r z => by
  obtain ⟨_, _, _, _, z⟩ := xga_spec z
  exact hf _ r z
theorem go_xgl {i : Int32} {f : Int64 → Option XR} (hf : ∀ v, KO P (f v)) : KO P (xgl e i f) := fun r z => by
  obtain ⟨_, _, _, _, z⟩ := xgl_spec z
  exact hf _ r z
theorem go_xgd {i : Int32} {f : UInt64 → Option XR} (hf : ∀ v, KO P (f v)) : KO P (xgd e i f) := fun r z => by
  obtain ⟨_, _, _, _, z⟩ := xgd_spec z
  exact hf _ r z
theorem go_xgr {i : Int32} {f : Option Nat → Option XR} (hf : ∀ v, KO P (f v)) : KO P (xgr e i f) := fun r z => by
  obtain ⟨_, _, _, _, z⟩ := xgr_spec z
  exact hf _ r z
theorem go_xpa {t : Nat} {i x : Int32} {f : va_E → Option XR} (hf : ∀ v, KO P (f v)) : KO P (xpa e t i x f) := fun r z => by
  obtain ⟨_, _, _, _, z⟩ := xpa_spec z
  exact hf _ r z
theorem go_xpl {i : Int32} {x : Int64} {f : va_E → Option XR} (hf : ∀ v, KO P (f v)) : KO P (xpl e i x f) := fun r z => by
  obtain ⟨_, _, _, _, z⟩ := xpl_spec z
  exact hf _ r z
theorem go_xpd {i : Int32} {x : UInt64} {f : va_E → Option XR} (hf : ∀ v, KO P (f v)) : KO P (xpd e i x f) := fun r z => by
  obtain ⟨_, _, _, _, z⟩ := xpd_spec z
  exact hf _ r z
theorem go_xpr {i : Int32} {x : Nat} {f : va_E → Option XR} (hf : ∀ v, KO P (f v)) : KO P (xpr e i x f) := fun r z => by
  obtain ⟨_, _, _, _, z⟩ := xpr_spec z
  exact hf _ r z
theorem go_xcp {x y z : Int32} {f : va_E → Option XR} (hf : ∀ v, KO P (f v)) : KO P (xcp e e' x y z f) := fun r q => by
  obtain ⟨_, _, _, _, _, _, _, _, _, _, _, q⟩ := xcp_spec q
  exact hf _ r q
theorem go_len {M : XM} {q : Nat} {f : Int32 → Option XR} (hf : ∀ v, KO P (f v)) : KO P (xlen M h q f) := by
  unfold xlen
  refine go_cond (hf _) ?_
  split
  · exact hf _
  · exact go_none
theorem go_sto1 (p1 : ∀ pc L S h', Ge h h' → P (.inl (pc, L, S, h'))) : KO P (xistore L k pc S h) ∧ KO P (xastore L k pc S h) ∧ KO P (xlstore L k pc S h) ∧ KO P (xdstore L k pc S h) := by
  refine ⟨?_, ?_, ?_, ?_⟩
  · unfold xistore; split
    · exact go_ite (go_nx (p1 _ _ _ _ ge_rf)) go_none
    · exact go_none
  · unfold xastore; split
    · exact go_ite (go_nx (p1 _ _ _ _ ge_rf)) go_none
    · exact go_none
  · unfold xlstore; split
    · exact go_ite (go_nx (p1 _ _ _ _ ge_rf)) go_none
    · exact go_none
  · unfold xdstore; split
    · exact go_ite (go_nx (p1 _ _ _ _ ge_rf)) go_none
    · exact go_none
theorem go_lod (p1 : ∀ pc L S h', Ge h h' → P (.inl (pc, L, S, h'))) : KO P (xiload L k pc S h) ∧ KO P (xaload L k pc S h) ∧ KO P (xlload L k pc S h) ∧ KO P (xdload L k pc S h) := by
  refine ⟨go_lo fun v => ?_, go_lo fun v => ?_, go_lo fun v => ?_, go_lo fun v => ?_⟩
  all_goals
    split
    · exact go_nx (p1 _ _ _ _ ge_rf)
    · exact go_none
theorem go_ii {f : Int32 → Int32 → Int32} (p1 : ∀ pc L S h', Ge h h' → P (.inl (pc, L, S, h'))) : KO P (xii f L pc S h) := by
  unfold xii; split
  · exact go_nx (p1 _ _ _ _ ge_rf)
  · exact go_none
theorem go_ll {f : Int64 → Int64 → Int64} (p1 : ∀ pc L S h', Ge h h' → P (.inl (pc, L, S, h'))) : KO P (xll f L pc S h) := by
  unfold xll; split
  · exact go_nx (p1 _ _ _ _ ge_rf)
  · exact go_none
theorem go_li {f : Int64 → Int32 → Int64} (p1 : ∀ pc L S h', Ge h h' → P (.inl (pc, L, S, h'))) : KO P (xli f L pc S h) := by
  unfold xli; split
  · exact go_nx (p1 _ _ _ _ ge_rf)
  · exact go_none
theorem go_prim {M : XM} (p1 : ∀ pc L S h', Ge h h' → P (.inl (pc, L, S, h'))) : KO P (xprim M k pc L S h) := by
  unfold xprim
  repeat' (first
    | exact go_none
    | exact go_nx (p1 _ _ _ _ ge_rf)
    | exact go_xcp (fun _ => go_nx (p1 _ _ _ _ ge_set))
    | apply go_cond
    | apply go_ite
    | split)
/-- what isn't a return doesn't return -/
def xisRet : Instr → Bool
  | .ireturn => true
  | .lreturn => true
  | .dreturn => true
  | .areturn => true
  | .return_ => true
  | _ => false
def xisCall : Instr → Bool
  | .invokestatic _ => true
  | .invokevirtual _ => true
  | .invokespecial _ => true
  | _ => false
def xisNew : Instr → Bool
  | .new _ => true
  | _ => false
set_option maxHeartbeats 8000000 in
theorem go_step {M : XM} {i : Instr} (p1 : ∀ pc L S h', Ge h h' → P (.inl (pc, L, S, h'))) (p2 : xisRet i = true → ∀ v, P (.inr (.inl (v, h)))) (p3 : xisNew i = true → ∀ E, P (.inr (.inr (.inl (E, hexc h))))) (p4 : xisCall i = true → ∀ M As rest, P (.inr (.inr (.inr (M, As, rest, h))))) : KO P (xstep M i pc L S h) := by
  unfold xstep
  repeat' (first
    | exact go_none
    | exact go_nx (p1 _ _ _ _ ge_rf)
    | exact go_nx (p1 _ _ _ _ ge_new)
    | exact go_xj (fun _ => p1 _ _ _ _ ge_rf)
    | exact go_ii p1
    | exact go_ll p1
    | exact go_li p1
    | exact (go_lod p1).1
    | exact (go_lod p1).2.1
    | exact (go_lod p1).2.2.1
    | exact (go_lod p1).2.2.2
    | exact (go_sto1 p1).1
    | exact (go_sto1 p1).2.1
    | exact (go_sto1 p1).2.2.1
    | exact (go_sto1 p1).2.2.2
    | exact go_prim p1
    | exact go_call (p4 rfl _ _ _)
    | exact go_ret (p2 rfl _)
    | exact go_exc (p3 rfl _)
    | exact go_xif (go_xj (fun _ => p1 _ _ _ _ ge_rf)) (go_nx (p1 _ _ _ _ ge_rf))
    | exact go_gf (fun _ => go_nx (p1 _ _ _ _ ge_rf))
    | exact go_pf (fun _ => go_nx (p1 _ _ _ _ ge_set))
    | exact go_xga (fun _ => go_nx (p1 _ _ _ _ ge_rf))
    | exact go_xgl (fun _ => go_nx (p1 _ _ _ _ ge_rf))
    | exact go_xgd (fun _ => go_nx (p1 _ _ _ _ ge_rf))
    | exact go_xgr (fun _ => go_nx (p1 _ _ _ _ ge_rf))
    | exact go_xpa (fun _ => go_nx (p1 _ _ _ _ ge_set))
    | exact go_xpl (fun _ => go_nx (p1 _ _ _ _ ge_set))
    | exact go_xpd (fun _ => go_nx (p1 _ _ _ _ ge_set))
    | exact go_xpr (fun _ => go_nx (p1 _ _ _ _ ge_set))
    | exact go_len (fun _ => go_nx (p1 _ _ _ _ ge_rf))
    | refine go_lo fun _ => ?_
    | refine go_cond ?_ ?_
    | refine go_ite ?_ ?_
    | split)
theorem go_isRet {M : XM} {i : Instr} {v : Option Value} {h2 : XH} (hx : xstep M i pc L S h = some (.inr (.inl (v, h2)))) : xisRet i = true :=
  go_step (P := fun r => r = .inr (.inl (v, h2)) → xisRet i = true) (fun _ _ _ _ _ z => nomatch z) (fun q _ _ => q) (fun _ _ z => nomatch z) (fun _ _ _ _ z => nomatch z) _ hx rfl
theorem go_isNew {M : XM} {i : Instr} {E : Nat} {h2 : XH} (hx : xstep M i pc L S h = some (.inr (.inr (.inl (E, h2))))) : xisNew i = true :=
  go_step (P := fun r => r = .inr (.inr (.inl (E, h2))) → xisNew i = true) (fun _ _ _ _ _ z => nomatch z) (fun _ _ z => nomatch z) (fun q _ _ => q) (fun _ _ _ _ z => nomatch z) _ hx rfl
theorem go_isCall {M : XM} {i : Instr} {M2 : XM} {As rest : List Value} {h2 : XH} (hx : xstep M i pc L S h = some (.inr (.inr (.inr (M2, As, rest, h2))))) : xisCall i = true :=
  go_step (P := fun r => r = .inr (.inr (.inr (M2, As, rest, h2))) → xisCall i = true) (fun _ _ _ _ _ z => nomatch z) (fun _ _ z => nomatch z) (fun _ _ z => nomatch z) (fun q _ _ _ _ => q) _ hx rfl
end GO
theorem ge_step {M : XM} {i : Instr} {pc : Nat} {L S : List Value} {h : XH} {r : XR} (hx : xstep M i pc L S h = some r) : GeR h r :=
  go_step (P := GeR h) (fun _ _ _ _ g => g) (fun _ _ => ge_rf) (fun _ _ => ge_exc) (fun _ _ _ _ => rfl) r hx
theorem ex_ge : ∀ (f d : Nat) (M : XM) (pc : Nat) (L S : List Value) (h : XH) (o : XO) (h2 : XH), ex f d M pc L S h = some (o, h2) → Ge h h2 := by
  intro f
  induction f with
  | zero => intro d M pc L S h o h2 q; cases q
  | succ f ih =>
    intro d M pc L S h o h2 q
    unfold ex at q
    split at q
    · cases q
    · next i n hf =>
      split at q
      · cases q
      · next pc' L' S' h' hx => exact ge_tr (ge_step hx) (ih _ _ _ _ _ _ _ _ q)
      · next v h' hx => cases q; exact ge_step hx
      · next E h' hx => cases q; exact ge_step hx
      · next M' As rest h' hx =>
        have e : h' = h := ge_step hx
        subst e
        split at q
        · cases q
        · next d' =>
          split at q
          · cases q
          · next o1 h1 hq =>
            refine ge_tr (ih _ _ _ _ _ _ _ _ hq) ?_
            unfold xback at q
            split at q
            · exact ih _ _ _ _ _ _ _ _ q
            · next E =>
              cases hi : ((xm_y M').name == "<init>") with
              | true => rw [hi] at q; cases q
              | false =>
              rw [hi] at q
              dsimp only [cond_false] at q
              cases hc : (xm_hh M).isEmpty with
              | true =>
                rw [hc] at q
                cases ho : Nat.blt (xm_own M) 11 with
                | true => rw [ho] at q; cases q; exact ge_rf
                | false => rw [ho] at q; cases q
              | false =>
                rw [hc] at q
                dsimp only [cond_false] at q
                split at q
                · split at q
                  · exact ih _ _ _ _ _ _ _ _ q
                  · cases q
                · cases q
