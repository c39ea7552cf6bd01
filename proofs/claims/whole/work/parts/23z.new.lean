/-! The rules of what makes cells. -/
section New
variable {d : Nat} {M M' : XM} {pc n idx k : Nat} {L S : List Value} {h : XH} {Q : XO → XH → Prop}
theorem f_new {ci : Nat} {r : vw_C} (hf : xfetch M pc = some (.new idx, n)) (h1 : xlk cT (xm_own M) idx = some ci) (hr : vwCl[ci]? = some r) : EvQ d M pc L S h Q = bif Nat.blt h.2.1 1000000 then EvQ d M (pc + 3) L (.ref h.2.1 :: S) (hnew h (.inr (ci, xblank ci r.2.2)) r.2.2) Q else False := by
  rw [evq hf]
  unfold xstep
  dsimp only
  rw [h1]
  dsimp only
  rw [hr]
  dsimp only
  cases Nat.blt h.2.1 1000000 <;> rfl
theorem f_newarray {t : ArrayType} {x : Int32} {e : va_E} (hf : xfetch M pc = some (.newarray t, n)) (ht : xarr (xatc t) x.toNatClampNeg = some e) : EvQ d M pc L (.int x :: S) h Q = if x < 0 ∨ 10000 < x.toNatClampNeg ∨ 1000000 ≤ h.2.1 then False else EvQ d M (pc + 2) L (.ref h.2.1 :: S) (hnew h e x.toNatClampNeg) Q := by
  rw [evq hf]
  show Aft d M pc L Q (if x < 0 ∨ 10000 < x.toNatClampNeg ∨ 1000000 ≤ h.2.1 then none else (match xarr (xatc t) x.toNatClampNeg with
      | some e => nx (pc + 2) L (.ref h.2.1 :: S) (hnew h e x.toNatClampNeg)
      | none => none)) = _
  rw [ht]
  exact aft_ite
theorem f_anewarray {x : Int32} (hf : xfetch M pc = some (.anewarray idx, n)) (h1 : xlk cT (xm_own M) idx = some 5) : EvQ d M pc L (.int x :: S) h Q = if x < 0 ∨ 10000 < x.toNatClampNeg ∨ 1000000 ≤ h.2.1 then False else EvQ d M (pc + 3) L (.ref h.2.1 :: S) (hnew h (.inl (5, x.toNatClampNeg, .inr (.inr (.inr (.inr fun _ => none))))) x.toNatClampNeg) Q := by
  rw [evq hf]
  unfold xstep
  dsimp only
  rw [h1]
  show Aft d M pc L Q (if 5 ≠ 5 ∨ x < 0 ∨ 10000 < x.toNatClampNeg ∨ 1000000 ≤ h.2.1 then none else nx (pc + 3) L (.ref h.2.1 :: S) (hnew h (.inl (5, x.toNatClampNeg, .inr (.inr (.inr (.inr fun _ => none))))) x.toNatClampNeg)) = _
  rw [aft_ite]
  simp only [ne_eq, not_true_eq_false, false_or]
  rfl
theorem f_special {As rest : List Value} {b : Nat} (hf : xfetch M pc = some (.invokespecial idx, n)) (hp : xlk pT (xm_own M) idx = none) (hm : xlk mT (xm_own M) idx = some M') (hs : (!(xm_st M') && ((xm_y M').name == "<init>" && ((xm_hh M').isEmpty && (xm_ret M').isNone))) = true) (ha : xpop (xm_n M') [] S = some (As, .ref b :: rest)) (hc : xle4 rest = true ∧ (Value.ref b :: As).all xc1 = true ∧ (Value.ref b :: As).length ≤ xm_maxL M') : EvQ (d + 1) M pc L S h Q = Call d M' (.ref b :: As) h (Bck (d + 1) M M' pc L rest Q) := by
  rw [evq hf]
  unfold xstep
  dsimp only
  rw [hp]
  dsimp only
  rw [hm]
  dsimp only
  rw [hs]
  dsimp only [cond_true]
  rw [ha]
  dsimp only
  unfold xcall
  rw [if_pos hc]
  rfl
theorem f_objinit {b : Nat} (hf : xfetch M pc = some (.invokespecial idx, n)) (hp : xlk pT (xm_own M) idx = some 7) (h4 : xle4 S = true) : EvQ d M pc L (.ref b :: S) h Q = EvQ d M (pc + 3) L S h Q := by
  rw [evq hf]
  unfold xstep
  dsimp only
  rw [hp]
  show Aft d M pc L Q (bif xle4 S then _ else _) = _
  rw [h4]
  rfl
/-- storing a Records in an array of them -/
def epr (e : Option va_E) (i : Int32) (x : Nat) (K : va_E → Prop) : Prop := match e with
  | some (.inl (u, n, .inr (.inr (.inr (.inr g))))) => bif Nat.beq u 5 then (if i < 0 ∨ n ≤ i.toNatClampNeg then False else K (.inl (5, n, .inr (.inr (.inr (.inr (va_up g i.toNatClampNeg (some x)))))))) else False
  | _ => False
theorem aft_pr {e : Option va_E} {i : Int32} {x : Nat} {f : va_E → Option XR} : Aft d M pc L Q (xpr e i x f) = epr e i x (fun v => Aft d M pc L Q (f v)) := by
  rcases e with _ | (⟨u, n, g⟩ | ⟨cj, fs⟩)
  · rfl
  · rcases g with g | g | g | g | g
    all_goals first
      | rfl
      | (simp only [xpr, epr]
         cases Nat.beq u 5
         · rfl
         · exact aft_ite)
  · rfl
theorem f_aastore {i : Int32} {a x : Nat} (hf : xfetch M pc = some (.aastore, n)) : EvQ d M pc L (.ref x :: .int i :: .ref a :: S) h Q = eob (hget h x) 5 (epr (hget h a) i x (fun e => EvQ d M (pc + 1) L S (hset h a e) Q)) := by
  rw [evq hf]
  show Aft d M pc L Q (match hget h x with
      | some (.inr (cj, _)) => bif Nat.beq cj 5 then xpr (hget h a) i x fun e => nx (pc + 1) L S (hset h a e) else none
      | _ => none) = _
  unfold eob
  generalize hget h x = e
  rcases e with _ | (⟨u, n, g⟩ | ⟨cj, fs⟩)
  · rfl
  · rfl
  · show Aft d M pc L Q (bif Nat.beq cj 5 then xpr (hget h a) i x fun e => nx (pc + 1) L S (hset h a e) else none) = bif Nat.beq cj 5 then _ else False
    cases Nat.beq cj 5
    · rfl
    · show Aft d M pc L Q (xpr (hget h a) i x fun e => nx (pc + 1) L S (hset h a e)) = _
      exact aft_pr
end New
theorem u_cT_3009 : xlk cT 3 9 = some 5 := rfl
theorem u_cT_5009 : xlk cT 5 9 = some 6 := rfl
theorem u_cT_8009 : xlk cT 8 9 = some 5 := rfl
theorem u_cT_8016 : xlk cT 8 16 = some 7 := rfl
theorem u_cT_8025 : xlk cT 8 25 = some 2 := rfl
theorem u_cT_8032 : xlk cT 8 32 = some 3 := rfl
theorem u_cT_8048 : xlk cT 8 48 = some 4 := rfl
theorem u_cT_8055 : xlk cT 8 55 = some 6 := rfl
theorem u_cT_10008 : xlk cT 10 8 = some 8 := rfl
theorem u_cT_10109 : xlk cT 10 109 = some 9 := rfl
theorem u_cT_11008 : xlk cT 11 8 = some 8 := rfl
theorem u_cT_11109 : xlk cT 11 109 = some 9 := rfl
