theorem ret_spec {M : XM} {i : Instr} {pc : Nat} {L S : List Value} {h h2 : XH} {v : Option Value} (hx : xstep M i pc L S h = some (.inr (.inl (v, h2)))) : h2 = h ∧
    ((∃ x ty, i = .ireturn ∧ S = [.int x] ∧ v = some (.int x) ∧ xm_ret M = some ty ∧ narrow ty (.int x) = .int x) ∨
     (∃ x, i = .lreturn ∧ S = [.long x] ∧ v = some (.long x) ∧ xm_ret M = some .long) ∨
     (∃ x, i = .dreturn ∧ S = [.double x] ∧ v = some (.double x) ∧ xm_ret M = some .double) ∨
     (∃ u n, i = .areturn ∧ S = [u] ∧ v = some u ∧ xm_ret M = some (.object n) ∧ (u = .null ∨ ∃ a, u = .ref a)) ∨
     (i = .return_ ∧ S = [] ∧ v = none ∧ xm_ret M = none)) := by
  have hi := go_isRet hx
  cases i with
  | ireturn =>
    unfold xstep at hx
    dsimp only at hx
    split at hx
    · next x =>
      split at hx
      · next hr => cases hx; exact ⟨rfl, Or.inl ⟨x, _, rfl, rfl, rfl, hr, rfl⟩⟩
      · next hr =>
        split at hx
        · next hb =>
          cases hx
          refine ⟨rfl, Or.inl ⟨x, _, rfl, rfl, rfl, hr, ?_⟩⟩
          rcases hb with rfl | rfl <;> decide
        · cases hx
      · cases hx
    · cases hx
  | lreturn =>
    unfold xstep at hx
    dsimp only at hx
    split at hx
    · next x =>
      split at hx
      · next hr => cases hx; exact ⟨rfl, Or.inr (Or.inl ⟨x, rfl, rfl, rfl, hr⟩)⟩
      · cases hx
    · cases hx
  | dreturn =>
    unfold xstep at hx
    dsimp only at hx
    split at hx
    · next x =>
      split at hx
      · next hr => cases hx; exact ⟨rfl, Or.inr (Or.inr (Or.inl ⟨x, rfl, rfl, rfl, hr⟩))⟩
      · cases hx
    · cases hx
  | areturn =>
    unfold xstep at hx
    dsimp only at hx
    split at hx
    · next x =>
      split at hx
      · next n hr => cases hx; exact ⟨rfl, Or.inr (Or.inr (Or.inr (Or.inl ⟨_, n, rfl, rfl, rfl, hr, Or.inr ⟨_, rfl⟩⟩)))⟩
      · cases hx
    · split at hx
      · next n hr => cases hx; exact ⟨rfl, Or.inr (Or.inr (Or.inr (Or.inl ⟨_, n, rfl, rfl, rfl, hr, Or.inl rfl⟩)))⟩
      · cases hx
    · cases hx
  | return_ =>
    unfold xstep at hx
    dsimp only at hx
    split at hx
    · split at hx
      · next hr => cases hx; exact ⟨rfl, Or.inr (Or.inr (Or.inr (Or.inr ⟨rfl, rfl, rfl, hr⟩)))⟩
      · cases hx
    · cases hx
  | _ => cases hi
theorem xthrow_spec {M : XM} {pc E ic : Nat} (h : xthrow M pc E ic = true) : xfetch M (pc + 3) = some (.dup, 1) ∧
    ((∃ is tx, xfetch M (pc + 4) = some (.ldc is, 2) ∧ xlk sT (xm_own M) is = some tx ∧ xfetch M (pc + 6) = some (.invokespecial ic, 3) ∧ xfetch M (pc + 9) = some (.athrow, 1)) ∨
     (∃ is tx, xfetch M (pc + 4) = some (.ldc_w is, 3) ∧ xlk sT (xm_own M) is = some tx ∧ xfetch M (pc + 7) = some (.invokespecial ic, 3) ∧ xfetch M (pc + 10) = some (.athrow, 1))) := by
  unfold xthrow at h
  split at h
  · next h3 =>
    refine ⟨h3, ?_⟩
    split at h
    · next is h4 =>
      rw [Bool.and_eq_true] at h
      obtain ⟨tx, ht⟩ := Option.isSome_iff_exists.mp h.1
      have h := h.2
      split at h
      · next jc h6 =>
        rw [Bool.and_eq_true] at h
        have hj := Nat.eq_of_beq_eq_true h.1
        subst hj
        have h := h.2
        split at h
        · next h9 => exact Or.inl ⟨is, tx, h4, ht, h6, h9⟩
        · cases h
      · cases h
    · next is h4 =>
      rw [Bool.and_eq_true] at h
      obtain ⟨tx, ht⟩ := Option.isSome_iff_exists.mp h.1
      have h := h.2
      split at h
      · next jc h6 =>
        rw [Bool.and_eq_true] at h
        have hj := Nat.eq_of_beq_eq_true h.1
        subst hj
        have h := h.2
        split at h
        · next h9 => exact Or.inr ⟨is, tx, h4, ht, h6, h9⟩
        · cases h
      · cases h
    · cases h
  · cases h
theorem thr_spec {M : XM} {i : Instr} {pc E : Nat} {L S : List Value} {h h2 : XH} (hx : xstep M i pc L S h = some (.inr (.inr (.inl (E, h2))))) : h2 = hexc h ∧ ∃ idx ic, i = .new idx ∧ xlk tT (xm_own M) idx = some (E, ic) ∧ xle4 S = true ∧ xm_own M < 11 ∧ xm_hh M = [] ∧ xthrow M pc E ic = true := by
  have hi := go_isNew hx
  cases i with
  | new idx =>
    unfold xstep at hx
    dsimp only at hx
    split at hx
    · split at hx
      · cases hc : Nat.blt h.2.1 1000000 <;> rw [hc] at hx <;> cases hx
      · cases hx
    · split at hx
      · next E' ic ht =>
        cases hc : (xle4 S && (Nat.blt (xm_own M) 11 && ((xm_hh M).isEmpty && xthrow M pc E' ic))) with
        | false => rw [hc] at hx; cases hx
        | true =>
          rw [hc] at hx
          cases hx
          simp only [Bool.and_eq_true] at hc
          exact ⟨rfl, idx, ic, rfl, ht, hc.1, Nat.le_of_ble_eq_true hc.2.1, List.isEmpty_iff.mp hc.2.2.1, hc.2.2.2⟩
      · cases hx
  | _ => cases hi
theorem hT_lt : ∀ q ∈ hT, q.2 < 6 ∧ q.1 % 1000 ≠ 0 := by decide +kernel
theorem xhandler_spec {M : XM} {pc E q k : Nat} : ∀ {t : List (Nat × Nat × Nat × Nat)}, xhandler M pc E t = some (q, k) → ∃ pre x suf, t = pre ++ x :: suf ∧
    (∀ z ∈ pre, ¬ (z.1 ≤ pc ∧ pc < z.2.1) ∨ ∃ F, xlk hT (xm_own M) z.2.2.2 = some F ∧ E ≠ F) ∧ (x.1 ≤ pc ∧ pc < x.2.1) ∧ xlk hT (xm_own M) x.2.2.2 = some E ∧
    ((∃ k4 : Fin 4, (k4 : Nat) = k ∧ xfetch M x.2.2.1 = some (.astore_n k4, 1) ∧ q = x.2.2.1 + 1) ∨ (xfetch M x.2.2.1 = some (.astore k, 2) ∧ q = x.2.2.1 + 2))
  | [], h => nomatch h
  | r :: t, h => by
    unfold xhandler at h
    cases hc : (Nat.ble r.1 pc && Nat.blt pc r.2.1) with
    | false =>
      rw [hc] at h
      obtain ⟨pre, x, suf, e1, e2, e3⟩ := xhandler_spec (t := t) h
      refine ⟨r :: pre, x, suf, by rw [e1]; rfl, fun z hz => ?_, e3⟩
      rcases List.mem_cons.mp hz with rfl | hz
      · left
        rintro ⟨a, b⟩
        rw [Nat.ble_eq_true_of_le a, show Nat.blt pc z.2.1 = true from Nat.ble_eq_true_of_le b] at hc
        cases hc
      · exact e2 z hz
    | true =>
      rw [hc] at h
      dsimp only [cond_true] at h
      rw [Bool.and_eq_true] at hc
      have hcov : r.1 ≤ pc ∧ pc < r.2.1 := ⟨Nat.le_of_ble_eq_true hc.1, Nat.le_of_ble_eq_true hc.2⟩
      split at h
      · next F hF =>
        cases hE : Nat.beq E F with
        | true =>
          rw [hE] at h
          dsimp only [cond_true] at h
          have hEF := Nat.eq_of_beq_eq_true hE
          subst hEF
          refine ⟨[], r, t, rfl, (fun z hz => nomatch hz), hcov, hF, ?_⟩
          split at h
          · next k4 hf => cases h; exact Or.inl ⟨k4, rfl, hf, rfl⟩
          · next k4 hf => cases h; exact Or.inr ⟨hf, rfl⟩
          · cases h
        | false =>
          rw [hE] at h
          obtain ⟨pre, x, suf, e1, e2, e3⟩ := xhandler_spec (t := t) h
          refine ⟨r :: pre, x, suf, by rw [e1]; rfl, fun z hz => ?_, e3⟩
          rcases List.mem_cons.mp hz with rfl | hz
          · right
            exact ⟨F, hF, fun q => by subst q; rw [Nat.beq_refl] at hE; cases hE⟩
          · exact e2 z hz
      · cases h
