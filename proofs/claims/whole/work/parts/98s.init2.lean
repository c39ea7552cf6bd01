/-! The constructors: History, the class, the Model. (made by gen98s.py) -/
theorem xb_9 : xblank 9 22 = [.null, .null, .int 0, .null, .int 0, .int 0, .int 0, .int 0, .null, .int 0, .null, .null, .null, .int 0, .int 0, .int 0, .int 0, .int 0, .int 0, .int 0, .int 0, .int 0] := rfl
def hra (t : Nat) (i : Int) : va_E := .inl (5, 8, .inr (.inr (.inr (.inr fun j => if (j : Int) < i then some (t + 2 + 9 * j) else none))))
theorem epr_h {t : Nat} {i : Int} {K : va_E → Prop} (hi : 0 ≤ i ∧ i < 8) : epr (some (hra t i)) (iI i) (t + 2 + 9 * i.toNat) K = K (hra t (i + 1)) := by
  unfold epr hra
  dsimp only
  rw [show Nat.beq 5 5 = true from rfl, cond_true, if_neg (by
    rw [show (0 : Int32) = iI 0 from rfl, iI_lt (by omega) (by omega), iI_nat (by omega)]
    omega), iI_nat (by omega)]
  have e : va_up (fun (j : Nat) => if (j : Int) < i then some (t + 2 + 9 * j) else none) i.toNat (some (t + 2 + 9 * i.toNat)) = fun (j : Nat) => if (j : Int) < i + 1 then some (t + 2 + 9 * j) else none := by
    funext j
    unfold va_up
    by_cases c : j = i.toNat
    · rw [if_pos c, if_pos (by omega), c]
    · rw [if_neg c]
      dsimp only
      by_cases c2 : (j : Int) < i
      · rw [if_pos c2, if_pos (by omega)]
      · rw [if_neg c2, if_neg (by omega)]
  rw [e]
theorem elen_h {t : Nat} {i : Int} {K : Int32 → Prop} : elen (some (hra t i)) K = K (iI 8) := rfl
theorem hra_par : hra 12 8 = par := by
  unfold hra par
  have e : (fun (j : Nat) => if (j : Int) < 8 then some (12 + 2 + 9 * j) else none) = fun (i : Nat) => if i < 8 then some (14 + 9 * i) else none := by
    funext j
    by_cases c : j < 8
    · rw [if_pos (by omega), if_pos c]
    · rw [if_neg (by omega), if_neg c]
  rw [e]
theorem hra_0 {t : Nat} : hra t 0 = .inl (5, 8, .inr (.inr (.inr (.inr fun _ => none)))) := by
  unfold hra
  have e : (fun (j : Nat) => if (j : Int) < 0 then some (t + 2 + 9 * j) else none) = fun _ => none := by
    funext j
    rw [if_neg (by omega)]
  rw [e]
theorem i_hloop {t : Nat} (hl : t < 900000) : ∀ (n : Nat) (i : Int) (k : XH), 0 ≤ i → i + n = 8 → k.2.1 = t + 2 + 9 * i.toNat → hget k t = some (.inr (3, [.ref (t + 1), .int 0, .int 0])) → hget k (t + 1) = some (hra t i) → ∃ k', (∀ {d : Nat} {Q : XO → XH → Prop}, EvQ (d + 2) m_X2_init 15 [.ref t, .int (iI i)] [] k Q = Q (.inl none) k') ∧ hget k' (t + 1) = some (hra t 8) ∧ (∀ j : Int, i ≤ j → j < 8 → RA k' (t + 2 + 9 * j.toNat) 0 0 (fun _ => 0) 0 (fun _ => 0) 0 (fun _ => 0) 0 (fun _ => 0)) ∧ (∀ q, q < t + 2 + 9 * i.toNat → q ≠ t + 1 → hget k' q = hget k q) ∧ k'.2.1 = t + 74 ∧ k'.2.2.1 = k.2.2.1 + 9 * n ∧ k'.2.2.2.1 = k.2.2.2.1 + 1025 * n ∧ k'.2.2.2.2 = k.2.2.2.2
  | 0, i, k, h0, h1, hc, g1, g2 => by
    have e : i = 8 := by omega
    subst e
    refine ⟨k, fun {d Q} => ?_, g2, fun j a b => by omega, fun q _ _ => rfl, hc, rfl, rfl, rfl⟩
    rw [w_X2_init_15, g1, egf0, w_X2_init_20, g2, elen_h, w_X2_init_21, if_pos (by rw [iI_le (by omega) (by omega)]; omega), w_X2_init_43]
  | n + 1, i, k, h0, h1, hc, g1, g2 => by
    obtain ⟨t1, ir, A, nw⟩ := i_rec hc (by omega)
    have f1 : hget t1 (t + 1) = some (hra t i) := by rw [nw.1 _ (by omega)]; exact g2
    have f0 : hget t1 (t + 2 + 9 * i.toNat) = some (rco (t + 2 + 9 * i.toNat) 0) := RA_0 A
    have c2 : (hset t1 (t + 1) (hra t (i + 1))).2.1 = t + 2 + 9 * (i + 1).toNat := by
      show t1.2.1 = _
      rw [nw.2.1]
      omega
    have e1 : hget (hset t1 (t + 1) (hra t (i + 1))) t = some (.inr (3, [.ref (t + 1), .int 0, .int 0])) := by
      rw [hget_ne (by omega), nw.1 _ (by omega)]
      exact g1
    obtain ⟨k', r1, r2, r3, r4, r5, r6, r7, r8⟩ := i_hloop hl n (i + 1) _ (by omega) (by omega) c2 e1 hget_set
    refine ⟨k', fun {d Q} => ?_, r2, fun j a b => ?_, fun q a b => ?_, r5, ?_, ?_, ?_⟩
    · rw [w_X2_init_15, g1, egf0, w_X2_init_20, g2, elen_h, w_X2_init_21, if_neg (by rw [iI_le (by omega) (by omega)]; omega), w_X2_init_24, g1, egf0, w_X2_init_28, hc, blt_t (by omega), cond_true, w_X2_init_32, ir, bck_v, w_X2_init_36, f0, rco, eob_at, f1, epr_h (by omega), w_X2_init_37, show (1 : Int32) = iI 1 from rfl, iI_add]
      exact r1
    · by_cases c : j = i
      · subst c
        refine RA_cong (fun q a b => ?_) A
        rw [r4 q (by omega) (by omega), hget_ne (by omega)]
      · exact r3 j (by omega) b
    · rw [r4 q (by omega) b, hget_ne b, nw.1 q a]
    · rw [r6]
      show t1.2.2.1 + 9 * n = _
      rw [nw.2.2.1]
      omega
    · rw [r7]
      show t1.2.2.2.1 + 1025 * n = _
      rw [nw.2.2.2.1]
      omega
    · rw [r8]
      show t1.2.2.2.2 = _
      rw [nw.2.2.2.2]
theorem ef_h0 {a b c : Value} {x : Nat} {K : va_E → Prop} : epf (some (.inr (3, [a, b, c]))) 3 0 (.ref x) K = K (.inr (3, [.ref x, b, c])) := rfl
theorem i_hist {k : XH} {t : Nat} (ht : k.2.1 = t) (hl : t < 900000) : ∃ k', (∀ {d : Nat} {Q : XO → XH → Prop}, Call (d + 2) m_X2_init [.ref t] (hnew k (.inr (3, xblank 3 3)) 3) Q = Q (.inl none) k') ∧ hget k' t = some (.inr (3, [.ref (t + 1), .int 0, .int 0])) ∧ hget k' (t + 1) = some (hra t 8) ∧ (∀ j : Int, 0 ≤ j → j < 8 → RA k' (t + 2 + 9 * j.toNat) 0 0 (fun _ => 0) 0 (fun _ => 0) 0 (fun _ => 0) 0 (fun _ => 0)) ∧ Nw k k' t 74 8211 := by
  have c1 : (hnew k (.inr (3, xblank 3 3)) 3).2.1 = t + 1 := by show k.2.1 + 1 = t + 1; rw [ht]
  have g1 : hget (hnew (hnew k (.inr (3, xblank 3 3)) 3) (hra t 0) 8) t = some (.inr (3, [.null, .int 0, .int 0])) := by
    rw [hn_ne (by rw [c1]; omega)]
    exact hn_at ht
  have g2 : hget (hset (hnew (hnew k (.inr (3, xblank 3 3)) 3) (hra t 0) 8) t (.inr (3, [.ref (t + 1), .int 0, .int 0]))) (t + 1) = some (hra t 0) := by
    rw [hget_ne (by omega)]
    exact hn_at c1
  obtain ⟨k', r1, r2, r3, r4, r5, r6, r7, r8⟩ := i_hloop hl 8 0 _ (by omega) (by omega) (show (hset (hnew (hnew k (.inr (3, xblank 3 3)) 3) (hra t 0) 8) t (.inr (3, [.ref (t + 1), .int 0, .int 0]))).2.1 = t + 2 + 9 * (0 : Int).toNat by
    show k.2.1 + 1 + 1 = t + 2 + 0
    omega) hget_set g2
  refine ⟨k', fun {d Q} => ?_, ?_, r2, fun j a b => r3 j a b, fun q hq => ?_, r5, ?_, ?_, ?_⟩
  · rw [c_X2_init, w_X2_init_0, w_X2_init_4, show (8 : Int32) = iI 8 from rfl, narr (by omega) (by rw [c1]; omega), show (iI 8).toNatClampNeg = 8 from rfl, c1, ← hra_0 (t := t), w_X2_init_10, g1, ef_h0, w_X2_init_13]
    exact r1
  · rw [r4 t (by omega) (by omega)]
    exact hget_set
  · rw [r4 q (by omega) (by omega), hget_ne (by omega), hn_ne (by rw [c1]; omega), hn_ne (by omega)]
  · rw [r6]
    show k.2.2.1 + 1 + 1 + 9 * 8 = _
    omega
  · rw [r7]
    show k.2.2.2.1 + 3 + 8 + 1025 * 8 = _
    omega
  · rw [r8]
    rfl
theorem ef_w {a : Value} {x : Nat} {K : va_E → Prop} : epf (some (.inr (7, [a]))) 7 0 (.ref x) K = K (.inr (7, [.ref x])) ∧ epf (some (.inr (2, [a]))) 2 0 (.ref x) K = K (.inr (2, [.ref x])) := ⟨rfl, rfl⟩
theorem i_wrk {k : XH} {t r : Nat} (ht : k.2.1 = t) : ∃ k', (∀ {d : Nat} {Q : XO → XH → Prop}, Call d m_X6_init [.ref t, .ref r] (hnew k (.inr (7, xblank 7 1)) 1) Q = Q (.inl none) k') ∧ hget k' t = some (.inr (7, [.ref r])) ∧ Nw k k' t 1 1 := by
  have g1 : hget (hnew k (.inr (7, xblank 7 1)) 1) t = some (.inr (7, [.null])) := hn_at ht
  refine ⟨hset (hnew k (.inr (7, xblank 7 1)) 1) t (.inr (7, [.ref r])), fun {d Q} => ?_, hget_set, fun q hq => ?_, ?_, rfl, rfl, rfl⟩
  · rw [c_X6_init, w_X6_init_0, w_X6_init_4, g1, ef_w.1, w_X6_init_9]
  · rw [hget_ne (by omega), hn_ne (by omega)]
  · show k.2.1 + 1 = t + 1
    rw [ht]
theorem i_grt {k : XH} {t r : Nat} (ht : k.2.1 = t) : ∃ k', (∀ {d : Nat} {Q : XO → XH → Prop}, Call d m_X1_init [.ref t, .ref r] (hnew k (.inr (2, xblank 2 1)) 1) Q = Q (.inl none) k') ∧ hget k' t = some (.inr (2, [.ref r])) ∧ Nw k k' t 1 1 := by
  have g1 : hget (hnew k (.inr (2, xblank 2 1)) 1) t = some (.inr (2, [.null])) := hn_at ht
  refine ⟨hset (hnew k (.inr (2, xblank 2 1)) 1) t (.inr (2, [.ref r])), fun {d Q} => ?_, hget_set, fun q hq => ?_, ?_, rfl, rfl, rfl⟩
  · rw [c_X1_init, w_X1_init_0, w_X1_init_4, g1, ef_w.2, w_X1_init_9]
  · rw [hget_ne (by omega), hn_ne (by omega)]
  · show k.2.1 + 1 = t + 1
    rw [ht]
theorem ef_i {a b c : Value} {x : Nat} {K : va_E → Prop} : epf (some (.inr (4, [a, b, c]))) 4 0 (.ref x) K = K (.inr (4, [.ref x, b, c])) := rfl
theorem i_inp {k : XH} {t : Nat} (ht : k.2.1 = t) (hl : t < 900000) : ∃ k', (∀ {d : Nat} {Q : XO → XH → Prop}, Call d m_X3_init [.ref t] (hnew k (.inr (4, xblank 4 3)) 3) Q = Q (.inl none) k') ∧ hget k' t = some (.inr (4, [.ref (t + 1), .int 0, .int 0])) ∧ hget k' (t + 1) = some (car 60 (fun _ => 0)) ∧ Nw k k' t 2 63 := by
  have c1 : (hnew k (.inr (4, xblank 4 3)) 3).2.1 = t + 1 := by show k.2.1 + 1 = t + 1; rw [ht]
  have g1 : hget (hnew (hnew k (.inr (4, xblank 4 3)) 3) (car 60 (fun _ => 0)) 60) t = some (.inr (4, [.null, .int 0, .int 0])) := by
    rw [hn_ne (by rw [c1]; omega)]
    exact hn_at ht
  refine ⟨hset (hnew (hnew k (.inr (4, xblank 4 3)) 3) (car 60 (fun _ => 0)) 60) t (.inr (4, [.ref (t + 1), .int 0, .int 0])), fun {d Q} => ?_, hget_set, ?_, fun q hq => ?_, ?_, rfl, rfl, rfl⟩
  · rw [c_X3_init, w_X3_init_0, w_X3_init_4, show (60 : Int32) = iI 60 from rfl, narr (by omega) (by rw [c1]; omega), show (iI 60).toNatClampNeg = 60 from rfl, c1, car_0, w_X3_init_9, g1, ef_i, w_X3_init_12]
  · rw [hget_ne (by omega)]
    exact hn_at c1
  · rw [hget_ne (by omega), hn_ne (by rw [c1]; omega), hn_ne (by omega)]
  · show k.2.1 + 1 + 1 = t + 2
    omega
