/-! The constructors. (made by gen98r.py) -/
theorem xb_2 : xblank 2 1 = [.null] := rfl
theorem xb_3 : xblank 3 3 = [.null, .int 0, .int 0] := rfl
theorem xb_4 : xblank 4 3 = [.null, .int 0, .int 0] := rfl
theorem xb_5 : xblank 5 5 = [.int 0, .null, .null, .null, .null] := rfl
theorem xb_6 : xblank 6 3 = [.int 0, .null, .int 0] := rfl
theorem xb_7 : xblank 7 1 = [.null] := rfl
theorem xb_8 : xblank 8 12 = [.null, .null, .null, .null, .null, .null, .null, .null, .null, .int 0, .int 0, .int 0] := rfl
theorem blt_t {r : Nat} (h : r < 1000000) : Nat.blt r 1000000 = true := Nat.ble_eq_true_of_le h
theorem hn_at {h : XH} {e : va_E} {k : Nat} {r : Nat} (hr : h.2.1 = r) : hget (hnew h e k) r = some e := by
  unfold hget hnew
  dsimp only
  rw [if_pos hr.symm]
theorem hn_ne {h : XH} {e : va_E} {k q : Nat} (hq : q ≠ h.2.1) : hget (hnew h e k) q = hget h q := by
  unfold hget hnew
  dsimp only
  rw [if_neg hq]
theorem z_fun {n : Nat} : (fun k : Nat => iI (if (k : Int) < n then (0 : Int) else 0)) = fun _ => (0 : Int32) := funext fun k => by rw [ite_self]; rfl
theorem nar_0 {n : Nat} : (.inl (0, n, .inl fun _ => 0) : va_E) = nar n (fun _ => 0) := by
  show _ = (.inl (0, n, .inl fun k => iI (if (k : Int) < n then (0 : Int) else 0)) : va_E)
  rw [z_fun]
theorem car_0 {n : Nat} : (.inl (2, n, .inl fun _ => 0) : va_E) = car n (fun _ => 0) := by
  show _ = (.inl (2, n, .inl fun k => iI (if (k : Int) < n then (0 : Int) else 0)) : va_E)
  rw [z_fun]
theorem bar_0 {n : Nat} : (.inl (1, n, .inl fun _ => 0) : va_E) = bar n (fun _ => 0) := by
  show _ = (.inl (1, n, .inl fun k => iI (if (k : Int) < n then (0 : Int) else 0)) : va_E)
  rw [z_fun]
theorem ef_t0 {a b c : Value} {x : Int32} {K : va_E → Prop} : epf (some (.inr (6, [a, b, c]))) 6 0 (.int x) K = K (.inr (6, [.int x, b, c])) := rfl
theorem ef_t1 {a b c : Value} {x : Nat} {K : va_E → Prop} : epf (some (.inr (6, [a, b, c]))) 6 1 (.ref x) K = K (.inr (6, [a, .ref x, c])) := rfl
theorem narr {n : Nat} {x : Int} {X : Prop} (h : 0 ≤ x ∧ x ≤ 10000) (hn : n < 1000000) : (if iI x < 0 ∨ 10000 < (iI x).toNatClampNeg ∨ 1000000 ≤ n then False else X) = X := by
  rw [if_neg]
  rw [show (0 : Int32) = iI 0 from rfl, iI_lt (by omega) (by omega), iI_nat (by omega)]
  omega
/-- what a constructor leaves: the old cells, the counters -/
def Nw (k k' : XH) (t c s : Nat) : Prop := (∀ q, q < t → hget k' q = hget k q) ∧ k'.2.1 = t + c ∧ k'.2.2.1 = k.2.2.1 + c ∧ k'.2.2.2.1 = k.2.2.2.1 + s ∧ k'.2.2.2.2 = k.2.2.2.2
theorem i_tab {k : XH} {t : Nat} (ht : k.2.1 = t) (hl : t < 999000) {m w : Int} {N : Nat} (hm : 0 < m ∧ m < 1000 ∧ 0 < w ∧ w < 1000 ∧ m * w = N ∧ N ≤ 10000) : ∃ k', (∀ {d : Nat} {Q : XO → XH → Prop}, Call d m_X5_init [.ref t, .int (iI m), .int (iI w)] (hnew k (.inr (6, xblank 6 3)) 3) Q = Q (.inl none) k') ∧ hget k' t = some (tbl t w 0) ∧ hget k' (t + 1) = some (nar N (fun _ => 0)) ∧ Nw k k' t 2 (3 + N) := by
  refine ⟨hset (hnew (hset (hnew k (.inr (6, xblank 6 3)) 3) t (.inr (6, [.int (iI w), .null, .int 0]))) (nar N (fun _ => 0)) N) t (tbl t w 0), ?_, hget_set, ?_, ?_, ?_, ?_, ?_, ?_⟩
  · intro d Q
    have g1 : hget (hnew k (.inr (6, xblank 6 3)) 3) t = some (.inr (6, [.int 0, .null, .int 0])) := hn_at ht
    have c1 : (hset (hnew k (.inr (6, xblank 6 3)) 3) t (.inr (6, [.int (iI w), .null, .int 0]))).2.1 = t + 1 := by
      show k.2.1 + 1 = t + 1
      rw [ht]
    have hN : (iI (m * w)).toNatClampNeg = N := by rw [iI_nat (by omega)]; omega
    have g2 : hget (hnew (hset (hnew k (.inr (6, xblank 6 3)) 3) t (.inr (6, [.int (iI w), .null, .int 0]))) (nar N (fun _ => 0)) N) t = some (.inr (6, [.int (iI w), .null, .int 0])) := by
      rw [hn_ne (by rw [c1]; omega), hget_set]
    have p0 : ¬ iI m ≤ iI 0 := by rw [iI_le (by omega) (by omega)]; omega
    have p1 : ¬ iI w ≤ iI 0 := by rw [iI_le (by omega) (by omega)]; omega
    rw [c_X5_init, w_X5_init_0, w_X5_init_4, g1, ef_t0, w_X5_init_9, show (0 : Int32) = iI 0 from rfl, if_neg p0, w_X5_init_14, show (0 : Int32) = iI 0 from rfl, if_neg p1, w_X5_init_18, iI_mul, w_X5_init_25, narr (by omega) (by rw [show iI 0 = (0 : Int32) from rfl, c1]; omega), hN, show iI 0 = (0 : Int32) from rfl, c1, nar_0, w_X5_init_27, g2, ef_t1, w_X5_init_30]
    rfl
  · rw [hget_ne (by omega)]
    exact hn_at (by show k.2.1 + 1 = t + 1; rw [ht])
  · intro q hq
    rw [hget_ne (by omega), hn_ne (by show q ≠ k.2.1 + 1; omega), hget_ne (by omega), hn_ne (by omega)]
  · show k.2.1 + 1 + 1 = t + 2
    omega
  · rfl
  · show k.2.2.2.1 + 3 + N = k.2.2.2.1 + (3 + N)
    omega
  · rfl
theorem ef_r {a b c d e : Value} {x : Nat} {K : va_E → Prop} : epf (some (.inr (5, [a, b, c, d, e]))) 5 1 (.ref x) K = K (.inr (5, [a, .ref x, c, d, e])) ∧ epf (some (.inr (5, [a, b, c, d, e]))) 5 2 (.ref x) K = K (.inr (5, [a, b, .ref x, d, e])) ∧ epf (some (.inr (5, [a, b, c, d, e]))) 5 3 (.ref x) K = K (.inr (5, [a, b, c, .ref x, e])) ∧ epf (some (.inr (5, [a, b, c, d, e]))) 5 4 (.ref x) K = K (.inr (5, [a, b, c, d, .ref x])) := ⟨rfl, rfl, rfl, rfl⟩
theorem i_rec {k : XH} {r : Nat} (ht : k.2.1 = r) (hl : r < 990000) : ∃ k', (∀ {d : Nat} {Q : XO → XH → Prop}, Call (d + 1) m_X4_init [.ref r] (hnew k (.inr (5, xblank 5 5)) 5) Q = Q (.inl none) k') ∧ RA k' r 0 0 (fun _ => 0) 0 (fun _ => 0) 0 (fun _ => 0) 0 (fun _ => 0) ∧ Nw k k' r 9 1025 := by
  have g0 : hget (hnew k (.inr (5, xblank 5 5)) 5) r = some (.inr (5, [.int 0, .null, .null, .null, .null])) := hn_at ht
  have c0 : (hnew k (.inr (5, xblank 5 5)) 5).2.1 = r + 1 := by show k.2.1 + 1 = r + 1; rw [ht]
  obtain ⟨t0, i0, a0, b0, n0⟩ := i_tab (m := 4) (w := 7) (N := 28) c0 (by omega) (by omega)
  have h0 : hget t0 r = some (.inr (5, [.int 0, .null, .null, .null, .null])) := by rw [n0.1 r (by omega)]; exact g0
  have g1 : hget (hset t0 r (.inr (5, [.int 0, .ref (r + 1), .null, .null, .null]))) r = some (.inr (5, [.int 0, .ref (r + 1), .null, .null, .null])) := hget_set
  have c1 : (hset t0 r (.inr (5, [.int 0, .ref (r + 1), .null, .null, .null]))).2.1 = r + 3 := n0.2.1
  obtain ⟨t1, i1, a1, b1, n1⟩ := i_tab (m := 60) (w := 11) (N := 660) c1 (by omega) (by omega)
  have h1 : hget t1 r = some (.inr (5, [.int 0, .ref (r + 1), .null, .null, .null])) := by rw [n1.1 r (by omega)]; exact g1
  have g2 : hget (hset t1 r (.inr (5, [.int 0, .ref (r + 1), .ref (r + 3), .null, .null]))) r = some (.inr (5, [.int 0, .ref (r + 1), .ref (r + 3), .null, .null])) := hget_set
  have c2 : (hset t1 r (.inr (5, [.int 0, .ref (r + 1), .ref (r + 3), .null, .null]))).2.1 = r + 5 := n1.2.1
  obtain ⟨t2, i2, a2, b2, n2⟩ := i_tab (m := 40) (w := 7) (N := 280) c2 (by omega) (by omega)
  have h2 : hget t2 r = some (.inr (5, [.int 0, .ref (r + 1), .ref (r + 3), .null, .null])) := by rw [n2.1 r (by omega)]; exact g2
  have g3 : hget (hset t2 r (.inr (5, [.int 0, .ref (r + 1), .ref (r + 3), .ref (r + 5), .null]))) r = some (.inr (5, [.int 0, .ref (r + 1), .ref (r + 3), .ref (r + 5), .null])) := hget_set
  have c3 : (hset t2 r (.inr (5, [.int 0, .ref (r + 1), .ref (r + 3), .ref (r + 5), .null]))).2.1 = r + 7 := n2.2.1
  obtain ⟨t3, i3, a3, b3, n3⟩ := i_tab (m := 40) (w := 1) (N := 40) c3 (by omega) (by omega)
  have h3 : hget t3 r = some (.inr (5, [.int 0, .ref (r + 1), .ref (r + 3), .ref (r + 5), .null])) := by rw [n3.1 r (by omega)]; exact g3
  have g4 : hget (hset t3 r (.inr (5, [.int 0, .ref (r + 1), .ref (r + 3), .ref (r + 5), .ref (r + 7)]))) r = some (.inr (5, [.int 0, .ref (r + 1), .ref (r + 3), .ref (r + 5), .ref (r + 7)])) := hget_set
  have c4 : (hset t3 r (.inr (5, [.int 0, .ref (r + 1), .ref (r + 3), .ref (r + 5), .ref (r + 7)]))).2.1 = r + 9 := n3.2.1
  refine ⟨hset t3 r (.inr (5, [.int 0, .ref (r + 1), .ref (r + 3), .ref (r + 5), .ref (r + 7)])), ?_, ?_, ?_, ?_, ?_, ?_, ?_⟩
  · intro d Q
    rw [c_X4_init, w_X4_init_0, w_X4_init_4, c0, blt_t (by omega), cond_true, w_X4_init_8, show (4 : Int32) = iI 4 from rfl, show (7 : Int32) = iI 7 from rfl, i0, bck_v, w_X4_init_15, h0, ef_r.1, w_X4_init_18, c1, blt_t (by omega), cond_true, w_X4_init_22, show (60 : Int32) = iI 60 from rfl, show (11 : Int32) = iI 11 from rfl, i1, bck_v, w_X4_init_30, h1, ef_r.2.1, w_X4_init_33, c2, blt_t (by omega), cond_true, w_X4_init_37, show (40 : Int32) = iI 40 from rfl, show (7 : Int32) = iI 7 from rfl, i2, bck_v, w_X4_init_45, h2, ef_r.2.2.1, w_X4_init_48, c3, blt_t (by omega), cond_true, w_X4_init_52, show (40 : Int32) = iI 40 from rfl, show (1 : Int32) = iI 1 from rfl, i3, bck_v, w_X4_init_59, h3, ef_r.2.2.2, w_X4_init_62]
  · have s1 : ∀ q, q < r + 3 → q ≠ r → hget t1 q = hget t0 q := fun q a b => by rw [n1.1 q (by omega), hget_ne b]
    have s2 : ∀ q, q < r + 5 → q ≠ r → hget t2 q = hget t1 q := fun q a b => by rw [n2.1 q (by omega), hget_ne b]
    have s3 : ∀ q, q < r + 7 → q ≠ r → hget t3 q = hget t2 q := fun q a b => by rw [n3.1 q (by omega), hget_ne b]
    refine RA_of ?_ ?_ ?_ ?_ ?_ ?_ ?_ ?_ ?_
    · exact hget_set
    · rw [hget_ne (by omega), s3 _ (by omega) (by omega), s2 _ (by omega) (by omega), s1 _ (by omega) (by omega), a0]
    · rw [hget_ne (by omega), s3 _ (by omega) (by omega), s2 _ (by omega) (by omega), s1 _ (by omega) (by omega), b0]
    · rw [hget_ne (by omega), s3 _ (by omega) (by omega), s2 _ (by omega) (by omega), a1]
    · rw [hget_ne (by omega), s3 _ (by omega) (by omega), s2 _ (by omega) (by omega), b1]
    · rw [hget_ne (by omega), s3 _ (by omega) (by omega), a2]
    · rw [hget_ne (by omega), s3 _ (by omega) (by omega), b2]
    · rw [hget_ne (by omega), a3]
    · rw [hget_ne (by omega), b3]
  · intro q hq
    rw [hget_ne (by omega), n3.1 q (by omega), hget_ne (by omega), n2.1 q (by omega), hget_ne (by omega), n1.1 q (by omega), hget_ne (by omega), n0.1 q (by omega), hn_ne (by omega)]
  · exact n3.2.1
  · show t3.2.2.1 = _
    rw [n3.2.2.1]
    show t2.2.2.1 + 2 = _
    rw [n2.2.2.1]
    show t1.2.2.1 + 2 + 2 = _
    rw [n1.2.2.1]
    show t0.2.2.1 + 2 + 2 + 2 = _
    rw [n0.2.2.1]
    rfl
  · show t3.2.2.2.1 = _
    rw [n3.2.2.2.1]
    show t2.2.2.2.1 + _ = _
    rw [n2.2.2.2.1]
    show t1.2.2.2.1 + _ + _ = _
    rw [n1.2.2.2.1]
    show t0.2.2.2.1 + _ + _ + _ = _
    rw [n0.2.2.2.1]
    show k.2.2.2.1 + 5 + _ + _ + _ + _ = _
    omega
  · show t3.2.2.2.2 = _
    rw [n3.2.2.2.2]
    show t2.2.2.2.2 = _
    rw [n2.2.2.2.2]
    show t1.2.2.2.2 = _
    rw [n1.2.2.2.2]
    show t0.2.2.2.2 = _
    rw [n0.2.2.2.2]
    rfl
