/-! The beginning of the law. (made by gen98t.py) -/
theorem ef_b0 {a0 a1 a2 a3 a4 a5 a6 a7 a8 a9 a10 a11 : Value} {x : Nat} {K : va_E → Prop} : epf (some (.inr (8, [a0, a1, a2, a3, a4, a5, a6, a7, a8, a9, a10, a11]))) 8 0 (.ref x) K = K (.inr (8, [.ref x, a1, a2, a3, a4, a5, a6, a7, a8, a9, a10, a11])) := rfl
theorem ef_b1 {a0 a1 a2 a3 a4 a5 a6 a7 a8 a9 a10 a11 : Value} {x : Nat} {K : va_E → Prop} : epf (some (.inr (8, [a0, a1, a2, a3, a4, a5, a6, a7, a8, a9, a10, a11]))) 8 1 (.ref x) K = K (.inr (8, [a0, .ref x, a2, a3, a4, a5, a6, a7, a8, a9, a10, a11])) := rfl
theorem ef_b2 {a0 a1 a2 a3 a4 a5 a6 a7 a8 a9 a10 a11 : Value} {x : Nat} {K : va_E → Prop} : epf (some (.inr (8, [a0, a1, a2, a3, a4, a5, a6, a7, a8, a9, a10, a11]))) 8 2 (.ref x) K = K (.inr (8, [a0, a1, .ref x, a3, a4, a5, a6, a7, a8, a9, a10, a11])) := rfl
theorem ef_b3 {a0 a1 a2 a3 a4 a5 a6 a7 a8 a9 a10 a11 : Value} {x : Nat} {K : va_E → Prop} : epf (some (.inr (8, [a0, a1, a2, a3, a4, a5, a6, a7, a8, a9, a10, a11]))) 8 3 (.ref x) K = K (.inr (8, [a0, a1, a2, .ref x, a4, a5, a6, a7, a8, a9, a10, a11])) := rfl
theorem ef_b4 {a0 a1 a2 a3 a4 a5 a6 a7 a8 a9 a10 a11 : Value} {x : Nat} {K : va_E → Prop} : epf (some (.inr (8, [a0, a1, a2, a3, a4, a5, a6, a7, a8, a9, a10, a11]))) 8 4 (.ref x) K = K (.inr (8, [a0, a1, a2, a3, .ref x, a5, a6, a7, a8, a9, a10, a11])) := rfl
theorem ef_b5 {a0 a1 a2 a3 a4 a5 a6 a7 a8 a9 a10 a11 : Value} {x : Nat} {K : va_E → Prop} : epf (some (.inr (8, [a0, a1, a2, a3, a4, a5, a6, a7, a8, a9, a10, a11]))) 8 5 (.ref x) K = K (.inr (8, [a0, a1, a2, a3, a4, .ref x, a6, a7, a8, a9, a10, a11])) := rfl
theorem ef_b6 {a0 a1 a2 a3 a4 a5 a6 a7 a8 a9 a10 a11 : Value} {x : Nat} {K : va_E → Prop} : epf (some (.inr (8, [a0, a1, a2, a3, a4, a5, a6, a7, a8, a9, a10, a11]))) 8 6 (.ref x) K = K (.inr (8, [a0, a1, a2, a3, a4, a5, .ref x, a7, a8, a9, a10, a11])) := rfl
theorem ef_b7 {a0 a1 a2 a3 a4 a5 a6 a7 a8 a9 a10 a11 : Value} {x : Nat} {K : va_E → Prop} : epf (some (.inr (8, [a0, a1, a2, a3, a4, a5, a6, a7, a8, a9, a10, a11]))) 8 7 (.ref x) K = K (.inr (8, [a0, a1, a2, a3, a4, a5, a6, .ref x, a8, a9, a10, a11])) := rfl
theorem ef_b8 {a0 a1 a2 a3 a4 a5 a6 a7 a8 a9 a10 a11 : Value} {x : Nat} {K : va_E → Prop} : epf (some (.inr (8, [a0, a1, a2, a3, a4, a5, a6, a7, a8, a9, a10, a11]))) 8 8 (.ref x) K = K (.inr (8, [a0, a1, a2, a3, a4, a5, a6, a7, .ref x, a9, a10, a11])) := rfl
theorem ef_b10 {a0 a1 a2 a3 a4 a5 a6 a7 a8 a9 a10 a11 : Value} {x : Int32} {K : va_E → Prop} : epf (some (.inr (8, [a0, a1, a2, a3, a4, a5, a6, a7, a8, a9, a10, a11]))) 8 10 (.int x) K = K (.inr (8, [a0, a1, a2, a3, a4, a5, a6, a7, a8, a9, .int x, a11])) := rfl
theorem ef_b11 {a0 a1 a2 a3 a4 a5 a6 a7 a8 a9 a10 a11 : Value} {x : Int32} {K : va_E → Prop} : epf (some (.inr (8, [a0, a1, a2, a3, a4, a5, a6, a7, a8, a9, a10, a11]))) 8 11 (.int x) K = K (.inr (8, [a0, a1, a2, a3, a4, a5, a6, a7, a8, a9, a10, .int x])) := rfl
theorem i_bc {k : XH} (hk : k.2.1 = 0) : ∃ K, (∀ {d : Nat} {Q : XO → XH → Prop}, Call (d + 3) m_X7_init [.ref 0] (hnew k (.inr (8, xblank 8 12)) 12) Q = Q (.inl none) K) ∧ CW K 0 0 (fun _ => 0) 0 (fun _ => 0) 0 (fun _ => 0) 0 (fun _ => 0) 0 0 (fun _ => (0, 0, (fun _ => 0), 0, (fun _ => 0), 0, (fun _ => 0), 0, (fun _ => 0))) (0, 0, (fun _ => 0), 0, (fun _ => 0), 0, (fun _ => 0), 0, (fun _ => 0)) (0, 0, (fun _ => 0), 0, (fun _ => 0), 0, (fun _ => 0), 0, (fun _ => 0)) 0 (-1) (-1) 0 0 (fun _ => 0) 0 (fun _ => 0) ∧ K.2.1 = 109 ∧ K.2.2.1 = k.2.2.1 + 109 ∧ K.2.2.2.1 = k.2.2.2.1 + 11517 ∧ K.2.2.2.2 = k.2.2.2.2 := by
  have g0 : hget (hnew k (.inr (8, xblank 8 12)) 12) 0 = some (.inr (8, [.null, .null, .null, .null, .null, .null, .null, .null, .null, .int 0, .int 0, .int 0])) := hn_at hk
  have c0 : (hnew k (.inr (8, xblank 8 12)) 12).2.1 = 1 := by show k.2.1 + 1 = 1; rw [hk]
  obtain ⟨t0, i0, A0, n0⟩ := i_rec c0 (by omega)
  have h0 : hget t0 0 = some (.inr (8, [.null, .null, .null, .null, .null, .null, .null, .null, .null, .int 0, .int 0, .int 0])) := by rw [n0.1 0 (by omega)]; exact g0
  have g1 : hget (hset t0 0 (.inr (8, [.ref 1, .null, .null, .null, .null, .null, .null, .null, .null, .int 0, .int 0, .int 0]))) 0 = some (.inr (8, [.ref 1, .null, .null, .null, .null, .null, .null, .null, .null, .int 0, .int 0, .int 0])) := hget_set
  have c1 : (hset t0 0 (.inr (8, [.ref 1, .null, .null, .null, .null, .null, .null, .null, .null, .int 0, .int 0, .int 0]))).2.1 = 10 := n0.2.1
  obtain ⟨t1, i1, A1, n1⟩ := i_wrk (r := 1) c1
  have h1 : hget t1 0 = some (.inr (8, [.ref 1, .null, .null, .null, .null, .null, .null, .null, .null, .int 0, .int 0, .int 0])) := by rw [n1.1 0 (by omega)]; exact g1
  have g2 : hget (hset t1 0 (.inr (8, [.ref 1, .ref 10, .null, .null, .null, .null, .null, .null, .null, .int 0, .int 0, .int 0]))) 0 = some (.inr (8, [.ref 1, .ref 10, .null, .null, .null, .null, .null, .null, .null, .int 0, .int 0, .int 0])) := hget_set
  have c2 : (hset t1 0 (.inr (8, [.ref 1, .ref 10, .null, .null, .null, .null, .null, .null, .null, .int 0, .int 0, .int 0]))).2.1 = 11 := n1.2.1
  have q1 : hget (hnew (hset t0 0 (.inr (8, [.ref 1, .null, .null, .null, .null, .null, .null, .null, .null, .int 0, .int 0, .int 0]))) (.inr (7, xblank 7 1)) 1) 0 = some (.inr (8, [.ref 1, .null, .null, .null, .null, .null, .null, .null, .null, .int 0, .int 0, .int 0])) := by rw [hn_ne (by rw [c1]; omega)]; exact g1
  obtain ⟨t2, i2, A2, n2⟩ := i_grt (r := 1) c2
  have h2 : hget t2 0 = some (.inr (8, [.ref 1, .ref 10, .null, .null, .null, .null, .null, .null, .null, .int 0, .int 0, .int 0])) := by rw [n2.1 0 (by omega)]; exact g2
  have g3 : hget (hset t2 0 (.inr (8, [.ref 1, .ref 10, .ref 11, .null, .null, .null, .null, .null, .null, .int 0, .int 0, .int 0]))) 0 = some (.inr (8, [.ref 1, .ref 10, .ref 11, .null, .null, .null, .null, .null, .null, .int 0, .int 0, .int 0])) := hget_set
  have c3 : (hset t2 0 (.inr (8, [.ref 1, .ref 10, .ref 11, .null, .null, .null, .null, .null, .null, .int 0, .int 0, .int 0]))).2.1 = 12 := n2.2.1
  have q2 : hget (hnew (hset t1 0 (.inr (8, [.ref 1, .ref 10, .null, .null, .null, .null, .null, .null, .null, .int 0, .int 0, .int 0]))) (.inr (2, xblank 2 1)) 1) 0 = some (.inr (8, [.ref 1, .ref 10, .null, .null, .null, .null, .null, .null, .null, .int 0, .int 0, .int 0])) := by rw [hn_ne (by rw [c2]; omega)]; exact g2
  obtain ⟨t3, i3, A3, P3, R3, n3⟩ := i_hist c3 (by omega)
  have h3 : hget t3 0 = some (.inr (8, [.ref 1, .ref 10, .ref 11, .null, .null, .null, .null, .null, .null, .int 0, .int 0, .int 0])) := by rw [n3.1 0 (by omega)]; exact g3
  have g4 : hget (hset t3 0 (.inr (8, [.ref 1, .ref 10, .ref 11, .ref 12, .null, .null, .null, .null, .null, .int 0, .int 0, .int 0]))) 0 = some (.inr (8, [.ref 1, .ref 10, .ref 11, .ref 12, .null, .null, .null, .null, .null, .int 0, .int 0, .int 0])) := hget_set
  have c4 : (hset t3 0 (.inr (8, [.ref 1, .ref 10, .ref 11, .ref 12, .null, .null, .null, .null, .null, .int 0, .int 0, .int 0]))).2.1 = 86 := n3.2.1
  obtain ⟨t4, i4, A4, n4⟩ := i_rec c4 (by omega)
  have h4 : hget t4 0 = some (.inr (8, [.ref 1, .ref 10, .ref 11, .ref 12, .null, .null, .null, .null, .null, .int 0, .int 0, .int 0])) := by rw [n4.1 0 (by omega)]; exact g4
  have g5 : hget (hset t4 0 (.inr (8, [.ref 1, .ref 10, .ref 11, .ref 12, .ref 86, .null, .null, .null, .null, .int 0, .int 0, .int 0]))) 0 = some (.inr (8, [.ref 1, .ref 10, .ref 11, .ref 12, .ref 86, .null, .null, .null, .null, .int 0, .int 0, .int 0])) := hget_set
  have c5 : (hset t4 0 (.inr (8, [.ref 1, .ref 10, .ref 11, .ref 12, .ref 86, .null, .null, .null, .null, .int 0, .int 0, .int 0]))).2.1 = 95 := n4.2.1
  obtain ⟨t5, i5, A5, n5⟩ := i_wrk (r := 86) c5
  have h5 : hget t5 0 = some (.inr (8, [.ref 1, .ref 10, .ref 11, .ref 12, .ref 86, .null, .null, .null, .null, .int 0, .int 0, .int 0])) := by rw [n5.1 0 (by omega)]; exact g5
  have g6 : hget (hset t5 0 (.inr (8, [.ref 1, .ref 10, .ref 11, .ref 12, .ref 86, .ref 95, .null, .null, .null, .int 0, .int 0, .int 0]))) 0 = some (.inr (8, [.ref 1, .ref 10, .ref 11, .ref 12, .ref 86, .ref 95, .null, .null, .null, .int 0, .int 0, .int 0])) := hget_set
  have c6 : (hset t5 0 (.inr (8, [.ref 1, .ref 10, .ref 11, .ref 12, .ref 86, .ref 95, .null, .null, .null, .int 0, .int 0, .int 0]))).2.1 = 96 := n5.2.1
  have q5 : hget (hnew (hset t4 0 (.inr (8, [.ref 1, .ref 10, .ref 11, .ref 12, .ref 86, .null, .null, .null, .null, .int 0, .int 0, .int 0]))) (.inr (7, xblank 7 1)) 1) 0 = some (.inr (8, [.ref 1, .ref 10, .ref 11, .ref 12, .ref 86, .null, .null, .null, .null, .int 0, .int 0, .int 0])) := by rw [hn_ne (by rw [c5]; omega)]; exact g5
  obtain ⟨t6, i6, A6, n6⟩ := i_rec c6 (by omega)
  have h6 : hget t6 0 = some (.inr (8, [.ref 1, .ref 10, .ref 11, .ref 12, .ref 86, .ref 95, .null, .null, .null, .int 0, .int 0, .int 0])) := by rw [n6.1 0 (by omega)]; exact g6
  have g7 : hget (hset t6 0 (.inr (8, [.ref 1, .ref 10, .ref 11, .ref 12, .ref 86, .ref 95, .ref 96, .null, .null, .int 0, .int 0, .int 0]))) 0 = some (.inr (8, [.ref 1, .ref 10, .ref 11, .ref 12, .ref 86, .ref 95, .ref 96, .null, .null, .int 0, .int 0, .int 0])) := hget_set
  have c7 : (hset t6 0 (.inr (8, [.ref 1, .ref 10, .ref 11, .ref 12, .ref 86, .ref 95, .ref 96, .null, .null, .int 0, .int 0, .int 0]))).2.1 = 105 := n6.2.1
  obtain ⟨t7, i7, A7, P7, n7⟩ := i_inp c7 (by omega)
  have h7 : hget t7 0 = some (.inr (8, [.ref 1, .ref 10, .ref 11, .ref 12, .ref 86, .ref 95, .ref 96, .null, .null, .int 0, .int 0, .int 0])) := by rw [n7.1 0 (by omega)]; exact g7
  have g8 : hget (hset t7 0 (.inr (8, [.ref 1, .ref 10, .ref 11, .ref 12, .ref 86, .ref 95, .ref 96, .ref 105, .null, .int 0, .int 0, .int 0]))) 0 = some (.inr (8, [.ref 1, .ref 10, .ref 11, .ref 12, .ref 86, .ref 95, .ref 96, .ref 105, .null, .int 0, .int 0, .int 0])) := hget_set
  have c8 : (hset t7 0 (.inr (8, [.ref 1, .ref 10, .ref 11, .ref 12, .ref 86, .ref 95, .ref 96, .ref 105, .null, .int 0, .int 0, .int 0]))).2.1 = 107 := n7.2.1
  obtain ⟨t8, i8, A8, P8, n8⟩ := i_tab (m := 30) (w := 5) (N := 150) c8 (by omega) (by omega)
  have h8 : hget t8 0 = some (.inr (8, [.ref 1, .ref 10, .ref 11, .ref 12, .ref 86, .ref 95, .ref 96, .ref 105, .null, .int 0, .int 0, .int 0])) := by rw [n8.1 0 (by omega)]; exact g8
  have g9 : hget (hset t8 0 (.inr (8, [.ref 1, .ref 10, .ref 11, .ref 12, .ref 86, .ref 95, .ref 96, .ref 105, .ref 107, .int 0, .int 0, .int 0]))) 0 = some (.inr (8, [.ref 1, .ref 10, .ref 11, .ref 12, .ref 86, .ref 95, .ref 96, .ref 105, .ref 107, .int 0, .int 0, .int 0])) := hget_set
  have c9 : (hset t8 0 (.inr (8, [.ref 1, .ref 10, .ref 11, .ref 12, .ref 86, .ref 95, .ref 96, .ref 105, .ref 107, .int 0, .int 0, .int 0]))).2.1 = 109 := n8.2.1
  have E8 : ∀ q, 0 < q → q < 109 → hget (hset (hset (hset t8 0 (.inr (8, [.ref 1, .ref 10, .ref 11, .ref 12, .ref 86, .ref 95, .ref 96, .ref 105, .ref 107, .int 0, .int 0, .int 0]))) 0 (.inr (8, [.ref 1, .ref 10, .ref 11, .ref 12, .ref 86, .ref 95, .ref 96, .ref 105, .ref 107, .int 0, .int (-1), .int 0]))) 0 (.inr (8, [.ref 1, .ref 10, .ref 11, .ref 12, .ref 86, .ref 95, .ref 96, .ref 105, .ref 107, .int 0, .int (-1), .int (-1)]))) q = hget t8 q := fun q a b => by rw [hget_ne (by omega), hget_ne (by omega), hget_ne (by omega)]
  have E7 : ∀ q, 0 < q → q < 107 → hget (hset (hset (hset t8 0 (.inr (8, [.ref 1, .ref 10, .ref 11, .ref 12, .ref 86, .ref 95, .ref 96, .ref 105, .ref 107, .int 0, .int 0, .int 0]))) 0 (.inr (8, [.ref 1, .ref 10, .ref 11, .ref 12, .ref 86, .ref 95, .ref 96, .ref 105, .ref 107, .int 0, .int (-1), .int 0]))) 0 (.inr (8, [.ref 1, .ref 10, .ref 11, .ref 12, .ref 86, .ref 95, .ref 96, .ref 105, .ref 107, .int 0, .int (-1), .int (-1)]))) q = hget t7 q := fun q a b => by rw [E8 q a (by omega), n8.1 q (by omega), hget_ne (by omega)]
  have E6 : ∀ q, 0 < q → q < 105 → hget (hset (hset (hset t8 0 (.inr (8, [.ref 1, .ref 10, .ref 11, .ref 12, .ref 86, .ref 95, .ref 96, .ref 105, .ref 107, .int 0, .int 0, .int 0]))) 0 (.inr (8, [.ref 1, .ref 10, .ref 11, .ref 12, .ref 86, .ref 95, .ref 96, .ref 105, .ref 107, .int 0, .int (-1), .int 0]))) 0 (.inr (8, [.ref 1, .ref 10, .ref 11, .ref 12, .ref 86, .ref 95, .ref 96, .ref 105, .ref 107, .int 0, .int (-1), .int (-1)]))) q = hget t6 q := fun q a b => by rw [E7 q a (by omega), n7.1 q (by omega), hget_ne (by omega)]
  have E5 : ∀ q, 0 < q → q < 96 → hget (hset (hset (hset t8 0 (.inr (8, [.ref 1, .ref 10, .ref 11, .ref 12, .ref 86, .ref 95, .ref 96, .ref 105, .ref 107, .int 0, .int 0, .int 0]))) 0 (.inr (8, [.ref 1, .ref 10, .ref 11, .ref 12, .ref 86, .ref 95, .ref 96, .ref 105, .ref 107, .int 0, .int (-1), .int 0]))) 0 (.inr (8, [.ref 1, .ref 10, .ref 11, .ref 12, .ref 86, .ref 95, .ref 96, .ref 105, .ref 107, .int 0, .int (-1), .int (-1)]))) q = hget t5 q := fun q a b => by rw [E6 q a (by omega), n6.1 q (by omega), hget_ne (by omega)]
  have E4 : ∀ q, 0 < q → q < 95 → hget (hset (hset (hset t8 0 (.inr (8, [.ref 1, .ref 10, .ref 11, .ref 12, .ref 86, .ref 95, .ref 96, .ref 105, .ref 107, .int 0, .int 0, .int 0]))) 0 (.inr (8, [.ref 1, .ref 10, .ref 11, .ref 12, .ref 86, .ref 95, .ref 96, .ref 105, .ref 107, .int 0, .int (-1), .int 0]))) 0 (.inr (8, [.ref 1, .ref 10, .ref 11, .ref 12, .ref 86, .ref 95, .ref 96, .ref 105, .ref 107, .int 0, .int (-1), .int (-1)]))) q = hget t4 q := fun q a b => by rw [E5 q a (by omega), n5.1 q (by omega), hget_ne (by omega)]
  have E3 : ∀ q, 0 < q → q < 86 → hget (hset (hset (hset t8 0 (.inr (8, [.ref 1, .ref 10, .ref 11, .ref 12, .ref 86, .ref 95, .ref 96, .ref 105, .ref 107, .int 0, .int 0, .int 0]))) 0 (.inr (8, [.ref 1, .ref 10, .ref 11, .ref 12, .ref 86, .ref 95, .ref 96, .ref 105, .ref 107, .int 0, .int (-1), .int 0]))) 0 (.inr (8, [.ref 1, .ref 10, .ref 11, .ref 12, .ref 86, .ref 95, .ref 96, .ref 105, .ref 107, .int 0, .int (-1), .int (-1)]))) q = hget t3 q := fun q a b => by rw [E4 q a (by omega), n4.1 q (by omega), hget_ne (by omega)]
  have E2 : ∀ q, 0 < q → q < 12 → hget (hset (hset (hset t8 0 (.inr (8, [.ref 1, .ref 10, .ref 11, .ref 12, .ref 86, .ref 95, .ref 96, .ref 105, .ref 107, .int 0, .int 0, .int 0]))) 0 (.inr (8, [.ref 1, .ref 10, .ref 11, .ref 12, .ref 86, .ref 95, .ref 96, .ref 105, .ref 107, .int 0, .int (-1), .int 0]))) 0 (.inr (8, [.ref 1, .ref 10, .ref 11, .ref 12, .ref 86, .ref 95, .ref 96, .ref 105, .ref 107, .int 0, .int (-1), .int (-1)]))) q = hget t2 q := fun q a b => by rw [E3 q a (by omega), n3.1 q (by omega), hget_ne (by omega)]
  have E1 : ∀ q, 0 < q → q < 11 → hget (hset (hset (hset t8 0 (.inr (8, [.ref 1, .ref 10, .ref 11, .ref 12, .ref 86, .ref 95, .ref 96, .ref 105, .ref 107, .int 0, .int 0, .int 0]))) 0 (.inr (8, [.ref 1, .ref 10, .ref 11, .ref 12, .ref 86, .ref 95, .ref 96, .ref 105, .ref 107, .int 0, .int (-1), .int 0]))) 0 (.inr (8, [.ref 1, .ref 10, .ref 11, .ref 12, .ref 86, .ref 95, .ref 96, .ref 105, .ref 107, .int 0, .int (-1), .int (-1)]))) q = hget t1 q := fun q a b => by rw [E2 q a (by omega), n2.1 q (by omega), hget_ne (by omega)]
  have E0 : ∀ q, 0 < q → q < 10 → hget (hset (hset (hset t8 0 (.inr (8, [.ref 1, .ref 10, .ref 11, .ref 12, .ref 86, .ref 95, .ref 96, .ref 105, .ref 107, .int 0, .int 0, .int 0]))) 0 (.inr (8, [.ref 1, .ref 10, .ref 11, .ref 12, .ref 86, .ref 95, .ref 96, .ref 105, .ref 107, .int 0, .int (-1), .int 0]))) 0 (.inr (8, [.ref 1, .ref 10, .ref 11, .ref 12, .ref 86, .ref 95, .ref 96, .ref 105, .ref 107, .int 0, .int (-1), .int (-1)]))) q = hget t0 q := fun q a b => by rw [E1 q a (by omega), n1.1 q (by omega), hget_ne (by omega)]
  refine ⟨hset (hset (hset t8 0 (.inr (8, [.ref 1, .ref 10, .ref 11, .ref 12, .ref 86, .ref 95, .ref 96, .ref 105, .ref 107, .int 0, .int 0, .int 0]))) 0 (.inr (8, [.ref 1, .ref 10, .ref 11, .ref 12, .ref 86, .ref 95, .ref 96, .ref 105, .ref 107, .int 0, .int (-1), .int 0]))) 0 (.inr (8, [.ref 1, .ref 10, .ref 11, .ref 12, .ref 86, .ref 95, .ref 96, .ref 105, .ref 107, .int 0, .int (-1), .int (-1)])), fun {d Q} => ?_, ⟨?_, hget_set, ?_, ?_, ?_, ?_, ?_, ?_, ?_, ?_, ?_, ?_, ?_, ?_⟩, ?_, ?_, ?_, ?_⟩
  · rw [c_X7_init, w_X7_init_0, w_X7_init_4, c0, show Nat.blt 1 1000000 = true from rfl, cond_true, w_X7_init_8, i0, bck_v, w_X7_init_12, h0, ef_b0, w_X7_init_15, c1, show Nat.blt 10 1000000 = true from rfl, cond_true, w_X7_init_19, q1, egf0, w_X7_init_24, i1, bck_v, w_X7_init_27, h1, ef_b1, w_X7_init_30, c2, show Nat.blt 11 1000000 = true from rfl, cond_true, w_X7_init_34, q2, egf0, w_X7_init_39, i2, bck_v, w_X7_init_42, h2, ef_b2, w_X7_init_45, c3, show Nat.blt 12 1000000 = true from rfl, cond_true, w_X7_init_49, i3, bck_v, w_X7_init_53, h3, ef_b3, w_X7_init_56, c4, show Nat.blt 86 1000000 = true from rfl, cond_true, w_X7_init_60, i4, bck_v, w_X7_init_64, h4, ef_b4, w_X7_init_67, c5, show Nat.blt 95 1000000 = true from rfl, cond_true, w_X7_init_71, q5, egf4, w_X7_init_76, i5, bck_v, w_X7_init_79, h5, ef_b5, w_X7_init_82, c6, show Nat.blt 96 1000000 = true from rfl, cond_true, w_X7_init_86, i6, bck_v, w_X7_init_90, h6, ef_b6, w_X7_init_93, c7, show Nat.blt 105 1000000 = true from rfl, cond_true, w_X7_init_97, i7, bck_v, w_X7_init_101, h7, ef_b7, w_X7_init_104, c8, show Nat.blt 107 1000000 = true from rfl, cond_true, w_X7_init_108, show (30 : Int32) = iI 30 from rfl, show (5 : Int32) = iI 5 from rfl, i8, bck_v, w_X7_init_115, h8, ef_b8, w_X7_init_118, g9, ef_b10, w_X7_init_123, hget_set, ef_b11, w_X7_init_128]
  · exact RA_cong (fun q a b => E0 q (by omega) (by omega)) A0
  · rw [E1 10 (by omega) (by omega)]; exact A1
  · rw [E2 11 (by omega) (by omega)]; exact A2
  · rw [E3 12 (by omega) (by omega)]; exact A3
  · rw [E3 13 (by omega) (by omega), ← hra_par]; exact P3
  · intro i a b
    exact RA_cong (fun q a b => E3 q (by omega) (by omega)) (R3 i a b)
  · exact RA_cong (fun q a b => E4 q (by omega) (by omega)) A4
  · rw [E5 95 (by omega) (by omega)]; exact A5
  · exact RA_cong (fun q a b => E6 q (by omega) (by omega)) A6
  · rw [E7 105 (by omega) (by omega)]; exact A7
  · rw [E7 106 (by omega) (by omega)]; exact P7
  · rw [E8 107 (by omega) (by omega)]; exact A8
  · rw [E8 108 (by omega) (by omega)]; exact P8
  · exact n8.2.1
  · show t8.2.2.1 = _
    have w0 : t0.2.2.1 = k.2.2.1 + 1 + 9 := n0.2.2.1
    have w1 : t1.2.2.1 = t0.2.2.1 + 1 := n1.2.2.1
    have w2 : t2.2.2.1 = t1.2.2.1 + 1 := n2.2.2.1
    have w3 : t3.2.2.1 = t2.2.2.1 + 74 := n3.2.2.1
    have w4 : t4.2.2.1 = t3.2.2.1 + 9 := n4.2.2.1
    have w5 : t5.2.2.1 = t4.2.2.1 + 1 := n5.2.2.1
    have w6 : t6.2.2.1 = t5.2.2.1 + 9 := n6.2.2.1
    have w7 : t7.2.2.1 = t6.2.2.1 + 2 := n7.2.2.1
    have w8 : t8.2.2.1 = t7.2.2.1 + 2 := n8.2.2.1
    omega
  · show t8.2.2.2.1 = _
    have w0 : t0.2.2.2.1 = k.2.2.2.1 + 12 + 1025 := n0.2.2.2.1
    have w1 : t1.2.2.2.1 = t0.2.2.2.1 + 1 := n1.2.2.2.1
    have w2 : t2.2.2.2.1 = t1.2.2.2.1 + 1 := n2.2.2.2.1
    have w3 : t3.2.2.2.1 = t2.2.2.2.1 + 8211 := n3.2.2.2.1
    have w4 : t4.2.2.2.1 = t3.2.2.2.1 + 1025 := n4.2.2.2.1
    have w5 : t5.2.2.2.1 = t4.2.2.2.1 + 1 := n5.2.2.2.1
    have w6 : t6.2.2.2.1 = t5.2.2.2.1 + 1025 := n6.2.2.2.1
    have w7 : t7.2.2.2.1 = t6.2.2.2.1 + 63 := n7.2.2.2.1
    have w8 : t8.2.2.2.1 = t7.2.2.2.1 + (3 + 150) := n8.2.2.2.1
    omega
  · show t8.2.2.2.2 = _
    have w0 : t0.2.2.2.2 = k.2.2.2.2 := n0.2.2.2.2
    have w1 : t1.2.2.2.2 = t0.2.2.2.2 := n1.2.2.2.2
    have w2 : t2.2.2.2.2 = t1.2.2.2.2 := n2.2.2.2.2
    have w3 : t3.2.2.2.2 = t2.2.2.2.2 := n3.2.2.2.2
    have w4 : t4.2.2.2.2 = t3.2.2.2.2 := n4.2.2.2.2
    have w5 : t5.2.2.2.2 = t4.2.2.2.2 := n5.2.2.2.2
    have w6 : t6.2.2.2.2 = t5.2.2.2.2 := n6.2.2.2.2
    have w7 : t7.2.2.2.2 = t6.2.2.2.2 := n7.2.2.2.2
    have w8 : t8.2.2.2.2 = t7.2.2.2.2 := n8.2.2.2.2
    rw [w8, w7, w6, w5, w4, w3, w2, w1, w0]
