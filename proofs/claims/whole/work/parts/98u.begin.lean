/-! The Model's constructor; the law as a whole. (made by gen98u.py) -/
theorem ef_m0 {a0 a1 a2 a3 a4 a5 a6 a7 a8 a9 a10 a11 a12 a13 a14 a15 a16 a17 a18 a19 a20 a21 : Value} {x : Nat} {K : va_E → Prop} : epf (some (.inr (9, [a0, a1, a2, a3, a4, a5, a6, a7, a8, a9, a10, a11, a12, a13, a14, a15, a16, a17, a18, a19, a20, a21]))) 9 0 (.ref x) K = K (.inr (9, [.ref x, a1, a2, a3, a4, a5, a6, a7, a8, a9, a10, a11, a12, a13, a14, a15, a16, a17, a18, a19, a20, a21])) := rfl
theorem ef_m1 {a0 a1 a2 a3 a4 a5 a6 a7 a8 a9 a10 a11 a12 a13 a14 a15 a16 a17 a18 a19 a20 a21 : Value} {x : Nat} {K : va_E → Prop} : epf (some (.inr (9, [a0, a1, a2, a3, a4, a5, a6, a7, a8, a9, a10, a11, a12, a13, a14, a15, a16, a17, a18, a19, a20, a21]))) 9 1 (.ref x) K = K (.inr (9, [a0, .ref x, a2, a3, a4, a5, a6, a7, a8, a9, a10, a11, a12, a13, a14, a15, a16, a17, a18, a19, a20, a21])) := rfl
theorem ef_m3 {a0 a1 a2 a3 a4 a5 a6 a7 a8 a9 a10 a11 a12 a13 a14 a15 a16 a17 a18 a19 a20 a21 : Value} {x : Nat} {K : va_E → Prop} : epf (some (.inr (9, [a0, a1, a2, a3, a4, a5, a6, a7, a8, a9, a10, a11, a12, a13, a14, a15, a16, a17, a18, a19, a20, a21]))) 9 3 (.ref x) K = K (.inr (9, [a0, a1, a2, .ref x, a4, a5, a6, a7, a8, a9, a10, a11, a12, a13, a14, a15, a16, a17, a18, a19, a20, a21])) := rfl
theorem ef_m8 {a0 a1 a2 a3 a4 a5 a6 a7 a8 a9 a10 a11 a12 a13 a14 a15 a16 a17 a18 a19 a20 a21 : Value} {x : Nat} {K : va_E → Prop} : epf (some (.inr (9, [a0, a1, a2, a3, a4, a5, a6, a7, a8, a9, a10, a11, a12, a13, a14, a15, a16, a17, a18, a19, a20, a21]))) 9 8 (.ref x) K = K (.inr (9, [a0, a1, a2, a3, a4, a5, a6, a7, .ref x, a9, a10, a11, a12, a13, a14, a15, a16, a17, a18, a19, a20, a21])) := rfl
theorem ef_m10 {a0 a1 a2 a3 a4 a5 a6 a7 a8 a9 a10 a11 a12 a13 a14 a15 a16 a17 a18 a19 a20 a21 : Value} {x : Nat} {K : va_E → Prop} : epf (some (.inr (9, [a0, a1, a2, a3, a4, a5, a6, a7, a8, a9, a10, a11, a12, a13, a14, a15, a16, a17, a18, a19, a20, a21]))) 9 10 (.ref x) K = K (.inr (9, [a0, a1, a2, a3, a4, a5, a6, a7, a8, a9, .ref x, a11, a12, a13, a14, a15, a16, a17, a18, a19, a20, a21])) := rfl
theorem ef_m11 {a0 a1 a2 a3 a4 a5 a6 a7 a8 a9 a10 a11 a12 a13 a14 a15 a16 a17 a18 a19 a20 a21 : Value} {x : Nat} {K : va_E → Prop} : epf (some (.inr (9, [a0, a1, a2, a3, a4, a5, a6, a7, a8, a9, a10, a11, a12, a13, a14, a15, a16, a17, a18, a19, a20, a21]))) 9 11 (.ref x) K = K (.inr (9, [a0, a1, a2, a3, a4, a5, a6, a7, a8, a9, a10, .ref x, a12, a13, a14, a15, a16, a17, a18, a19, a20, a21])) := rfl
theorem ef_m12 {a0 a1 a2 a3 a4 a5 a6 a7 a8 a9 a10 a11 a12 a13 a14 a15 a16 a17 a18 a19 a20 a21 : Value} {x : Nat} {K : va_E → Prop} : epf (some (.inr (9, [a0, a1, a2, a3, a4, a5, a6, a7, a8, a9, a10, a11, a12, a13, a14, a15, a16, a17, a18, a19, a20, a21]))) 9 12 (.ref x) K = K (.inr (9, [a0, a1, a2, a3, a4, a5, a6, a7, a8, a9, a10, a11, .ref x, a13, a14, a15, a16, a17, a18, a19, a20, a21])) := rfl
theorem ef_m7 {a0 a1 a2 a3 a4 a5 a6 a7 a8 a9 a10 a11 a12 a13 a14 a15 a16 a17 a18 a19 a20 a21 : Value} {x : Int32} {K : va_E → Prop} : epf (some (.inr (9, [a0, a1, a2, a3, a4, a5, a6, a7, a8, a9, a10, a11, a12, a13, a14, a15, a16, a17, a18, a19, a20, a21]))) 9 7 (.int x) K = K (.inr (9, [a0, a1, a2, a3, a4, a5, a6, .int x, a8, a9, a10, a11, a12, a13, a14, a15, a16, a17, a18, a19, a20, a21])) := rfl
theorem i_arr {k : XH} {a n N : Nat} {e ob : va_E} (hk : k.2.1 = n) (ha : a < n) : hget (hset (hnew k e N) a ob) a = some ob ∧ hget (hset (hnew k e N) a ob) n = some e ∧ (∀ q, q < n → q ≠ a → hget (hset (hnew k e N) a ob) q = hget k q) ∧ (hset (hnew k e N) a ob).2.1 = n + 1 ∧ (hset (hnew k e N) a ob).2.2.1 = k.2.2.1 + 1 ∧ (hset (hnew k e N) a ob).2.2.2.1 = k.2.2.2.1 + N ∧ (hset (hnew k e N) a ob).2.2.2.2 = k.2.2.2.2 := by
  refine ⟨hget_set, ?_, fun q b c => ?_, ?_, rfl, rfl, rfl⟩
  · rw [hget_ne (by omega)]
    exact hn_at hk
  · rw [hget_ne c, hn_ne (by omega)]
  · show k.2.1 + 1 = n + 1
    rw [hk]
theorem i_mo {k : XH} (hk : k.2.1 = 109) : ∃ K, (∀ {d : Nat} {Q : XO → XH → Prop}, Call d m_X8_init [.ref 109] (hnew k (.inr (9, xblank 9 22)) 22) Q = Q (.inl none) K) ∧ MWo K (fun _ => 0) (fun _ => 0) 0 (fun _ => 0) (iI 0) 0 0 (-1) (fun _ => 0) 0 (fun _ => 0) (fun _ => 0) (fun _ => 0) 0 0 (iI 0) 0 0 0 0 0 (iI 0) ∧ (∀ q, q < 109 → hget K q = hget k q) ∧ K.2.1 = 117 ∧ K.2.2.1 = k.2.2.1 + 8 ∧ K.2.2.2.1 = k.2.2.2.1 + 11072 ∧ K.2.2.2.2 = k.2.2.2.2 := by
  have g0 : hget (hnew k (.inr (9, xblank 9 22)) 22) 109 = some (.inr (9, [.null, .null, .int 0, .null, .int 0, .int 0, .int 0, .int 0, .null, .int 0, .null, .null, .null, .int 0, .int 0, .int 0, .int 0, .int 0, .int 0, .int 0, .int 0, .int 0])) := hn_at hk
  have c0 : (hnew k (.inr (9, xblank 9 22)) 22).2.1 = 110 := by show k.2.1 + 1 = 110; rw [hk]
  have s0 : ∀ q, q < 109 → hget (hnew k (.inr (9, xblank 9 22)) 22) q = hget k q := fun q a => hn_ne (by omega)
  have u0 : (hnew k (.inr (9, xblank 9 22)) 22).2.2.1 = k.2.2.1 + 1 := rfl
  have v0 : (hnew k (.inr (9, xblank 9 22)) 22).2.2.2.1 = k.2.2.2.1 + 22 := rfl
  have x0 : (hnew k (.inr (9, xblank 9 22)) 22).2.2.2.2 = k.2.2.2.2 := rfl
  generalize hnew k (.inr (9, xblank 9 22)) 22 = k0 at g0 c0 s0 u0 v0 x0 ⊢
  obtain ⟨b1, b2, b3, b4, b5, b6, b7⟩ := i_arr (k := k0) (a := 109) (n := 110) (N := 1092) (e := (nar 1092 (fun _ => 0))) (ob := .inr (9, [.ref 110, .null, .int 0, .null, .int 0, .int 0, .int 0, .int 0, .null, .int 0, .null, .null, .null, .int 0, .int 0, .int 0, .int 0, .int 0, .int 0, .int 0, .int 0, .int 0])) c0 (by omega)
  have y0 : hget (hnew k0 (nar 1092 (fun _ => 0)) 1092) 109 = some (.inr (9, [.null, .null, .int 0, .null, .int 0, .int 0, .int 0, .int 0, .null, .int 0, .null, .null, .null, .int 0, .int 0, .int 0, .int 0, .int 0, .int 0, .int 0, .int 0, .int 0])) := by rw [hn_ne (by rw [c0]; omega)]; exact g0
  obtain ⟨k1, hk1⟩ : ∃ y, y = hset (hnew k0 (nar 1092 (fun _ => 0)) 1092) 109 (.inr (9, [.ref 110, .null, .int 0, .null, .int 0, .int 0, .int 0, .int 0, .null, .int 0, .null, .null, .null, .int 0, .int 0, .int 0, .int 0, .int 0, .int 0, .int 0, .int 0, .int 0])) := ⟨_, rfl⟩
  rw [← hk1] at b1 b2 b3 b4 b5 b6 b7
  have g1 := b1
  have e110 := b2
  have r1 := b3
  have c1 := b4
  have u1 := b5
  have v1 := b6
  have x1 := b7
  clear b1 b2 b3 b4 b5 b6 b7
  obtain ⟨b1, b2, b3, b4, b5, b6, b7⟩ := i_arr (k := k1) (a := 109) (n := 111) (N := 8736) (e := (nar 8736 (fun _ => 0))) (ob := .inr (9, [.ref 110, .ref 111, .int 0, .null, .int 0, .int 0, .int 0, .int 0, .null, .int 0, .null, .null, .null, .int 0, .int 0, .int 0, .int 0, .int 0, .int 0, .int 0, .int 0, .int 0])) c1 (by omega)
  have y1 : hget (hnew k1 (nar 8736 (fun _ => 0)) 8736) 109 = some (.inr (9, [.ref 110, .null, .int 0, .null, .int 0, .int 0, .int 0, .int 0, .null, .int 0, .null, .null, .null, .int 0, .int 0, .int 0, .int 0, .int 0, .int 0, .int 0, .int 0, .int 0])) := by rw [hn_ne (by rw [c1]; omega)]; exact g1
  obtain ⟨k2, hk2⟩ : ∃ y, y = hset (hnew k1 (nar 8736 (fun _ => 0)) 8736) 109 (.inr (9, [.ref 110, .ref 111, .int 0, .null, .int 0, .int 0, .int 0, .int 0, .null, .int 0, .null, .null, .null, .int 0, .int 0, .int 0, .int 0, .int 0, .int 0, .int 0, .int 0, .int 0])) := ⟨_, rfl⟩
  rw [← hk2] at b1 b2 b3 b4 b5 b6 b7
  have g2 := b1
  have e111 := b2
  have r2 := b3
  have c2 := b4
  have u2 := b5
  have v2 := b6
  have x2 := b7
  clear b1 b2 b3 b4 b5 b6 b7
  obtain ⟨b1, b2, b3, b4, b5, b6, b7⟩ := i_arr (k := k2) (a := 109) (n := 112) (N := 1092) (e := (nar 1092 (fun _ => 0))) (ob := .inr (9, [.ref 110, .ref 111, .int 0, .ref 112, .int 0, .int 0, .int 0, .int 0, .null, .int 0, .null, .null, .null, .int 0, .int 0, .int 0, .int 0, .int 0, .int 0, .int 0, .int 0, .int 0])) c2 (by omega)
  have y2 : hget (hnew k2 (nar 1092 (fun _ => 0)) 1092) 109 = some (.inr (9, [.ref 110, .ref 111, .int 0, .null, .int 0, .int 0, .int 0, .int 0, .null, .int 0, .null, .null, .null, .int 0, .int 0, .int 0, .int 0, .int 0, .int 0, .int 0, .int 0, .int 0])) := by rw [hn_ne (by rw [c2]; omega)]; exact g2
  obtain ⟨k3, hk3⟩ : ∃ y, y = hset (hnew k2 (nar 1092 (fun _ => 0)) 1092) 109 (.inr (9, [.ref 110, .ref 111, .int 0, .ref 112, .int 0, .int 0, .int 0, .int 0, .null, .int 0, .null, .null, .null, .int 0, .int 0, .int 0, .int 0, .int 0, .int 0, .int 0, .int 0, .int 0])) := ⟨_, rfl⟩
  rw [← hk3] at b1 b2 b3 b4 b5 b6 b7
  have g3 := b1
  have e112 := b2
  have r3 := b3
  have c3 := b4
  have u3 := b5
  have v3 := b6
  have x3 := b7
  clear b1 b2 b3 b4 b5 b6 b7
  have f7 : epf (hget k3 109) 9 7 (.int (-1)) = epf (some (.inr (9, [.ref 110, .ref 111, .int 0, .ref 112, .int 0, .int 0, .int 0, .int 0, .null, .int 0, .null, .null, .null, .int 0, .int 0, .int 0, .int 0, .int 0, .int 0, .int 0, .int 0, .int 0]))) 9 7 (.int (-1)) := by rw [g3]
  obtain ⟨k4, hk4⟩ : ∃ y, y = hset k3 109 (.inr (9, [.ref 110, .ref 111, .int 0, .ref 112, .int 0, .int 0, .int 0, .int (-1), .null, .int 0, .null, .null, .null, .int 0, .int 0, .int 0, .int 0, .int 0, .int 0, .int 0, .int 0, .int 0])) := ⟨_, rfl⟩
  have g4 : hget k4 109 = some (.inr (9, [.ref 110, .ref 111, .int 0, .ref 112, .int 0, .int 0, .int 0, .int (-1), .null, .int 0, .null, .null, .null, .int 0, .int 0, .int 0, .int 0, .int 0, .int 0, .int 0, .int 0, .int 0])) := by rw [hk4]; exact hget_set
  have c4 : k4.2.1 = 113 := by rw [hk4]; exact c3
  have r4 : ∀ q, q < 113 → q ≠ 109 → hget k4 q = hget k3 q := fun q a b => by rw [hk4]; exact hget_ne b
  have u4 : k4.2.2.1 = k3.2.2.1 := by rw [hk4]; rfl
  have v4 : k4.2.2.2.1 = k3.2.2.2.1 := by rw [hk4]; rfl
  have x4 : k4.2.2.2.2 = k3.2.2.2.2 := by rw [hk4]; rfl
  obtain ⟨b1, b2, b3, b4, b5, b6, b7⟩ := i_arr (k := k4) (a := 109) (n := 113) (N := 60) (e := (car 60 (fun _ => 0))) (ob := .inr (9, [.ref 110, .ref 111, .int 0, .ref 112, .int 0, .int 0, .int 0, .int (-1), .ref 113, .int 0, .null, .null, .null, .int 0, .int 0, .int 0, .int 0, .int 0, .int 0, .int 0, .int 0, .int 0])) c4 (by omega)
  have y4 : hget (hnew k4 (car 60 (fun _ => 0)) 60) 109 = some (.inr (9, [.ref 110, .ref 111, .int 0, .ref 112, .int 0, .int 0, .int 0, .int (-1), .null, .int 0, .null, .null, .null, .int 0, .int 0, .int 0, .int 0, .int 0, .int 0, .int 0, .int 0, .int 0])) := by rw [hn_ne (by rw [c4]; omega)]; exact g4
  obtain ⟨k5, hk5⟩ : ∃ y, y = hset (hnew k4 (car 60 (fun _ => 0)) 60) 109 (.inr (9, [.ref 110, .ref 111, .int 0, .ref 112, .int 0, .int 0, .int 0, .int (-1), .ref 113, .int 0, .null, .null, .null, .int 0, .int 0, .int 0, .int 0, .int 0, .int 0, .int 0, .int 0, .int 0])) := ⟨_, rfl⟩
  rw [← hk5] at b1 b2 b3 b4 b5 b6 b7
  have g5 := b1
  have e113 := b2
  have r5 := b3
  have c5 := b4
  have u5 := b5
  have v5 := b6
  have x5 := b7
  clear b1 b2 b3 b4 b5 b6 b7
  obtain ⟨b1, b2, b3, b4, b5, b6, b7⟩ := i_arr (k := k5) (a := 109) (n := 114) (N := 60) (e := (bar 60 (fun _ => 0))) (ob := .inr (9, [.ref 110, .ref 111, .int 0, .ref 112, .int 0, .int 0, .int 0, .int (-1), .ref 113, .int 0, .ref 114, .null, .null, .int 0, .int 0, .int 0, .int 0, .int 0, .int 0, .int 0, .int 0, .int 0])) c5 (by omega)
  have y5 : hget (hnew k5 (bar 60 (fun _ => 0)) 60) 109 = some (.inr (9, [.ref 110, .ref 111, .int 0, .ref 112, .int 0, .int 0, .int 0, .int (-1), .ref 113, .int 0, .null, .null, .null, .int 0, .int 0, .int 0, .int 0, .int 0, .int 0, .int 0, .int 0, .int 0])) := by rw [hn_ne (by rw [c5]; omega)]; exact g5
  obtain ⟨k6, hk6⟩ : ∃ y, y = hset (hnew k5 (bar 60 (fun _ => 0)) 60) 109 (.inr (9, [.ref 110, .ref 111, .int 0, .ref 112, .int 0, .int 0, .int 0, .int (-1), .ref 113, .int 0, .ref 114, .null, .null, .int 0, .int 0, .int 0, .int 0, .int 0, .int 0, .int 0, .int 0, .int 0])) := ⟨_, rfl⟩
  rw [← hk6] at b1 b2 b3 b4 b5 b6 b7
  have g6 := b1
  have e114 := b2
  have r6 := b3
  have c6 := b4
  have u6 := b5
  have v6 := b6
  have x6 := b7
  clear b1 b2 b3 b4 b5 b6 b7
  obtain ⟨b1, b2, b3, b4, b5, b6, b7⟩ := i_arr (k := k6) (a := 109) (n := 115) (N := 5) (e := (nar 5 (fun _ => 0))) (ob := .inr (9, [.ref 110, .ref 111, .int 0, .ref 112, .int 0, .int 0, .int 0, .int (-1), .ref 113, .int 0, .ref 114, .ref 115, .null, .int 0, .int 0, .int 0, .int 0, .int 0, .int 0, .int 0, .int 0, .int 0])) c6 (by omega)
  have y6 : hget (hnew k6 (nar 5 (fun _ => 0)) 5) 109 = some (.inr (9, [.ref 110, .ref 111, .int 0, .ref 112, .int 0, .int 0, .int 0, .int (-1), .ref 113, .int 0, .ref 114, .null, .null, .int 0, .int 0, .int 0, .int 0, .int 0, .int 0, .int 0, .int 0, .int 0])) := by rw [hn_ne (by rw [c6]; omega)]; exact g6
  obtain ⟨k7, hk7⟩ : ∃ y, y = hset (hnew k6 (nar 5 (fun _ => 0)) 5) 109 (.inr (9, [.ref 110, .ref 111, .int 0, .ref 112, .int 0, .int 0, .int 0, .int (-1), .ref 113, .int 0, .ref 114, .ref 115, .null, .int 0, .int 0, .int 0, .int 0, .int 0, .int 0, .int 0, .int 0, .int 0])) := ⟨_, rfl⟩
  rw [← hk7] at b1 b2 b3 b4 b5 b6 b7
  have g7 := b1
  have e115 := b2
  have r7 := b3
  have c7 := b4
  have u7 := b5
  have v7 := b6
  have x7 := b7
  clear b1 b2 b3 b4 b5 b6 b7
  obtain ⟨b1, b2, b3, b4, b5, b6, b7⟩ := i_arr (k := k7) (a := 109) (n := 116) (N := 5) (e := (nar 5 (fun _ => 0))) (ob := .inr (9, [.ref 110, .ref 111, .int 0, .ref 112, .int 0, .int 0, .int 0, .int (-1), .ref 113, .int 0, .ref 114, .ref 115, .ref 116, .int 0, .int 0, .int 0, .int 0, .int 0, .int 0, .int 0, .int 0, .int 0])) c7 (by omega)
  have y7 : hget (hnew k7 (nar 5 (fun _ => 0)) 5) 109 = some (.inr (9, [.ref 110, .ref 111, .int 0, .ref 112, .int 0, .int 0, .int 0, .int (-1), .ref 113, .int 0, .ref 114, .ref 115, .null, .int 0, .int 0, .int 0, .int 0, .int 0, .int 0, .int 0, .int 0, .int 0])) := by rw [hn_ne (by rw [c7]; omega)]; exact g7
  obtain ⟨k8, hk8⟩ : ∃ y, y = hset (hnew k7 (nar 5 (fun _ => 0)) 5) 109 (.inr (9, [.ref 110, .ref 111, .int 0, .ref 112, .int 0, .int 0, .int 0, .int (-1), .ref 113, .int 0, .ref 114, .ref 115, .ref 116, .int 0, .int 0, .int 0, .int 0, .int 0, .int 0, .int 0, .int 0, .int 0])) := ⟨_, rfl⟩
  rw [← hk8] at b1 b2 b3 b4 b5 b6 b7
  have g8 := b1
  have e116 := b2
  have r8 := b3
  have c8 := b4
  have u8 := b5
  have v8 := b6
  have x8 := b7
  clear b1 b2 b3 b4 b5 b6 b7
  refine ⟨k8, fun {d Q} => ?_, MWo_of ?_ ?_ ?_ ?_ ?_ ?_ ?_ ?_, fun q a => ?_, c8, by omega, by omega, ?_⟩
  · rw [c_X8_init, w_X8_init_0, w_X8_init_4, show (1092 : Int32) = iI 1092 from rfl, narr (by omega) (by rw [c0]; omega), show (iI 1092).toNatClampNeg = 1092 from rfl, c0, nar_0, w_X8_init_10, y0, ef_m0, ← hk1, w_X8_init_13, show (8736 : Int32) = iI 8736 from rfl, narr (by omega) (by rw [c1]; omega), show (iI 8736).toNatClampNeg = 8736 from rfl, c1, nar_0, w_X8_init_19, y1, ef_m1, ← hk2, w_X8_init_22, show (1092 : Int32) = iI 1092 from rfl, narr (by omega) (by rw [c2]; omega), show (iI 1092).toNatClampNeg = 1092 from rfl, c2, nar_0, w_X8_init_28, y2, ef_m3, ← hk3, w_X8_init_31, f7, ef_m7, ← hk4, w_X8_init_36, show (60 : Int32) = iI 60 from rfl, narr (by omega) (by rw [c4]; omega), show (iI 60).toNatClampNeg = 60 from rfl, c4, car_0, w_X8_init_41, y4, ef_m8, ← hk5, w_X8_init_44, show (60 : Int32) = iI 60 from rfl, narr (by omega) (by rw [c5]; omega), show (iI 60).toNatClampNeg = 60 from rfl, c5, bar_0, w_X8_init_49, y5, ef_m10, ← hk6, w_X8_init_52, show (5 : Int32) = iI 5 from rfl, narr (by omega) (by rw [c6]; omega), show (iI 5).toNatClampNeg = 5 from rfl, c6, nar_0, w_X8_init_56, y6, ef_m11, ← hk7, w_X8_init_59, show (5 : Int32) = iI 5 from rfl, narr (by omega) (by rw [c7]; omega), show (iI 5).toNatClampNeg = 5 from rfl, c7, nar_0, w_X8_init_63, y7, ef_m12, ← hk8, w_X8_init_66]
  · exact g8
  · rw [r8 110 (by omega) (by omega), r7 110 (by omega) (by omega), r6 110 (by omega) (by omega), r5 110 (by omega) (by omega), r4 110 (by omega) (by omega), r3 110 (by omega) (by omega), r2 110 (by omega) (by omega), e110]
  · rw [r8 111 (by omega) (by omega), r7 111 (by omega) (by omega), r6 111 (by omega) (by omega), r5 111 (by omega) (by omega), r4 111 (by omega) (by omega), r3 111 (by omega) (by omega), e111]
  · rw [r8 112 (by omega) (by omega), r7 112 (by omega) (by omega), r6 112 (by omega) (by omega), r5 112 (by omega) (by omega), r4 112 (by omega) (by omega), e112]
  · rw [r8 113 (by omega) (by omega), r7 113 (by omega) (by omega), r6 113 (by omega) (by omega), e113]
  · rw [r8 114 (by omega) (by omega), r7 114 (by omega) (by omega), e114]
  · rw [r8 115 (by omega) (by omega), e115]
  · rw [e116]
  · rw [r8 q (by omega) (by omega), r7 q (by omega) (by omega), r6 q (by omega) (by omega), r5 q (by omega) (by omega), r4 q (by omega) (by omega), r3 q (by omega) (by omega), r2 q (by omega) (by omega), r1 q (by omega) (by omega), s0 q a]
  · rw [x8, x7, x6, x5, x4, x3, x2, x1, x0]
theorem ite_arr {n : Nat} {X : Prop} (hn : n < 1000000) : (if (1 : Int32) < 0 ∨ 10000 < (1 : Int32).toNatClampNeg ∨ 1000000 ≤ n then False else X) = X := by
  rw [show (1 : Int32) = iI 1 from rfl]
  exact narr (by omega) hn
/-- the state at the loop's beginning -/
theorem law_begin {L : Nat} {xs : Nat → Int32} : ∃ K, (∀ Q, EvQ 13 m_L_law 0 [.ref 2000000, xjunk, xjunk, xjunk, xjunk, xjunk, xjunk, xjunk, xjunk] [] (fun _ => none, 0, 0, 0, L, xs) Q = EvQ 13 m_L_law 28 [.ref 2000000, .ref 0, .ref 109, .ref 117, .ref 118, .int (iI 0), xjunk, xjunk, xjunk] [] K Q) ∧ LRx K ∧ K.2.2.1 ≤ 200 ∧ K.2.2.2.1 ≤ 30000 ∧ K.2.2.2.2 = (L, xs) := by
  obtain ⟨k1, i1, C1, n1, u1, v1, x1⟩ := i_bc (k := (fun _ => none, 0, 0, 0, L, xs)) rfl
  obtain ⟨k2, i2, M2, s2, n2, u2, v2, x2⟩ := i_mo n1
  have C2 := CW_cong s2 C1
  have e3 : (hnew k2 (ola (fun _ => 0)) 1).2.1 = 118 := by show k2.2.1 + 1 = 118; rw [n2]
  have M3 := MWo_cong (K := hnew (hnew k2 (ola (fun _ => 0)) 1) (oda (fun _ => 0)) 1) (fun q a b => by rw [hn_ne (by rw [e3]; omega), hn_ne (by omega)]) M2
  have C3 := CW_cong (K := hnew (hnew k2 (ola (fun _ => 0)) 1) (oda (fun _ => 0)) 1) (fun q a => by rw [hn_ne (by rw [e3]; omega), hn_ne (by omega)]) C2
  refine ⟨hnew (hnew k2 (ola (fun _ => 0)) 1) (oda (fun _ => 0)) 1, fun Q => ?_, LRx_mk C3 M3 (g := fun _ => 0) (g2 := fun _ => 0) ?_ ?_ ?_, ?_, ?_, ?_⟩
  · have z0 : ((fun _ => none, 0, 0, 0, L, xs) : XH).2.1 = 0 := rfl
    rw [w_L_law_0, z0, show Nat.blt 0 1000000 = true from rfl, cond_true, w_L_law_3, i1, bck_v, w_L_law_7, n1, show Nat.blt 109 1000000 = true from rfl, cond_true, w_L_law_11, i2, bck_v, w_L_law_15, ite_arr (by rw [n2]; omega), n2, show (1 : Int32).toNatClampNeg = 1 from rfl]
    show EvQ 13 m_L_law 19 _ _ (hnew k2 (ola (fun _ => 0)) 1) Q = _
    rw [w_L_law_19, ite_arr (by rw [e3]; omega), e3, show (1 : Int32).toNatClampNeg = 1 from rfl]
    show EvQ 13 m_L_law 23 _ _ (hnew (hnew k2 (ola (fun _ => 0)) 1) (oda (fun _ => 0)) 1) Q = _
    rw [w_L_law_23, show (0 : Int32) = iI 0 from rfl]
  · rw [hn_ne (by rw [e3]; omega)]
    exact hn_at n2
  · exact hn_at e3
  · refine ⟨IV0, ⟨rfl, rfl, rfl, rfl, fun b a c => by omega, fun u j a c => by omega, fun p j a c => by omega⟩, HR_0 (by omega), Or.inl rfl, Or.inl ⟨rfl, rfl⟩, by omega, by omega, fun k => ⟨Int.le_refl _, by show (0 : Int) < 65536; omega⟩, by omega, R0⟩
  · show k2.2.2.1 + 1 + 1 ≤ 200
    rw [u2, u1]
    show 0 + 109 + 8 + 1 + 1 ≤ 200
    omega
  · show k2.2.2.2.1 + 1 + 1 ≤ 30000
    rw [v2, v1]
    show 0 + 11517 + 11072 + 1 + 1 ≤ 30000
    omega
  · show k2.2.2.2.2 = (L, xs)
    rw [x2, x1]
/-- on every script of at most 3072 ints the reading of the law answers 1, in the room -/
theorem law_ex {L : Nat} (hL : L ≤ 3072) (xs : Nat → Int32) : ∃ (f : Nat) (h2 : XH), ex f 13 m_L_law 0 [.ref 2000000, xjunk, xjunk, xjunk, xjunk, xjunk, xjunk, xjunk, xjunk] [] (fun _ => none, 0, 0, 0, L, xs) = some (.inl (some (.int 1)), h2) ∧ h2.2.2.1 ≤ 10000 ∧ h2.2.2.2.1 ≤ 100000 := by
  obtain ⟨K, e1, LR0, a1, a2, a3⟩ := law_begin (L := L) (xs := xs)
  have l1 : K.2.2.2.2.1 = L := by rw [a3]
  obtain ⟨H2, b1, b2, b3⟩ := law_all 512 0 K xjunk xjunk LR0 (by omega) (by rw [l1]; omega) (by rw [l1]; omega)
  have c : EvQ 13 m_L_law 0 [.ref 2000000, xjunk, xjunk, xjunk, xjunk, xjunk, xjunk, xjunk, xjunk] [] (fun _ => none, 0, 0, 0, L, xs) (fun o h => o = .inl (some (.int 1)) ∧ h = H2) := by
    rw [e1, b3]
    exact ⟨rfl, rfl⟩
  obtain ⟨f, o, h2, q, rfl, rfl⟩ := c
  exact ⟨f, h2, q, by omega, by omega⟩
