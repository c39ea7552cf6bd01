set_option maxRecDepth 20000
/-! Works: sharing, splitting, carrying out. -/
theorem r5_0 {a0 a1 a2 a3 a4 : Int} : r5 a0 a1 a2 a3 a4 0 = a0 := rfl
theorem r5_1 {a0 a1 a2 a3 a4 : Int} : r5 a0 a1 a2 a3 a4 1 = a1 := rfl
theorem r5_2 {a0 a1 a2 a3 a4 : Int} : r5 a0 a1 a2 a3 a4 2 = a2 := rfl
theorem r5_3 {a0 a1 a2 a3 a4 : Int} : r5 a0 a1 a2 a3 a4 3 = a3 := rfl
theorem r5_4 {a0 a1 a2 a3 a4 : Int} : r5 a0 a1 a2 a3 a4 4 = a4 := rfl
def q5 (A : Int → Int) (x S : Int) : Int → Int := r5 ((A 0 * x).tdiv S) ((A 1 * x).tdiv S) ((A 2 * x).tdiv S) ((A 3 * x).tdiv S) ((A 4 * x).tdiv S)
def m5 (A : Int → Int) (x S : Int) : Int → Int := r5 ((A 0 * x).tmod S) ((A 1 * x).tmod S) ((A 2 * x).tmod S) ((A 3 * x).tmod S) ((A 4 * x).tmod S)
def s5 (A : Int → Int) : Int := A 0 + A 1 + A 2 + A 3 + A 4
/-- the areas of the first part, x of the areas A -/
def shA (A : Int → Int) (x : Int) : Int → Int := shk (x - s5 (q5 A x (s5 A))).toNat (q5 A x (s5 A)) (m5 A x (s5 A))
/-- the areas of a unit -/
def ar (U : Int → Int) (u : Int) : Int → Int := r5 (U (u * 11 + 6)) (U (u * 11 + 7)) (U (u * 11 + 8)) (U (u * 11 + 9)) (U (u * 11 + 10))
section Works
variable {d : Nat} {h : XH} {r : Nat} {dy nb nu np nf : Int} {B U P F : Int → Int} {Q : XO → XH → Prop} {i j x b f k t ia u p : Int}
variable {w : Nat} {n m e g : Int} {V R2 : Int → Int}
theorem k_share (hw : (0 ≤ nb ∧ nb ≤ 4) ∧ (0 ≤ m ∧ m ≤ 60) ∧ (0 ≤ np ∧ np ≤ 40) ∧ (0 ≤ nf ∧ nf ≤ 40)) (hk : hget h w = some (.inr (7, [.ref r]))) (hd : w < r ∨ r + 9 ≤ w) (hu : 0 ≤ u ∧ u < n) (hm : n + 1 < m) (hA : ∀ k, 0 ≤ k → k < 5 → 0 ≤ ar V u k ∧ ar V u k ≤ 40000) (hS : 0 < s5 (ar V u)) (hx : 0 ≤ x ∧ x ≤ 999) : Call (d + 3) m_X6_shareAreas [.ref w, .int (iI u), .int (iI n), .int (iI x)] (wr h r dy nb B m (rw11 (rw11 V n (mk b f t e g p (fun _ => 0))) (n + 1) R2) np P nf F) Q = Q (.inl none) (wr h r dy nb B m (rw11 (rw11 V n (mk b f t e g p (shA (ar V u) x))) (n + 1) R2) np P nf F) := by
  obtain ⟨⟨b1, b2⟩, ⟨u1, u2⟩, ⟨p1, p2⟩, f1, f2⟩ := id hw
  have ho : ∀ {dy nb nu np nf : Int} {B U P F : Int → Int}, hget (wr h r dy nb B nu U np P nf F) w = some (.inr (7, [.ref r])) := fun {dy nb nu np nf B U P F} => by rw [hw_n (by omega)]; exact hk
  have a0 := hA 0 (by omega) (by omega)
  have a1 := hA 1 (by omega) (by omega)
  have a2 := hA 2 (by omega) (by omega)
  have a3 := hA 3 (by omega) (by omega)
  have a4 := hA 4 (by omega) (by omega)
  have hmi := mis a0.1 a1.1 a2.1 a3.1 a4.1 rfl hS hx.1
  have hM : ∀ k, 0 ≤ k → k < 5 → 0 ≤ ar V u k * x ∧ ar V u k * x ≤ 40000000 := by
    intro k h1 h2
    have h3 := hA k h1 h2
    have h4 := Int.mul_nonneg h3.1 hx.1
    have h5 := Int.mul_le_mul h3.2 hx.2 hx.1 (by omega)
    omega
  have m0 := hM 0 (by omega) (by omega)
  have m1 := hM 1 (by omega) (by omega)
  have m2 := hM 2 (by omega) (by omega)
  have m3 := hM 3 (by omega) (by omega)
  have m4 := hM 4 (by omega) (by omega)
  unfold shA
  have hS' : 0 < ar V u 0 + ar V u 1 + ar V u 2 + ar V u 3 + ar V u 4 := hS
  have hmi' : 0 ≤ x - s5 (q5 (ar V u) x (s5 (ar V u))) ∧ x - s5 (q5 (ar V u) x (s5 (ar V u))) ≤ 4 := hmi
  have hc : ∀ (a : Int → Int) (k : Int), 0 ≤ k → k < 5 → tg m 11 (rw11 (rw11 V n (mk b f t e g p a)) (n + 1) R2) u (6 + k) = ar V u k := by
    intro a k h1 h2
    rw [tg_in (by omega), rw_ne (by omega) (by omega), rw_ne (by omega) (by omega)]
    have e2 : k = 0 ∨ k = 1 ∨ k = 2 ∨ k = 3 ∨ k = 4 := by omega
    rcases e2 with rfl | rfl | rfl | rfl | rfl <;> rfl
  have hc2 : ∀ (a : Int → Int) (k : Int), 0 ≤ k → k < 5 → tg m 11 (rw11 (rw11 V n (mk b f t e g p a)) (n + 1) R2) n (6 + k) = a k := by
    intro a k h1 h2
    rw [tg_in (by omega), rw_ne (by omega) (by omega), rw_at (by omega), mk_k h1]
  have hs : ∀ (a : Int → Int), uS m (rw11 (rw11 V n (mk b f t e g p a)) (n + 1) R2) u = s5 (ar V u) := by
    intro a
    show tg m 11 _ u (6 + 0) + tg m 11 _ u (6 + 1) + tg m 11 _ u (6 + 2) + tg m 11 _ u (6 + 3) + tg m 11 _ u (6 + 4) = _
    rw [hc a 0 (by omega) (by omega), hc a 1 (by omega) (by omega), hc a 2 (by omega) (by omega), hc a 3 (by omega) (by omega), hc a 4 (by omega) (by omega)]
    rfl
  have hs2 : ∀ (a : Int → Int), uS m (rw11 (rw11 V n (mk b f t e g p a)) (n + 1) R2) n = s5 a := by
    intro a
    show tg m 11 _ n (6 + 0) + tg m 11 _ n (6 + 1) + tg m 11 _ n (6 + 2) + tg m 11 _ n (6 + 3) + tg m 11 _ n (6 + 4) = _
    rw [hc2 a 0 (by omega) (by omega), hc2 a 1 (by omega) (by omega), hc2 a 2 (by omega) (by omega), hc2 a 3 (by omega) (by omega), hc2 a 4 (by omega) (by omega)]
    rfl
  have ha : ∀ {d : Nat} {Q : XO → XH → Prop} (a : Int → Int) (k y : Int), 0 ≤ k → k < 5 → Call (d + 2) m_X6_addArea [.ref w, .int (iI n), .int (iI k), .int (iI y)] (wr h r dy nb B m (rw11 (rw11 V n (mk b f t e g p a)) (n + 1) R2) np P nf F) Q = Q (.inl none) (wr h r dy nb B m (rw11 (rw11 V n (mk b f t e g p (iup a k (a k + y)))) (n + 1) R2) np P nf F) := by
    intro d Q a k y h1 h2
    rw [k_addArea hw hk hd (by omega) (by omega), hc2 a k h1 h2, iup_rwo (by omega), iup_rw (by omega), iup_mka h1]
  have hr : ∀ {d : Nat} {Q : XO → XH → Prop} (a : Int → Int) (k : Int), 0 ≤ k → k < 5 → Call (d + 1) m_X4_areaOf [.ref r, .int (iI u), .int (iI k)] (wr h r dy nb B m (rw11 (rw11 V n (mk b f t e g p a)) (n + 1) R2) np P nf F) Q = Q (.inl (some (.int (iI (ar V u k))))) (wr h r dy nb B m (rw11 (rw11 V n (mk b f t e g p a)) (n + 1) R2) np P nf F) := by
    intro d Q a k h1 h2
    rw [r_areaOf hw (by omega) (by omega), uA_k h1, hc a k h1 h2]
  have hS2 : s5 (ar V u) ≤ 200000 := by
    unfold s5
    omega
  simp (disch := (first | exact tgR (by assumption) | assumption | omega)) only [w_X6_shareAreas_0, w_X6_shareAreas_4, w_X6_shareAreas_9, w_X6_shareAreas_16, w_X6_shareAreas_17, w_X6_shareAreas_20, w_X6_shareAreas_26, w_X6_shareAreas_34, w_X6_shareAreas_40, w_X6_shareAreas_45, w_X6_shareAreas_48, w_X6_shareAreas_54, w_X6_shareAreas_59, w_X6_shareAreas_64, w_X6_shareAreas_80, w_X6_shareAreas_86, w_X6_shareAreas_94, w_X6_shareAreas_104, w_X6_shareAreas_119, c_X6_shareAreas, iI_add, iI_sub, iI_mul, iI_neg, iI_lt, iI_le, iI_eq, ne_eq, bI_e0, bI_e1, nor_em, bI_n0, bI_z, bI_zr, Classical.not_not, eq_self, true_or, or_true, false_or, or_false, if_true, if_false, ite_not, ↓reduceIte, dle_t, dle_f, dlt_t, dlt_f, deq_t, deq_f, Int.reduceEq, Int.reduceLT, Int.reduceLE, Int.reduceAdd, Int.reduceNeg, Nat.reduceAdd, bck_i, bck_v, r_sizeB, r_sizeU, r_sizeP, r_sizeF, r_hasB, r_hasU, r_hasP, r_getB, r_getU, r_getP, r_getF, r_putB, r_putU, r_putP, r_putF, eob_at, egf0, egf1, egf2, egf3, egf4, hw_0, hw_1, hw_3, hw_5, hw_7, rco, tbl, il_m1, il_0, il_1, il_2, il_3, il_4, il_5, il_6, il_7, il_8, il_9, il_10, il_11, il_12, il_13, il_14, il_26, il_28, il_30, il_32, il_35, il_40, il_43, il_44, il_48, il_50, il_52, il_57, il_58, il_59, il_60, il_61, il_64, il_65, il_70, il_78, il_95, il_97, il_99, il_100, il_101, il_102, il_106, il_115, il_117, il_660, il_812, il_999, il_1000, il_1092, il_8736, il_9999, hr, ha, hs, hs2, r_areaOf, uA_m1, iI_div, iup_ne, iup_eq, Int.zero_add, ho]
  have key := lpI (n := x - s5 (q5 (ar V u) x (s5 (ar V u)))) (I := fun i (s : (Int → Int) × (Int → Int) × Int32 × Value) => ∀ k, 0 ≤ k → k < 5 → (gv s.2.2.1 k → s.2.1 k = (ar V u k * x).tmod (s5 (ar V u))) ∧ (¬ gv s.2.2.1 k → s.2.1 k = -1)) (E := fun i s => EvQ (d + 2 + 1) m_X6_shareAreas 73 [.ref w, .int (iI u), .int (iI n), .int (iI x), .int (iI (s5 (ar V u))), .int (iI (x - s5 (q5 (ar V u) x (s5 (ar V u))))), .int s.2.2.1, .int (iI i), s.2.2.2] [] (wr h r dy nb B m (rw11 (rw11 V n (mk b f t e g p s.1)) (n + 1) R2) np P nf F) Q) (V := fun i s => Q (.inl none) (wr h r dy nb B m (rw11 (rw11 V n (mk b f t e g p (shk (x - s5 (q5 (ar V u) x (s5 (ar V u))) - i).toNat s.1 s.2.1))) (n + 1) R2) np P nf F)) ?_ ?_ 0 (q5 (ar V u) x (s5 (ar V u)), m5 (ar V u) x (s5 (ar V u)), iI 0, xjunk) (by omega) (by omega) ?_
  · rw [Int.sub_zero] at key
    exact key
  · rintro ⟨a, rm, g, l8⟩ _
    try dsimp only
    rw [w_X6_shareAreas_73, Int.sub_self]
    simp (disch := (first | exact tgR (by assumption) | assumption | omega)) only [w_X6_shareAreas_0, w_X6_shareAreas_4, w_X6_shareAreas_9, w_X6_shareAreas_16, w_X6_shareAreas_17, w_X6_shareAreas_20, w_X6_shareAreas_26, w_X6_shareAreas_34, w_X6_shareAreas_40, w_X6_shareAreas_45, w_X6_shareAreas_48, w_X6_shareAreas_54, w_X6_shareAreas_59, w_X6_shareAreas_64, w_X6_shareAreas_80, w_X6_shareAreas_86, w_X6_shareAreas_94, w_X6_shareAreas_104, w_X6_shareAreas_119, c_X6_shareAreas, iI_add, iI_sub, iI_mul, iI_neg, iI_lt, iI_le, iI_eq, ne_eq, bI_e0, bI_e1, nor_em, bI_n0, bI_z, bI_zr, Classical.not_not, eq_self, true_or, or_true, false_or, or_false, if_true, if_false, ite_not, ↓reduceIte, dle_t, dle_f, dlt_t, dlt_f, deq_t, deq_f, Int.reduceEq, Int.reduceLT, Int.reduceLE, Int.reduceAdd, Int.reduceNeg, Nat.reduceAdd, bck_i, bck_v, r_sizeB, r_sizeU, r_sizeP, r_sizeF, r_hasB, r_hasU, r_hasP, r_getB, r_getU, r_getP, r_getF, r_putB, r_putU, r_putP, r_putF, eob_at, egf0, egf1, egf2, egf3, egf4, hw_0, hw_1, hw_3, hw_5, hw_7, rco, tbl, il_m1, il_0, il_1, il_2, il_3, il_4, il_5, il_6, il_7, il_8, il_9, il_10, il_11, il_12, il_13, il_14, il_26, il_28, il_30, il_32, il_35, il_40, il_43, il_44, il_48, il_50, il_52, il_57, il_58, il_59, il_60, il_61, il_64, il_65, il_70, il_78, il_95, il_97, il_99, il_100, il_101, il_102, il_106, il_115, il_117, il_660, il_812, il_999, il_1000, il_1092, il_8736, il_9999]
    rfl
  · rintro i ⟨a, rm, g', l8⟩ h0 h1 hI ih
    try dsimp only at ih hI ⊢
    have am := amaxR (rm := rm)
    have kr : ∀ {d : Nat} {Q : XO → XH → Prop}, Call (d + 2) m_X6_useOfGreatestRest [.ref w, .int (iI u), .int (iI x), .int g'] (wr h r dy nb B m (rw11 (rw11 V n (mk b f t e g p a)) (n + 1) R2) np P nf F) Q = Q (.inl (some (.int (iI (amax rm))))) (wr h r dy nb B m (rw11 (rw11 V n (mk b f t e g p a)) (n + 1) R2) np P nf F) := fun {d Q} =>
      k_rest hw hk hd (by omega) (fun k h1 h2 => by rw [hc a k h1 h2]; exact hA k h1 h2) (by rw [hs]; exact hS) hx (fun k h1 h2 => by rw [hc a k h1 h2, hs]; exact hI k h1 h2)
    rw [w_X6_shareAreas_73, show (x - s5 (q5 (ar V u) x (s5 (ar V u))) - i).toNat = (x - s5 (q5 (ar V u) x (s5 (ar V u))) - (i + 1)).toNat + 1 by omega]
    unfold shk
    simp (disch := (first | exact tgR (by assumption) | assumption | omega)) only [w_X6_shareAreas_0, w_X6_shareAreas_4, w_X6_shareAreas_9, w_X6_shareAreas_16, w_X6_shareAreas_17, w_X6_shareAreas_20, w_X6_shareAreas_26, w_X6_shareAreas_34, w_X6_shareAreas_40, w_X6_shareAreas_45, w_X6_shareAreas_48, w_X6_shareAreas_54, w_X6_shareAreas_59, w_X6_shareAreas_64, w_X6_shareAreas_80, w_X6_shareAreas_86, w_X6_shareAreas_94, w_X6_shareAreas_104, w_X6_shareAreas_119, c_X6_shareAreas, iI_add, iI_sub, iI_mul, iI_neg, iI_lt, iI_le, iI_eq, ne_eq, bI_e0, bI_e1, nor_em, bI_n0, bI_z, bI_zr, Classical.not_not, eq_self, true_or, or_true, false_or, or_false, if_true, if_false, ite_not, ↓reduceIte, dle_t, dle_f, dlt_t, dlt_f, deq_t, deq_f, Int.reduceEq, Int.reduceLT, Int.reduceLE, Int.reduceAdd, Int.reduceNeg, Nat.reduceAdd, bck_i, bck_v, r_sizeB, r_sizeU, r_sizeP, r_sizeF, r_hasB, r_hasU, r_hasP, r_getB, r_getU, r_getP, r_getF, r_putB, r_putU, r_putP, r_putF, eob_at, egf0, egf1, egf2, egf3, egf4, hw_0, hw_1, hw_3, hw_5, hw_7, rco, tbl, il_m1, il_0, il_1, il_2, il_3, il_4, il_5, il_6, il_7, il_8, il_9, il_10, il_11, il_12, il_13, il_14, il_26, il_28, il_30, il_32, il_35, il_40, il_43, il_44, il_48, il_50, il_52, il_57, il_58, il_59, il_60, il_61, il_64, il_65, il_70, il_78, il_95, il_97, il_99, il_100, il_101, il_102, il_106, il_115, il_117, il_660, il_812, il_999, il_1000, il_1092, il_8736, il_9999, kr, ha, ho]
    refine ih (iup a (amax rm) (a (amax rm) + 1), iup rm (amax rm) (-1), g' ||| (iI 1 <<< (iI (amax rm) &&& 31)), .int (iI (amax rm))) fun k h1 h2 => ?_
    try dsimp only
    have h3 := hI k h1 h2
    rw [gv_or am ⟨h1, h2⟩]
    by_cases c : k = amax rm
    · subst c
      rw [iup_eq]
      exact ⟨fun z => absurd rfl z.2, fun _ => rfl⟩
    · rw [iup_ne (by omega)]
      exact ⟨fun z => h3.1 z.1, fun z => h3.2 fun q => z ⟨q, c⟩⟩
  · intro k h1 h2
    try dsimp only
    have e2 : k = 0 ∨ k = 1 ∨ k = 2 ∨ k = 3 ∨ k = 4 := by omega
    have hg : gv (iI 0) k := by
      unfold gv
      rcases e2 with rfl | rfl | rfl | rfl | rfl <;> decide
    refine ⟨fun _ => ?_, fun z => absurd hg z⟩
    rcases e2 with rfl | rfl | rfl | rfl | rfl <;> rfl
end Works
