set_option maxRecDepth 20000
/-! Works: the greatest rest, the shares. -/
def gv (g : Int32) (k : Int) : Prop := (g >>> (iI k &&& 31)) &&& iI 1 = iI 0
theorem i_and_or (x y z : Int32) : (x ||| y) &&& z = (x &&& z) ||| (y &&& z) := by
  apply Int32.toBitVec_inj.mp
  simp [BitVec.and_or_distrib_right]
theorem gv_or {g : Int32} {j k : Int} (hj : 0 ≤ j ∧ j < 5) (hk : 0 ≤ k ∧ k < 5) : gv (g ||| (iI 1 <<< (iI j &&& 31))) k ↔ gv g k ∧ ¬ k = j := by
  unfold gv
  rw [Int32.shiftRight_or, i_and_or]
  have h0 : iI 0 = 0 := rfl
  rw [h0, Int32.or_eq_zero_iff]
  have e1 : j = 0 ∨ j = 1 ∨ j = 2 ∨ j = 3 ∨ j = 4 := by omega
  have e2 : k = 0 ∨ k = 1 ∨ k = 2 ∨ k = 3 ∨ k = 4 := by omega
  refine and_congr_right fun _ => ?_
  rcases e1 with rfl | rfl | rfl | rfl | rfl <;> rcases e2 with rfl | rfl | rfl | rfl | rfl <;> decide
def amk (rm : Int → Int) : Nat → Int → Int → Int
  | 0, _, m => m
  | n + 1, k, m => amk rm n (k + 1) (if rm m < rm k then k else m)
/-- where rm is greatest, of 0 to 4 -/
def amax (rm : Int → Int) : Int := amk rm 4 1 0
theorem amkR {rm : Int → Int} : ∀ (n : Nat) (k m : Int), 0 ≤ k → k + n ≤ 5 → 0 ≤ m → m < 5 → 0 ≤ amk rm n k m ∧ amk rm n k m < 5
  | 0, _, _, _, _, h1, h2 => ⟨h1, h2⟩
  | n + 1, k, m, h0, h3, h1, h2 => by
    unfold amk
    by_cases c : rm m < rm k
    · rw [if_pos c]; exact amkR n (k + 1) k (by omega) (by omega) (by omega) (by omega)
    · rw [if_neg c]; exact amkR n (k + 1) m (by omega) (by omega) h1 h2
theorem amaxR {rm : Int → Int} : 0 ≤ amax rm ∧ amax rm < 5 := amkR 4 1 0 (by omega) (by omega) (by omega) (by omega)
/-- n more: one to the use of the greatest rest, each once -/
def shk : Nat → (Int → Int) → (Int → Int) → Int → Int
  | 0, a, _ => a
  | n + 1, a, rm => shk n (iup a (amax rm) (a (amax rm) + 1)) (iup rm (amax rm) (-1))
theorem mis {a0 a1 a2 a3 a4 w S : Int} (h0 : 0 ≤ a0) (h1 : 0 ≤ a1) (h2 : 0 ≤ a2) (h3 : 0 ≤ a3) (h4 : 0 ≤ a4) (hS : S = a0 + a1 + a2 + a3 + a4) (hp : 0 < S) (hw : 0 ≤ w) :
    0 ≤ w - ((a0 * w).tdiv S + (a1 * w).tdiv S + (a2 * w).tdiv S + (a3 * w).tdiv S + (a4 * w).tdiv S) ∧ w - ((a0 * w).tdiv S + (a1 * w).tdiv S + (a2 * w).tdiv S + (a3 * w).tdiv S + (a4 * w).tdiv S) ≤ 4 := by
  have key : ∀ a : Int, 0 ≤ a → ∃ q r : Int, (a * w).tdiv S = q ∧ S * q + r = a * w ∧ 0 ≤ r ∧ r < S := fun a ha =>
    ⟨(a * w).tdiv S, (a * w) % S, rfl, by rw [Int.tdiv_eq_ediv_of_nonneg (Int.mul_nonneg ha hw)]; exact Int.mul_ediv_add_emod _ _, Int.emod_nonneg _ (by omega), Int.emod_lt_of_pos _ hp⟩
  obtain ⟨q0, r0, e0, s0, p0, l0⟩ := key a0 h0
  obtain ⟨q1, r1, e1, s1, p1, l1⟩ := key a1 h1
  obtain ⟨q2, r2, e2, s2, p2, l2⟩ := key a2 h2
  obtain ⟨q3, r3, e3, s3, p3, l3⟩ := key a3 h3
  obtain ⟨q4, r4, e4, s4, p4, l4⟩ := key a4 h4
  rw [e0, e1, e2, e3, e4]
  have hh : S * (w - (q0 + q1 + q2 + q3 + q4)) = r0 + r1 + r2 + r3 + r4 := by
    have : S * w = a0 * w + a1 * w + a2 * w + a3 * w + a4 * w := by rw [hS, Int.add_mul, Int.add_mul, Int.add_mul, Int.add_mul]
    rw [Int.mul_sub, Int.mul_add, Int.mul_add, Int.mul_add, Int.mul_add]
    omega
  generalize w - (q0 + q1 + q2 + q3 + q4) = D at hh
  constructor
  · by_cases c : 0 ≤ D
    · exact c
    · have := Int.mul_le_mul_of_nonneg_left (show D ≤ -1 by omega) (show 0 ≤ S by omega)
      omega
  · by_cases c : D ≤ 4
    · exact c
    · have := Int.mul_le_mul_of_nonneg_left (show 5 ≤ D by omega) (show 0 ≤ S by omega)
      omega
section Works
variable {d : Nat} {h : XH} {r : Nat} {dy nb nu np nf : Int} {B U P F : Int → Int} {Q : XO → XH → Prop} {i j x b f k t ia u p : Int}
variable {w : Nat}
theorem k_joinUnits (hw : (0 ≤ nb ∧ nb ≤ 4) ∧ (0 ≤ nu ∧ nu ≤ 60) ∧ (0 ≤ np ∧ np ≤ 40) ∧ (0 ≤ nf ∧ nf ≤ 40)) (hU : RU U) (hk : hget h w = some (.inr (7, [.ref r]))) (hd : w < r ∨ r + 9 ≤ w) (hn : nu < 60) (hp : -2147483648 ≤ p ∧ p < 2147483648) (hu : 0 ≤ u ∧ u < nu) (hv : 0 ≤ t ∧ t < nu) (hut : u < t ∨ t < u) (hg : -1 ≤ U (u * 11 + 4) ∧ U (u * 11 + 4) < 1000) (hg2 : -1 ≤ U (t * 11 + 4) ∧ U (t * 11 + 4) < 1000) (hi : i = if U (t * 11 + 4) ≤ U (u * 11 + 4) then u else t) : Call (d + 4) m_X6_joinUnits [.ref w, .int (iI p), .int (iI u), .int (iI t)] (wr h r dy nb B nu U np P nf F) Q = Q (.inl (some (.int (iI nu)))) (wr h r dy nb B (nu + 1) (rw11 (iup (iup U (u * 11 + 3) (tg np 7 P p 6)) (t * 11 + 3) (tg np 7 P p 6)) nu (mk (U (i * 11 + 0)) (U (i * 11 + 1)) (tg np 7 P p 6) (-1) (U (i * 11 + 4) + 1) p (r5 (U (u * 11 + 6) + U (t * 11 + 6)) (U (u * 11 + 7) + U (t * 11 + 7)) (U (u * 11 + 8) + U (t * 11 + 8)) (U (u * 11 + 9) + U (t * 11 + 9)) (U (u * 11 + 10) + U (t * 11 + 10))))) np P nf F) := by
  obtain ⟨⟨b1, b2⟩, ⟨u1, u2⟩, ⟨p1, p2⟩, f1, f2⟩ := id hw
  have ho : ∀ {dy nb nu np nf : Int} {B U P F : Int → Int}, hget (wr h r dy nb B nu U np P nf F) w = some (.inr (7, [.ref r])) := fun {dy nb nu np nf B U P F} => by rw [hw_n (by omega)]; exact hk
  have k1 : ∀ {v : Int}, 0 ≤ v ∧ v < nu → -1 ≤ U (v * 11 + 4) ∧ U (v * 11 + 4) < 1000 → -1 ≤ tg nu 11 (iup (iup U (u * 11 + 3) (tg np 7 P p 6)) (t * 11 + 3) (tg np 7 P p 6)) v 4 ∧ tg nu 11 (iup (iup U (u * 11 + 3) (tg np 7 P p 6)) (t * 11 + 3) (tg np 7 P p 6)) v 4 < 1000 := by
    intro v h1 h2
    rw [tg_in (by omega), cell_ne (by omega), cell_ne (by omega)]
    exact h2
  have k2 := k1 hu hg
  have k3 := k1 hv hg2
  unfold r5
  by_cases c : U (t * 11 + 4) ≤ U (u * 11 + 4)
  · rw [if_pos c] at hi
    subst hi
    simp (disch := (first | exact tgR (by assumption) | assumption | omega)) only [w_X6_joinUnits_0, w_X6_joinUnits_6, w_X6_joinUnits_12, w_X6_joinUnits_17, w_X6_joinUnits_22, w_X6_joinUnits_25, w_X6_joinUnits_29, w_X6_joinUnits_30, w_X6_joinUnits_39, w_X6_joinUnits_44, w_X6_joinUnits_50, w_X6_joinUnits_59, w_X6_joinUnits_65, w_X6_joinUnits_69, w_X6_joinUnits_75, w_X6_joinUnits_79, w_X6_joinUnits_85, c_X6_joinUnits, iI_add, iI_sub, iI_mul, iI_neg, iI_lt, iI_le, iI_eq, ne_eq, bI_e0, bI_e1, nor_em, bI_n0, bI_z, bI_zr, Classical.not_not, eq_self, true_or, or_true, false_or, or_false, if_true, if_false, ite_not, ↓reduceIte, dle_t, dle_f, dlt_t, dlt_f, deq_t, deq_f, Int.reduceEq, Int.reduceLT, Int.reduceLE, Int.reduceAdd, Int.reduceNeg, Nat.reduceAdd, bck_i, bck_v, r_sizeB, r_sizeU, r_sizeP, r_sizeF, r_hasB, r_hasU, r_hasP, r_getB, r_getU, r_getP, r_getF, r_putB, r_putU, r_putP, r_putF, eob_at, egf0, egf1, egf2, egf3, egf4, hw_0, hw_1, hw_3, hw_5, hw_7, rco, tbl, il_m1, il_0, il_1, il_2, il_3, il_4, il_5, il_6, il_7, il_8, il_9, il_10, il_11, il_12, il_13, il_14, il_26, il_28, il_30, il_32, il_35, il_40, il_43, il_44, il_48, il_50, il_52, il_57, il_58, il_59, il_60, il_61, il_64, il_65, il_70, il_78, il_95, il_97, il_99, il_100, il_101, il_102, il_106, il_115, il_117, il_660, il_812, il_999, il_1000, il_1092, il_8736, il_9999, k_endUnit, k_generationOf, k_bringChild, k_addArea, r_areaOf, uA_k, tg_in, rw_at, rw_ne, cell_ne, iup_rw, im_6, im_7, im_8, im_9, im_10, mk_6, mk_7, mk_8, mk_9, mk_10, iup_ne, iup_eq, Int.zero_add, ho]
  · rw [if_neg c] at hi
    subst hi
    simp (disch := (first | exact tgR (by assumption) | assumption | omega)) only [w_X6_joinUnits_0, w_X6_joinUnits_6, w_X6_joinUnits_12, w_X6_joinUnits_17, w_X6_joinUnits_22, w_X6_joinUnits_25, w_X6_joinUnits_29, w_X6_joinUnits_30, w_X6_joinUnits_39, w_X6_joinUnits_44, w_X6_joinUnits_50, w_X6_joinUnits_59, w_X6_joinUnits_65, w_X6_joinUnits_69, w_X6_joinUnits_75, w_X6_joinUnits_79, w_X6_joinUnits_85, c_X6_joinUnits, iI_add, iI_sub, iI_mul, iI_neg, iI_lt, iI_le, iI_eq, ne_eq, bI_e0, bI_e1, nor_em, bI_n0, bI_z, bI_zr, Classical.not_not, eq_self, true_or, or_true, false_or, or_false, if_true, if_false, ite_not, ↓reduceIte, dle_t, dle_f, dlt_t, dlt_f, deq_t, deq_f, Int.reduceEq, Int.reduceLT, Int.reduceLE, Int.reduceAdd, Int.reduceNeg, Nat.reduceAdd, bck_i, bck_v, r_sizeB, r_sizeU, r_sizeP, r_sizeF, r_hasB, r_hasU, r_hasP, r_getB, r_getU, r_getP, r_getF, r_putB, r_putU, r_putP, r_putF, eob_at, egf0, egf1, egf2, egf3, egf4, hw_0, hw_1, hw_3, hw_5, hw_7, rco, tbl, il_m1, il_0, il_1, il_2, il_3, il_4, il_5, il_6, il_7, il_8, il_9, il_10, il_11, il_12, il_13, il_14, il_26, il_28, il_30, il_32, il_35, il_40, il_43, il_44, il_48, il_50, il_52, il_57, il_58, il_59, il_60, il_61, il_64, il_65, il_70, il_78, il_95, il_97, il_99, il_100, il_101, il_102, il_106, il_115, il_117, il_660, il_812, il_999, il_1000, il_1092, il_8736, il_9999, k_endUnit, k_generationOf, k_bringChild, k_addArea, r_areaOf, uA_k, tg_in, rw_at, rw_ne, cell_ne, iup_rw, im_6, im_7, im_8, im_9, im_10, mk_6, mk_7, mk_8, mk_9, mk_10, iup_ne, iup_eq, Int.zero_add, ho]
theorem k_rest {g : Int32} {rm : Int → Int} (hw : (0 ≤ nb ∧ nb ≤ 4) ∧ (0 ≤ nu ∧ nu ≤ 60) ∧ (0 ≤ np ∧ np ≤ 40) ∧ (0 ≤ nf ∧ nf ≤ 40)) (hk : hget h w = some (.inr (7, [.ref r]))) (hd : w < r ∨ r + 9 ≤ w) (hu : 0 ≤ u ∧ u < nu) (hA : ∀ k, 0 ≤ k → k < 5 → 0 ≤ tg nu 11 U u (6 + k) ∧ tg nu 11 U u (6 + k) ≤ 40000) (hS : 0 < uS nu U u) (hx : 0 ≤ x ∧ x ≤ 999)
    (hr : ∀ k, 0 ≤ k → k < 5 → (gv g k → rm k = (tg nu 11 U u (6 + k) * x).tmod (uS nu U u)) ∧ (¬ gv g k → rm k = -1)) : Call (d + 2) m_X6_useOfGreatestRest [.ref w, .int (iI u), .int (iI x), .int g] (wr h r dy nb B nu U np P nf F) Q = Q (.inl (some (.int (iI (amax rm))))) (wr h r dy nb B nu U np P nf F) := by
  obtain ⟨⟨b1, b2⟩, ⟨u1, u2⟩, ⟨p1, p2⟩, f1, f2⟩ := id hw
  have ho : ∀ {dy nb nu np nf : Int} {B U P F : Int → Int}, hget (wr h r dy nb B nu U np P nf F) w = some (.inr (7, [.ref r])) := fun {dy nb nu np nf B U P F} => by rw [hw_n (by omega)]; exact hk
  have hS2 : uS nu U u ≤ 200000 := by
    have a0 := hA 0 (by omega) (by omega)
    have a1 := hA 1 (by omega) (by omega)
    have a2 := hA 2 (by omega) (by omega)
    have a3 := hA 3 (by omega) (by omega)
    have a4 := hA 4 (by omega) (by omega)
    unfold uS
    simp only [Int.reduceAdd] at a0 a1 a2 a3 a4
    omega
  have hM : ∀ k, 0 ≤ k → k < 5 → 0 ≤ tg nu 11 U u (6 + k) * x ∧ tg nu 11 U u (6 + k) * x ≤ 40000000 := by
    intro k h1 h2
    have h3 := hA k h1 h2
    have h4 := Int.mul_nonneg h3.1 hx.1
    have h5 := Int.mul_le_mul h3.2 hx.2 hx.1 (by omega)
    omega
  have hT : ∀ k, 0 ≤ k → k < 5 → 0 ≤ (tg nu 11 U u (6 + k) * x).tmod (uS nu U u) ∧ (tg nu 11 U u (6 + k) * x).tmod (uS nu U u) < 200000 := by
    intro k h1 h2
    have h3 := hM k h1 h2
    rw [Int.tmod_eq_emod_of_nonneg h3.1]
    have h4 := Int.emod_nonneg (tg nu 11 U u (6 + k) * x) (show uS nu U u ≠ 0 by omega)
    have h5 := Int.emod_lt_of_pos (tg nu 11 U u (6 + k) * x) hS
    omega
  have hR : ∀ k, 0 ≤ k → k < 5 → -1 ≤ rm k ∧ rm k < 200000 := by
    intro k h1 h2
    have h3 := hT k h1 h2
    by_cases c : gv g k
    · rw [(hr k h1 h2).1 c]; omega
    · rw [(hr k h1 h2).2 c]; omega
  simp (disch := (first | exact tgR (by assumption) | assumption | omega)) only [w_X6_useOfGreatestRest_0, w_X6_useOfGreatestRest_4, w_X6_useOfGreatestRest_9, w_X6_useOfGreatestRest_26, w_X6_useOfGreatestRest_31, w_X6_useOfGreatestRest_35, w_X6_useOfGreatestRest_41, w_X6_useOfGreatestRest_46, w_X6_useOfGreatestRest_49, w_X6_useOfGreatestRest_50, w_X6_useOfGreatestRest_61, w_X6_useOfGreatestRest_68, w_X6_useOfGreatestRest_76, w_X6_useOfGreatestRest_82, c_X6_useOfGreatestRest, iI_add, iI_sub, iI_mul, iI_neg, iI_lt, iI_le, iI_eq, ne_eq, bI_e0, bI_e1, nor_em, bI_n0, bI_z, bI_zr, Classical.not_not, eq_self, true_or, or_true, false_or, or_false, if_true, if_false, ite_not, ↓reduceIte, dle_t, dle_f, dlt_t, dlt_f, deq_t, deq_f, Int.reduceEq, Int.reduceLT, Int.reduceLE, Int.reduceAdd, Int.reduceNeg, Nat.reduceAdd, bck_i, bck_v, r_sizeB, r_sizeU, r_sizeP, r_sizeF, r_hasB, r_hasU, r_hasP, r_getB, r_getU, r_getP, r_getF, r_putB, r_putU, r_putP, r_putF, eob_at, egf0, egf1, egf2, egf3, egf4, hw_0, hw_1, hw_3, hw_5, hw_7, rco, tbl, il_m1, il_0, il_1, il_2, il_3, il_4, il_5, il_6, il_7, il_8, il_9, il_10, il_11, il_12, il_13, il_14, il_26, il_28, il_30, il_32, il_35, il_40, il_43, il_44, il_48, il_50, il_52, il_57, il_58, il_59, il_60, il_61, il_64, il_65, il_70, il_78, il_95, il_97, il_99, il_100, il_101, il_102, il_106, il_115, il_117, il_660, il_812, il_999, il_1000, il_1092, il_8736, il_9999, r_areaOf, uA_m1, ho]
  have step : ∀ k, 0 ≤ k → k < 5 → ∀ (y m : Int) (l8 : Value), -1 ≤ y ∧ y < 200000 → (∃ l8' : Value, EvQ (d + 1 + 1) m_X6_useOfGreatestRest 20 [.ref w, .int (iI u), .int (iI x), .int g, .int (iI (uS nu U u)), .int (iI y), .int (iI m), .int (iI k), l8] [] (wr h r dy nb B nu U np P nf F) Q = EvQ (d + 1 + 1) m_X6_useOfGreatestRest 20 [.ref w, .int (iI u), .int (iI x), .int g, .int (iI (uS nu U u)), .int (iI (if y < rm k then rm k else y)), .int (iI (if y < rm k then k else m)), .int (iI (k + 1)), l8'] [] (wr h r dy nb B nu U np P nf F) Q) := by
    intro k h1 h2 y m l8 hy
    have q1 := hM k h1 h2
    have q2 := hT k h1 h2
    have q3 := hr k h1 h2
    rw [w_X6_useOfGreatestRest_20]
    by_cases c : (g >>> (iI k &&& 31)) &&& iI 1 = iI 0
    · have e := q3.1 c
      by_cases c2 : y < rm k
      · rw [if_pos c2, if_pos c2, e]
        rw [e] at c2
        exact ⟨_, by simp (disch := (first | exact tgR (by assumption) | assumption | omega)) only [w_X6_useOfGreatestRest_0, w_X6_useOfGreatestRest_4, w_X6_useOfGreatestRest_9, w_X6_useOfGreatestRest_26, w_X6_useOfGreatestRest_31, w_X6_useOfGreatestRest_35, w_X6_useOfGreatestRest_41, w_X6_useOfGreatestRest_46, w_X6_useOfGreatestRest_49, w_X6_useOfGreatestRest_50, w_X6_useOfGreatestRest_61, w_X6_useOfGreatestRest_68, w_X6_useOfGreatestRest_76, w_X6_useOfGreatestRest_82, c_X6_useOfGreatestRest, iI_add, iI_sub, iI_mul, iI_neg, iI_lt, iI_le, iI_eq, ne_eq, bI_e0, bI_e1, nor_em, bI_n0, bI_z, bI_zr, Classical.not_not, eq_self, true_or, or_true, false_or, or_false, if_true, if_false, ite_not, ↓reduceIte, dle_t, dle_f, dlt_t, dlt_f, deq_t, deq_f, Int.reduceEq, Int.reduceLT, Int.reduceLE, Int.reduceAdd, Int.reduceNeg, Nat.reduceAdd, bck_i, bck_v, r_sizeB, r_sizeU, r_sizeP, r_sizeF, r_hasB, r_hasU, r_hasP, r_getB, r_getU, r_getP, r_getF, r_putB, r_putU, r_putP, r_putF, eob_at, egf0, egf1, egf2, egf3, egf4, hw_0, hw_1, hw_3, hw_5, hw_7, rco, tbl, il_m1, il_0, il_1, il_2, il_3, il_4, il_5, il_6, il_7, il_8, il_9, il_10, il_11, il_12, il_13, il_14, il_26, il_28, il_30, il_32, il_35, il_40, il_43, il_44, il_48, il_50, il_52, il_57, il_58, il_59, il_60, il_61, il_64, il_65, il_70, il_78, il_95, il_97, il_99, il_100, il_101, il_102, il_106, il_115, il_117, il_660, il_812, il_999, il_1000, il_1092, il_8736, il_9999, r_areaOf, uA_k, iI_mod, c, ho]; exact rfl⟩
      · rw [if_neg c2, if_neg c2]
        rw [e] at c2
        exact ⟨_, by simp (disch := (first | exact tgR (by assumption) | assumption | omega)) only [w_X6_useOfGreatestRest_0, w_X6_useOfGreatestRest_4, w_X6_useOfGreatestRest_9, w_X6_useOfGreatestRest_26, w_X6_useOfGreatestRest_31, w_X6_useOfGreatestRest_35, w_X6_useOfGreatestRest_41, w_X6_useOfGreatestRest_46, w_X6_useOfGreatestRest_49, w_X6_useOfGreatestRest_50, w_X6_useOfGreatestRest_61, w_X6_useOfGreatestRest_68, w_X6_useOfGreatestRest_76, w_X6_useOfGreatestRest_82, c_X6_useOfGreatestRest, iI_add, iI_sub, iI_mul, iI_neg, iI_lt, iI_le, iI_eq, ne_eq, bI_e0, bI_e1, nor_em, bI_n0, bI_z, bI_zr, Classical.not_not, eq_self, true_or, or_true, false_or, or_false, if_true, if_false, ite_not, ↓reduceIte, dle_t, dle_f, dlt_t, dlt_f, deq_t, deq_f, Int.reduceEq, Int.reduceLT, Int.reduceLE, Int.reduceAdd, Int.reduceNeg, Nat.reduceAdd, bck_i, bck_v, r_sizeB, r_sizeU, r_sizeP, r_sizeF, r_hasB, r_hasU, r_hasP, r_getB, r_getU, r_getP, r_getF, r_putB, r_putU, r_putP, r_putF, eob_at, egf0, egf1, egf2, egf3, egf4, hw_0, hw_1, hw_3, hw_5, hw_7, rco, tbl, il_m1, il_0, il_1, il_2, il_3, il_4, il_5, il_6, il_7, il_8, il_9, il_10, il_11, il_12, il_13, il_14, il_26, il_28, il_30, il_32, il_35, il_40, il_43, il_44, il_48, il_50, il_52, il_57, il_58, il_59, il_60, il_61, il_64, il_65, il_70, il_78, il_95, il_97, il_99, il_100, il_101, il_102, il_106, il_115, il_117, il_660, il_812, il_999, il_1000, il_1092, il_8736, il_9999, r_areaOf, uA_k, iI_mod, c, ho]; exact rfl⟩
    · have e := q3.2 c
      have c2 : ¬ y < rm k := by omega
      rw [if_neg c2, if_neg c2]
      exact ⟨_, by simp (disch := (first | exact tgR (by assumption) | assumption | omega)) only [w_X6_useOfGreatestRest_0, w_X6_useOfGreatestRest_4, w_X6_useOfGreatestRest_9, w_X6_useOfGreatestRest_26, w_X6_useOfGreatestRest_31, w_X6_useOfGreatestRest_35, w_X6_useOfGreatestRest_41, w_X6_useOfGreatestRest_46, w_X6_useOfGreatestRest_49, w_X6_useOfGreatestRest_50, w_X6_useOfGreatestRest_61, w_X6_useOfGreatestRest_68, w_X6_useOfGreatestRest_76, w_X6_useOfGreatestRest_82, c_X6_useOfGreatestRest, iI_add, iI_sub, iI_mul, iI_neg, iI_lt, iI_le, iI_eq, ne_eq, bI_e0, bI_e1, nor_em, bI_n0, bI_z, bI_zr, Classical.not_not, eq_self, true_or, or_true, false_or, or_false, if_true, if_false, ite_not, ↓reduceIte, dle_t, dle_f, dlt_t, dlt_f, deq_t, deq_f, Int.reduceEq, Int.reduceLT, Int.reduceLE, Int.reduceAdd, Int.reduceNeg, Nat.reduceAdd, bck_i, bck_v, r_sizeB, r_sizeU, r_sizeP, r_sizeF, r_hasB, r_hasU, r_hasP, r_getB, r_getU, r_getP, r_getF, r_putB, r_putU, r_putP, r_putF, eob_at, egf0, egf1, egf2, egf3, egf4, hw_0, hw_1, hw_3, hw_5, hw_7, rco, tbl, il_m1, il_0, il_1, il_2, il_3, il_4, il_5, il_6, il_7, il_8, il_9, il_10, il_11, il_12, il_13, il_14, il_26, il_28, il_30, il_32, il_35, il_40, il_43, il_44, il_48, il_50, il_52, il_57, il_58, il_59, il_60, il_61, il_64, il_65, il_70, il_78, il_95, il_97, il_99, il_100, il_101, il_102, il_106, il_115, il_117, il_660, il_812, il_999, il_1000, il_1092, il_8736, il_9999, r_areaOf, uA_k, iI_mod, c, not_false_eq_true, ho]; exact rfl⟩
  have hfin : ∀ (m : Int) (l8 : Value) (y : Int), EvQ (d + 1 + 1) m_X6_useOfGreatestRest 20 [.ref w, .int (iI u), .int (iI x), .int g, .int (iI (uS nu U u)), .int (iI y), .int (iI m), .int (iI 5), l8] [] (wr h r dy nb B nu U np P nf F) Q = Q (.inl (some (.int (iI m)))) (wr h r dy nb B nu U np P nf F) := by
    intro m l8 y
    rw [w_X6_useOfGreatestRest_20]
    simp (disch := (first | exact tgR (by assumption) | assumption | omega)) only [w_X6_useOfGreatestRest_0, w_X6_useOfGreatestRest_4, w_X6_useOfGreatestRest_9, w_X6_useOfGreatestRest_26, w_X6_useOfGreatestRest_31, w_X6_useOfGreatestRest_35, w_X6_useOfGreatestRest_41, w_X6_useOfGreatestRest_46, w_X6_useOfGreatestRest_49, w_X6_useOfGreatestRest_50, w_X6_useOfGreatestRest_61, w_X6_useOfGreatestRest_68, w_X6_useOfGreatestRest_76, w_X6_useOfGreatestRest_82, c_X6_useOfGreatestRest, iI_add, iI_sub, iI_mul, iI_neg, iI_lt, iI_le, iI_eq, ne_eq, bI_e0, bI_e1, nor_em, bI_n0, bI_z, bI_zr, Classical.not_not, eq_self, true_or, or_true, false_or, or_false, if_true, if_false, ite_not, ↓reduceIte, dle_t, dle_f, dlt_t, dlt_f, deq_t, deq_f, Int.reduceEq, Int.reduceLT, Int.reduceLE, Int.reduceAdd, Int.reduceNeg, Nat.reduceAdd, bck_i, bck_v, r_sizeB, r_sizeU, r_sizeP, r_sizeF, r_hasB, r_hasU, r_hasP, r_getB, r_getU, r_getP, r_getF, r_putB, r_putU, r_putP, r_putF, eob_at, egf0, egf1, egf2, egf3, egf4, hw_0, hw_1, hw_3, hw_5, hw_7, rco, tbl, il_m1, il_0, il_1, il_2, il_3, il_4, il_5, il_6, il_7, il_8, il_9, il_10, il_11, il_12, il_13, il_14, il_26, il_28, il_30, il_32, il_35, il_40, il_43, il_44, il_48, il_50, il_52, il_57, il_58, il_59, il_60, il_61, il_64, il_65, il_70, il_78, il_95, il_97, il_99, il_100, il_101, il_102, il_106, il_115, il_117, il_660, il_812, il_999, il_1000, il_1092, il_8736, il_9999]
  have key := lpI (n := 5) (I := fun k a => 0 ≤ a.1 ∧ a.1 < 5) (E := fun k (a : Int × Value) => EvQ (d + 1 + 1) m_X6_useOfGreatestRest 20 [.ref w, .int (iI u), .int (iI x), .int g, .int (iI (uS nu U u)), .int (iI (rm a.1)), .int (iI a.1), .int (iI k), a.2] [] (wr h r dy nb B nu U np P nf F) Q) (V := fun k a => Q (.inl (some (.int (iI (amk rm (5 - k).toNat k a.1))))) (wr h r dy nb B nu U np P nf F)) (fun a _ => hfin _ _ _) ?_
  · obtain ⟨l8, e⟩ := step 0 (by omega) (by omega) (-1) 0 xjunk (by omega)
    rw [e]
    have h0 := hR 0 (by omega) (by omega)
    by_cases c : -1 < rm 0
    · rw [if_pos c, if_pos c]
      exact key 1 (0, l8) (by omega) (by omega) (by omega)
    · rw [if_neg c, if_neg c]
      have e0 : (-1 : Int) = rm 0 := by omega
      rw [e0]
      exact key 1 (0, l8) (by omega) (by omega) (by omega)
  · rintro k ⟨m, l8⟩ h0 h1 hm ih
    try dsimp only at ih hm ⊢
    have hb := hR m hm.1 hm.2
    obtain ⟨l8', e⟩ := step k h0 h1 (rm m) m l8 hb
    rw [e, show (5 - k).toNat = (5 - (k + 1)).toNat + 1 by omega]
    unfold amk
    by_cases c : rm m < rm k
    · rw [if_pos c, if_pos c]
      exact ih (k, l8') ⟨h0, h1⟩
    · rw [if_neg c, if_neg c]
      exact ih (m, l8') hm
end Works
