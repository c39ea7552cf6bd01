set_option maxRecDepth 20000
/-! The Model: remembering, undoing, saving, restoring. -/
theorem nar_congr {n : Nat} {f g : Int → Int} (h : ∀ k : Int, 0 ≤ k → k < n → f k = g k) : nar n f = nar n g := by
  unfold nar
  refine congrArg (fun z => (Sum.inl (0, n, Sum.inl z) : va_E)) (funext fun k => ?_)
  by_cases c : (k : Int) < n
  · rw [if_pos c, if_pos c, h k (by omega) c]
  · rw [if_neg c, if_neg c]
/-- the first i numbers of X, the rest of Y -/
def cpp (Y X : Int → Int) (i : Int) : Int → Int := fun k => if 0 ≤ k ∧ k < i then X k else Y k
theorem cpp_0 {Y X : Int → Int} : cpp Y X 0 = Y := funext fun k => if_neg (by omega)
theorem cpp_s {Y X : Int → Int} {i : Int} (h : 0 ≤ i) : iup (cpp Y X i) i (X i) = cpp Y X (i + 1) := by
  funext k
  unfold iup cpp
  by_cases c : k = i
  · rw [if_pos c, if_pos (by omega), c]
  · rw [if_neg c]
    by_cases c2 : 0 ≤ k ∧ k < i
    · rw [if_pos c2, if_pos (by omega)]
    · rw [if_neg c2, if_neg (by omega)]
/-- the states but the oldest -/
def sh8 (A : Int → Int) : Int → Int := cpp A (fun k => A (k + 1092)) 7644
/-- a state put at place m -/
def put1 (A : Int → Int) (m : Int) (G : Int → Int) (i : Int) : Int → Int := fun k => if 1092 * m ≤ k ∧ k < 1092 * m + i then G (k - 1092 * m) else A k
theorem put1_0 {A : Int → Int} {m : Int} {G : Int → Int} : put1 A m G 0 = A := funext fun k => if_neg (by omega)
theorem put1_s {A : Int → Int} {m : Int} {G : Int → Int} {i : Int} (h : 0 ≤ i) : iup (put1 A m G i) (1092 * m + i) (G i) = put1 A m G (i + 1) := by
  funext k
  unfold iup put1
  by_cases c : k = 1092 * m + i
  · rw [if_pos c, if_pos (by omega), c]
    exact congrArg G (by omega)
  · rw [if_neg c]
    by_cases c2 : 1092 * m ≤ k ∧ k < 1092 * m + i
    · rw [if_pos c2, if_pos (by omega)]
    · rw [if_neg c2, if_neg (by omega)]
def pmA (A : Int → Int) (pm : Int) (G : Int → Int) : Int → Int := if pm = 8 then put1 (sh8 A) 7 G 1092 else put1 A pm G 1092
section M7
variable {d : Nat} {h : XH} {G A : Int → Int} {pm : Int} {S : Int → Int} {iv : Int32} {tw ke er : Int} {I : Int → Int} {ty : Int} {ab pt rm : Int → Int} {en aa : Int} {iw : Int32} {kd n1 n2 n3 n4 : Int} {gd : Int32} {Q : XO → XH → Prop} {dy nb nu np nf : Int} {B U P F : Int → Int} {b f u p i j x y z t k : Int}
theorem wm_G {X : Int → Int} (h' : ∀ k : Int, 0 ≤ k → k < 1092 → G k = X k) : wm h G A pm S iv tw ke er I ty ab pt rm en aa iw kd n1 n2 n3 n4 gd = wm h X A pm S iv tw ke er I ty ab pt rm en aa iw kd n1 n2 n3 n4 gd := by
  unfold wm
  rw [nar_congr (n := 1092) h']
theorem wm_S {X : Int → Int} (h' : ∀ k : Int, 0 ≤ k → k < 1092 → S k = X k) : wm h G A pm S iv tw ke er I ty ab pt rm en aa iw kd n1 n2 n3 n4 gd = wm h G A pm X iv tw ke er I ty ab pt rm en aa iw kd n1 n2 n3 n4 gd := by
  unfold wm
  rw [nar_congr (n := 1092) h']
theorem m_remC (hm : 0 ≤ pm ∧ pm < 8) : EvQ d m_X8_remember 57 [.ref 109, .int (iI 0)] [] (wm h G A pm S iv tw ke er I ty ab pt rm en aa iw kd n1 n2 n3 n4 gd) Q = Q (.inl none) (wm h G (put1 A pm G 1092) (pm + 1) S iv tw ke er I ty ab pt rm en aa iw kd n1 n2 n3 n4 gd) := by
  have key := lp (n := 1092) (E := fun i (_ : Unit) => EvQ d m_X8_remember 57 [.ref 109, .int (iI i)] [] (wm h G (put1 A pm G i) pm S iv tw ke er I ty ab pt rm en aa iw kd n1 n2 n3 n4 gd) Q) (V := fun i _ => Q (.inl none) (wm h G (put1 A pm G 1092) (pm + 1) S iv tw ke er I ty ab pt rm en aa iw kd n1 n2 n3 n4 gd)) ?_ ?_ 0 () (by omega) (by omega)
  · rw [put1_0] at key
    exact key
  · intro _
    rw [w_X8_remember_57]
    simp (disch := (first | exact tgR (by assumption) | assumption | omega | with_unfolding_all rfl)) only [w_X8_remember_0, w_X8_remember_4, w_X8_remember_9, w_X8_remember_14, w_X8_remember_19, w_X8_remember_29, w_X8_remember_33, w_X8_remember_37, w_X8_remember_42, w_X8_remember_48, w_X8_remember_49, w_X8_remember_55, w_X8_remember_64, w_X8_remember_68, w_X8_remember_75, w_X8_remember_82, w_X8_remember_84, w_X8_remember_85, w_X8_remember_91, w_X8_remember_96, w_X8_remember_101, c_X8_remember, iI_add, iI_sub, iI_mul, iI_neg, iI_lt, iI_le, iI_eq, ne_eq, bI_e0, bI_e1, nor_em, bI_n0, bI_z, bI_zr, Classical.not_not, eq_self, true_or, or_true, false_or, or_false, if_true, if_false, ite_not, ↓reduceIte, dle_t, dle_f, dlt_t, dlt_f, deq_t, deq_f, Int.reduceEq, Int.reduceLT, Int.reduceLE, Int.reduceAdd, Int.reduceNeg, Nat.reduceAdd, bck_i, bck_v, r_sizeB, r_sizeU, r_sizeP, r_sizeF, r_hasB, r_hasU, r_hasP, r_getB, r_getU, r_getP, r_getF, r_putB, r_putU, r_putP, r_putF, eob_at, egf0, egf1, egf2, egf3, egf4, hw_0, hw_1, hw_3, hw_5, hw_7, rco, tbl, xm_109, xm_110, xm_111, xm_112, xm_113, xm_114, xm_115, xm_116, pm_o, epm_2, epm_5, epm_6, epm_7, epm_9, epm_13, epm_14, epm_16, epm_17, epm_18, epm_19, epm_20, epm_4t, epm_4f, epm_4b, epm_15t, epm_15f, epm_15b, epm_21t, epm_21f, epm_21b, egf12, egf13, egf14, egf15, egf16, egf17, egf18, egf19, egf20, egf21, il_15, and_self, and_true, true_and, and_false, false_and, egf5, egf6, egf7, egf8, egf9, egf10, egf11, il_m1, il_0, il_1, il_2, il_3, il_4, il_5, il_6, il_7, il_8, il_9, il_10, il_11, il_12, il_13, il_14, il_26, il_28, il_30, il_32, il_35, il_40, il_43, il_44, il_48, il_50, il_52, il_57, il_58, il_59, il_60, il_61, il_64, il_65, il_70, il_78, il_95, il_97, il_99, il_100, il_101, il_102, il_106, il_115, il_117, il_660, il_812, il_999, il_1000, il_1092, il_8736, il_9999]
  · intro i _ h0 h1 ih
    have ih := ih ()
    rw [w_X8_remember_57]
    simp (disch := (first | exact tgR (by assumption) | assumption | omega | with_unfolding_all rfl)) only [w_X8_remember_0, w_X8_remember_4, w_X8_remember_9, w_X8_remember_14, w_X8_remember_19, w_X8_remember_29, w_X8_remember_33, w_X8_remember_37, w_X8_remember_42, w_X8_remember_48, w_X8_remember_49, w_X8_remember_55, w_X8_remember_64, w_X8_remember_68, w_X8_remember_75, w_X8_remember_82, w_X8_remember_84, w_X8_remember_85, w_X8_remember_91, w_X8_remember_96, w_X8_remember_101, c_X8_remember, iI_add, iI_sub, iI_mul, iI_neg, iI_lt, iI_le, iI_eq, ne_eq, bI_e0, bI_e1, nor_em, bI_n0, bI_z, bI_zr, Classical.not_not, eq_self, true_or, or_true, false_or, or_false, if_true, if_false, ite_not, ↓reduceIte, dle_t, dle_f, dlt_t, dlt_f, deq_t, deq_f, Int.reduceEq, Int.reduceLT, Int.reduceLE, Int.reduceAdd, Int.reduceNeg, Nat.reduceAdd, bck_i, bck_v, r_sizeB, r_sizeU, r_sizeP, r_sizeF, r_hasB, r_hasU, r_hasP, r_getB, r_getU, r_getP, r_getF, r_putB, r_putU, r_putP, r_putF, eob_at, egf0, egf1, egf2, egf3, egf4, hw_0, hw_1, hw_3, hw_5, hw_7, rco, tbl, xm_109, xm_110, xm_111, xm_112, xm_113, xm_114, xm_115, xm_116, pm_o, epm_2, epm_5, epm_6, epm_7, epm_9, epm_13, epm_14, epm_16, epm_17, epm_18, epm_19, epm_20, epm_4t, epm_4f, epm_4b, epm_15t, epm_15f, epm_15b, epm_21t, epm_21f, epm_21b, egf12, egf13, egf14, egf15, egf16, egf17, egf18, egf19, egf20, egf21, il_15, and_self, and_true, true_and, and_false, false_and, egf5, egf6, egf7, egf8, egf9, egf10, egf11, il_m1, il_0, il_1, il_2, il_3, il_4, il_5, il_6, il_7, il_8, il_9, il_10, il_11, il_12, il_13, il_14, il_26, il_28, il_30, il_32, il_35, il_40, il_43, il_44, il_48, il_50, il_52, il_57, il_58, il_59, il_60, il_61, il_64, il_65, il_70, il_78, il_95, il_97, il_99, il_100, il_101, il_102, il_106, il_115, il_117, il_660, il_812, il_999, il_1000, il_1092, il_8736, il_9999, ega_n, epa_n, pm_111, put1_s]
    exact ih
theorem m_remember (hm : 0 ≤ pm ∧ pm ≤ 8) : Call d m_X8_remember [.ref 109] (wm h G A pm S iv tw ke er I ty ab pt rm en aa iw kd n1 n2 n3 n4 gd) Q = Q (.inl none) (wm h G (pmA A pm G) ((if pm = 8 then 7 else pm) + 1) S iv tw ke er I ty ab pt rm en aa iw kd n1 n2 n3 n4 gd) := by
  unfold pmA
  by_cases c : pm = 8
  · subst c
    rw [if_pos rfl, if_pos rfl]
    simp (disch := (first | exact tgR (by assumption) | assumption | omega | with_unfolding_all rfl)) only [w_X8_remember_0, w_X8_remember_4, w_X8_remember_9, w_X8_remember_14, w_X8_remember_19, w_X8_remember_29, w_X8_remember_33, w_X8_remember_37, w_X8_remember_42, w_X8_remember_48, w_X8_remember_49, w_X8_remember_55, w_X8_remember_64, w_X8_remember_68, w_X8_remember_75, w_X8_remember_82, w_X8_remember_84, w_X8_remember_85, w_X8_remember_91, w_X8_remember_96, w_X8_remember_101, c_X8_remember, iI_add, iI_sub, iI_mul, iI_neg, iI_lt, iI_le, iI_eq, ne_eq, bI_e0, bI_e1, nor_em, bI_n0, bI_z, bI_zr, Classical.not_not, eq_self, true_or, or_true, false_or, or_false, if_true, if_false, ite_not, ↓reduceIte, dle_t, dle_f, dlt_t, dlt_f, deq_t, deq_f, Int.reduceEq, Int.reduceLT, Int.reduceLE, Int.reduceAdd, Int.reduceNeg, Nat.reduceAdd, bck_i, bck_v, r_sizeB, r_sizeU, r_sizeP, r_sizeF, r_hasB, r_hasU, r_hasP, r_getB, r_getU, r_getP, r_getF, r_putB, r_putU, r_putP, r_putF, eob_at, egf0, egf1, egf2, egf3, egf4, hw_0, hw_1, hw_3, hw_5, hw_7, rco, tbl, xm_109, xm_110, xm_111, xm_112, xm_113, xm_114, xm_115, xm_116, pm_o, epm_2, epm_5, epm_6, epm_7, epm_9, epm_13, epm_14, epm_16, epm_17, epm_18, epm_19, epm_20, epm_4t, epm_4f, epm_4b, epm_15t, epm_15f, epm_15b, epm_21t, epm_21f, epm_21b, egf12, egf13, egf14, egf15, egf16, egf17, egf18, egf19, egf20, egf21, il_15, and_self, and_true, true_and, and_false, false_and, egf5, egf6, egf7, egf8, egf9, egf10, egf11, il_m1, il_0, il_1, il_2, il_3, il_4, il_5, il_6, il_7, il_8, il_9, il_10, il_11, il_12, il_13, il_14, il_26, il_28, il_30, il_32, il_35, il_40, il_43, il_44, il_48, il_50, il_52, il_57, il_58, il_59, il_60, il_61, il_64, il_65, il_70, il_78, il_95, il_97, il_99, il_100, il_101, il_102, il_106, il_115, il_117, il_660, il_812, il_999, il_1000, il_1092, il_8736, il_9999]
    have key := lp (n := 7644) (E := fun i (_ : Unit) => EvQ d m_X8_remember 21 [.ref 109, .int (iI i)] [] (wm h G (cpp A (fun k => A (k + 1092)) i) 7 S iv tw ke er I ty ab pt rm en aa iw kd n1 n2 n3 n4 gd) Q) (V := fun i _ => Q (.inl none) (wm h G (put1 (sh8 A) 7 G 1092) (7 + 1) S iv tw ke er I ty ab pt rm en aa iw kd n1 n2 n3 n4 gd)) ?_ ?_ 0 () (by omega) (by omega)
    · rw [cpp_0] at key
      exact key
    · intro _
      rw [w_X8_remember_21]
      simp (disch := (first | exact tgR (by assumption) | assumption | omega | with_unfolding_all rfl)) only [w_X8_remember_0, w_X8_remember_4, w_X8_remember_9, w_X8_remember_14, w_X8_remember_19, w_X8_remember_29, w_X8_remember_33, w_X8_remember_37, w_X8_remember_42, w_X8_remember_48, w_X8_remember_49, w_X8_remember_55, w_X8_remember_64, w_X8_remember_68, w_X8_remember_75, w_X8_remember_82, w_X8_remember_84, w_X8_remember_85, w_X8_remember_91, w_X8_remember_96, w_X8_remember_101, c_X8_remember, iI_add, iI_sub, iI_mul, iI_neg, iI_lt, iI_le, iI_eq, ne_eq, bI_e0, bI_e1, nor_em, bI_n0, bI_z, bI_zr, Classical.not_not, eq_self, true_or, or_true, false_or, or_false, if_true, if_false, ite_not, ↓reduceIte, dle_t, dle_f, dlt_t, dlt_f, deq_t, deq_f, Int.reduceEq, Int.reduceLT, Int.reduceLE, Int.reduceAdd, Int.reduceNeg, Nat.reduceAdd, bck_i, bck_v, r_sizeB, r_sizeU, r_sizeP, r_sizeF, r_hasB, r_hasU, r_hasP, r_getB, r_getU, r_getP, r_getF, r_putB, r_putU, r_putP, r_putF, eob_at, egf0, egf1, egf2, egf3, egf4, hw_0, hw_1, hw_3, hw_5, hw_7, rco, tbl, xm_109, xm_110, xm_111, xm_112, xm_113, xm_114, xm_115, xm_116, pm_o, epm_2, epm_5, epm_6, epm_7, epm_9, epm_13, epm_14, epm_16, epm_17, epm_18, epm_19, epm_20, epm_4t, epm_4f, epm_4b, epm_15t, epm_15f, epm_15b, epm_21t, epm_21f, epm_21b, egf12, egf13, egf14, egf15, egf16, egf17, egf18, egf19, egf20, egf21, il_15, and_self, and_true, true_and, and_false, false_and, egf5, egf6, egf7, egf8, egf9, egf10, egf11, il_m1, il_0, il_1, il_2, il_3, il_4, il_5, il_6, il_7, il_8, il_9, il_10, il_11, il_12, il_13, il_14, il_26, il_28, il_30, il_32, il_35, il_40, il_43, il_44, il_48, il_50, il_52, il_57, il_58, il_59, il_60, il_61, il_64, il_65, il_70, il_78, il_95, il_97, il_99, il_100, il_101, il_102, il_106, il_115, il_117, il_660, il_812, il_999, il_1000, il_1092, il_8736, il_9999]
      exact m_remC (by omega)
    · intro i _ h0 h1 ih
      have ih := ih ()
      have e : cpp A (fun k => A (k + 1092)) i (i + 1092) = A (i + 1092) := if_neg (by omega)
      have es := cpp_s (Y := A) (X := fun k => A (k + 1092)) (i := i) h0
      rw [w_X8_remember_21]
      simp (disch := (first | exact tgR (by assumption) | assumption | omega | with_unfolding_all rfl)) only [w_X8_remember_0, w_X8_remember_4, w_X8_remember_9, w_X8_remember_14, w_X8_remember_19, w_X8_remember_29, w_X8_remember_33, w_X8_remember_37, w_X8_remember_42, w_X8_remember_48, w_X8_remember_49, w_X8_remember_55, w_X8_remember_64, w_X8_remember_68, w_X8_remember_75, w_X8_remember_82, w_X8_remember_84, w_X8_remember_85, w_X8_remember_91, w_X8_remember_96, w_X8_remember_101, c_X8_remember, iI_add, iI_sub, iI_mul, iI_neg, iI_lt, iI_le, iI_eq, ne_eq, bI_e0, bI_e1, nor_em, bI_n0, bI_z, bI_zr, Classical.not_not, eq_self, true_or, or_true, false_or, or_false, if_true, if_false, ite_not, ↓reduceIte, dle_t, dle_f, dlt_t, dlt_f, deq_t, deq_f, Int.reduceEq, Int.reduceLT, Int.reduceLE, Int.reduceAdd, Int.reduceNeg, Nat.reduceAdd, bck_i, bck_v, r_sizeB, r_sizeU, r_sizeP, r_sizeF, r_hasB, r_hasU, r_hasP, r_getB, r_getU, r_getP, r_getF, r_putB, r_putU, r_putP, r_putF, eob_at, egf0, egf1, egf2, egf3, egf4, hw_0, hw_1, hw_3, hw_5, hw_7, rco, tbl, xm_109, xm_110, xm_111, xm_112, xm_113, xm_114, xm_115, xm_116, pm_o, epm_2, epm_5, epm_6, epm_7, epm_9, epm_13, epm_14, epm_16, epm_17, epm_18, epm_19, epm_20, epm_4t, epm_4f, epm_4b, epm_15t, epm_15f, epm_15b, epm_21t, epm_21f, epm_21b, egf12, egf13, egf14, egf15, egf16, egf17, egf18, egf19, egf20, egf21, il_15, and_self, and_true, true_and, and_false, false_and, egf5, egf6, egf7, egf8, egf9, egf10, egf11, il_m1, il_0, il_1, il_2, il_3, il_4, il_5, il_6, il_7, il_8, il_9, il_10, il_11, il_12, il_13, il_14, il_26, il_28, il_30, il_32, il_35, il_40, il_43, il_44, il_48, il_50, il_52, il_57, il_58, il_59, il_60, il_61, il_64, il_65, il_70, il_78, il_95, il_97, il_99, il_100, il_101, il_102, il_106, il_115, il_117, il_660, il_812, il_999, il_1000, il_1092, il_8736, il_9999, ega_n, epa_n, pm_111, e]
      rw [es]
      exact ih
  · rw [if_neg c, if_neg c]
    simp (disch := (first | exact tgR (by assumption) | assumption | omega | with_unfolding_all rfl)) only [w_X8_remember_0, w_X8_remember_4, w_X8_remember_9, w_X8_remember_14, w_X8_remember_19, w_X8_remember_29, w_X8_remember_33, w_X8_remember_37, w_X8_remember_42, w_X8_remember_48, w_X8_remember_49, w_X8_remember_55, w_X8_remember_64, w_X8_remember_68, w_X8_remember_75, w_X8_remember_82, w_X8_remember_84, w_X8_remember_85, w_X8_remember_91, w_X8_remember_96, w_X8_remember_101, c_X8_remember, iI_add, iI_sub, iI_mul, iI_neg, iI_lt, iI_le, iI_eq, ne_eq, bI_e0, bI_e1, nor_em, bI_n0, bI_z, bI_zr, Classical.not_not, eq_self, true_or, or_true, false_or, or_false, if_true, if_false, ite_not, ↓reduceIte, dle_t, dle_f, dlt_t, dlt_f, deq_t, deq_f, Int.reduceEq, Int.reduceLT, Int.reduceLE, Int.reduceAdd, Int.reduceNeg, Nat.reduceAdd, bck_i, bck_v, r_sizeB, r_sizeU, r_sizeP, r_sizeF, r_hasB, r_hasU, r_hasP, r_getB, r_getU, r_getP, r_getF, r_putB, r_putU, r_putP, r_putF, eob_at, egf0, egf1, egf2, egf3, egf4, hw_0, hw_1, hw_3, hw_5, hw_7, rco, tbl, xm_109, xm_110, xm_111, xm_112, xm_113, xm_114, xm_115, xm_116, pm_o, epm_2, epm_5, epm_6, epm_7, epm_9, epm_13, epm_14, epm_16, epm_17, epm_18, epm_19, epm_20, epm_4t, epm_4f, epm_4b, epm_15t, epm_15f, epm_15b, epm_21t, epm_21f, epm_21b, egf12, egf13, egf14, egf15, egf16, egf17, egf18, egf19, egf20, egf21, il_15, and_self, and_true, true_and, and_false, false_and, egf5, egf6, egf7, egf8, egf9, egf10, egf11, il_m1, il_0, il_1, il_2, il_3, il_4, il_5, il_6, il_7, il_8, il_9, il_10, il_11, il_12, il_13, il_14, il_26, il_28, il_30, il_32, il_35, il_40, il_43, il_44, il_48, il_50, il_52, il_57, il_58, il_59, il_60, il_61, il_64, il_65, il_70, il_78, il_95, il_97, il_99, il_100, il_101, il_102, il_106, il_115, il_117, il_660, il_812, il_999, il_1000, il_1092, il_8736, il_9999, c]
    exact m_remC (by omega)
end M7
