set_option maxRecDepth 20000
/-! The Model: the first part of a unit that is split. -/
def shr : Nat → (Int → Int) → Int → Int
  | 0, rm => rm
  | n + 1, rm => shr n (iup rm (amax rm) (-1))
def shR (A : Int → Int) (x : Int) : Int → Int := shr (x - s5 (q5 A x (s5 A))).toNat (m5 A x (s5 A))
section M18
variable {d : Nat} {h : XH} {G A : Int → Int} {pm : Int} {S : Int → Int} {iv : Int32} {tw ke er : Int} {I : Int → Int} {ty : Int} {ab pt rm : Int → Int} {en aa : Int} {iw : Int32} {kd n1 n2 n3 n4 : Int} {gd : Int32} {Q : XO → XH → Prop} {dy nb nu np nf : Int} {B U P F : Int → Int} {b f u p i j x y z t k : Int}
theorem nar5_congr {X Y : Int → Int} (h : ∀ k : Int, 0 ≤ k → k < 5 → X k = Y k) : nar 5 X = nar 5 Y := by
  unfold nar
  refine congrArg (fun z => (Sum.inl (0, 5, Sum.inl z) : va_E)) (funext fun k => ?_)
  by_cases c : (k : Int) < (5 : Nat)
  · first | rw [if_pos c, if_pos c, h k (by omega) (by omega)] | rw [h k (by omega) (by omega)]
  · first | rw [if_neg c, if_neg c] | rfl
theorem wm_pt {X : Int → Int} (h' : ∀ k : Int, 0 ≤ k → k < 5 → pt k = X k) : wm h G A pm S iv tw ke er I ty ab pt rm en aa iw kd n1 n2 n3 n4 gd = wm h G A pm S iv tw ke er I ty ab X rm en aa iw kd n1 n2 n3 n4 gd := by
  unfold wm
  rw [nar5_congr h']
theorem wm_rm {X : Int → Int} (h' : ∀ k : Int, 0 ≤ k → k < 5 → rm k = X k) : wm h G A pm S iv tw ke er I ty ab pt rm en aa iw kd n1 n2 n3 n4 gd = wm h G A pm S iv tw ke er I ty ab pt X en aa iw kd n1 n2 n3 n4 gd := by
  unfold wm
  rw [nar5_congr h']
theorem ch5 {a : Int → Int} {a0 a1 a2 a3 a4 : Int} (k : Int) (h0 : 0 ≤ k) (h1 : k < 5) : iup (iup (iup (iup (iup a 0 a0) 1 a1) 2 a2) 3 a3) 4 a4 k = r5 a0 a1 a2 a3 a4 k := by
  have e2 : k = 0 ∨ k = 1 ∨ k = 2 ∨ k = 3 ∨ k = 4 := by omega
  rcases e2 with rfl | rfl | rfl | rfl | rfl <;> rfl
theorem m_most {l6 : Value} (hrm : ∀ k, 0 ≤ k → k < 5 → -1 ≤ rm k ∧ rm k < 200000) : EvQ d m_X8_findsFirst 82 [.ref 109, .int (iI u), .int (iI x), .int (iI y), .int (iI z), .int (iI t), l6] [] (wm h G A pm S iv tw ke er I ty ab pt rm en aa iw kd n1 n2 n3 n4 gd) Q = EvQ d m_X8_findsFirst 126 [.ref 109, .int (iI u), .int (iI x), .int (iI y), .int (iI z), .int (iI (amax rm)), .int (iI 5)] [] (wm h G A pm S iv tw ke er I ty ab pt rm en aa iw kd n1 n2 n3 n4 gd) Q := by
  simp (disch := (first | exact tgR (by assumption) | assumption | omega | with_unfolding_all rfl)) only [w_X8_findsFirst_0, w_X8_findsFirst_5, w_X8_findsFirst_12, w_X8_findsFirst_18, w_X8_findsFirst_22, w_X8_findsFirst_33, w_X8_findsFirst_37, w_X8_findsFirst_38, w_X8_findsFirst_42, w_X8_findsFirst_53, w_X8_findsFirst_57, w_X8_findsFirst_58, w_X8_findsFirst_64, w_X8_findsFirst_67, w_X8_findsFirst_82, w_X8_findsFirst_94, w_X8_findsFirst_98, w_X8_findsFirst_101, w_X8_findsFirst_105, w_X8_findsFirst_108, w_X8_findsFirst_111, w_X8_findsFirst_116, w_X8_findsFirst_118, w_X8_findsFirst_130, w_X8_findsFirst_134, w_X8_findsFirst_137, w_X8_findsFirst_141, w_X8_findsFirst_145, w_X8_findsFirst_151, c_X8_findsFirst, iI_add, iI_sub, iI_mul, iI_neg, iI_lt, iI_le, iI_eq, ne_eq, bI_e0, bI_e1, nor_em, bI_n0, bI_z, bI_zr, Classical.not_not, eq_self, true_or, or_true, false_or, or_false, if_true, if_false, ite_not, ↓reduceIte, dle_t, dle_f, dlt_t, dlt_f, deq_t, deq_f, Int.reduceEq, Int.reduceLT, Int.reduceLE, Int.reduceAdd, Int.reduceNeg, Nat.reduceAdd, bck_i, bck_v, r_sizeB, r_sizeU, r_sizeP, r_sizeF, r_hasB, r_hasU, r_hasP, r_getB, r_getU, r_getP, r_getF, r_putB, r_putU, r_putP, r_putF, eob_at, egf0, egf1, egf2, egf3, egf4, hw_0, hw_1, hw_3, hw_5, hw_7, rco, tbl, xm_109, xm_110, xm_111, xm_112, xm_113, xm_114, xm_115, xm_116, pm_o, epm_2, epm_5, epm_6, epm_7, epm_9, epm_13, epm_14, epm_16, epm_17, epm_18, epm_19, epm_20, epm_4t, epm_4f, epm_4b, epm_15t, epm_15f, epm_15b, epm_21t, epm_21f, epm_21b, egf12, egf13, egf14, egf15, egf16, egf17, egf18, egf19, egf20, egf21, il_15, and_self, and_true, true_and, and_false, false_and, egf5, egf6, egf7, egf8, egf9, egf10, egf11, il_m1, il_0, il_1, il_2, il_3, il_4, il_5, il_6, il_7, il_8, il_9, il_10, il_11, il_12, il_13, il_14, il_26, il_28, il_30, il_32, il_35, il_40, il_43, il_44, il_48, il_50, il_52, il_57, il_58, il_59, il_60, il_61, il_64, il_65, il_70, il_78, il_95, il_97, il_99, il_100, il_101, il_102, il_106, il_115, il_117, il_660, il_812, il_999, il_1000, il_1092, il_8736, il_9999]
  have key := lpI (n := 5) (I := fun k m => 0 ≤ m ∧ m < 5) (E := fun k m => EvQ d m_X8_findsFirst 88 [.ref 109, .int (iI u), .int (iI x), .int (iI y), .int (iI z), .int (iI m), .int (iI k)] [] (wm h G A pm S iv tw ke er I ty ab pt rm en aa iw kd n1 n2 n3 n4 gd) Q) (V := fun k m => EvQ d m_X8_findsFirst 126 [.ref 109, .int (iI u), .int (iI x), .int (iI y), .int (iI z), .int (iI (amk rm (5 - k).toNat k m)), .int (iI 5)] [] (wm h G A pm S iv tw ke er I ty ab pt rm en aa iw kd n1 n2 n3 n4 gd) Q) ?_ ?_ 1 0 (by omega) (by omega) (by omega)
  · exact key
  · intro m _
    rw [w_X8_findsFirst_88, show ((5 : Int) - 5).toNat = 0 by omega]
    simp (disch := (first | exact tgR (by assumption) | assumption | omega | with_unfolding_all rfl)) only [w_X8_findsFirst_0, w_X8_findsFirst_5, w_X8_findsFirst_12, w_X8_findsFirst_18, w_X8_findsFirst_22, w_X8_findsFirst_33, w_X8_findsFirst_37, w_X8_findsFirst_38, w_X8_findsFirst_42, w_X8_findsFirst_53, w_X8_findsFirst_57, w_X8_findsFirst_58, w_X8_findsFirst_64, w_X8_findsFirst_67, w_X8_findsFirst_82, w_X8_findsFirst_94, w_X8_findsFirst_98, w_X8_findsFirst_101, w_X8_findsFirst_105, w_X8_findsFirst_108, w_X8_findsFirst_111, w_X8_findsFirst_116, w_X8_findsFirst_118, w_X8_findsFirst_130, w_X8_findsFirst_134, w_X8_findsFirst_137, w_X8_findsFirst_141, w_X8_findsFirst_145, w_X8_findsFirst_151, c_X8_findsFirst, iI_add, iI_sub, iI_mul, iI_neg, iI_lt, iI_le, iI_eq, ne_eq, bI_e0, bI_e1, nor_em, bI_n0, bI_z, bI_zr, Classical.not_not, eq_self, true_or, or_true, false_or, or_false, if_true, if_false, ite_not, ↓reduceIte, dle_t, dle_f, dlt_t, dlt_f, deq_t, deq_f, Int.reduceEq, Int.reduceLT, Int.reduceLE, Int.reduceAdd, Int.reduceNeg, Nat.reduceAdd, bck_i, bck_v, r_sizeB, r_sizeU, r_sizeP, r_sizeF, r_hasB, r_hasU, r_hasP, r_getB, r_getU, r_getP, r_getF, r_putB, r_putU, r_putP, r_putF, eob_at, egf0, egf1, egf2, egf3, egf4, hw_0, hw_1, hw_3, hw_5, hw_7, rco, tbl, xm_109, xm_110, xm_111, xm_112, xm_113, xm_114, xm_115, xm_116, pm_o, epm_2, epm_5, epm_6, epm_7, epm_9, epm_13, epm_14, epm_16, epm_17, epm_18, epm_19, epm_20, epm_4t, epm_4f, epm_4b, epm_15t, epm_15f, epm_15b, epm_21t, epm_21f, epm_21b, egf12, egf13, egf14, egf15, egf16, egf17, egf18, egf19, egf20, egf21, il_15, and_self, and_true, true_and, and_false, false_and, egf5, egf6, egf7, egf8, egf9, egf10, egf11, il_m1, il_0, il_1, il_2, il_3, il_4, il_5, il_6, il_7, il_8, il_9, il_10, il_11, il_12, il_13, il_14, il_26, il_28, il_30, il_32, il_35, il_40, il_43, il_44, il_48, il_50, il_52, il_57, il_58, il_59, il_60, il_61, il_64, il_65, il_70, il_78, il_95, il_97, il_99, il_100, il_101, il_102, il_106, il_115, il_117, il_660, il_812, il_999, il_1000, il_1092, il_8736, il_9999, amk]
  · intro k m h0 h1 hm ih
    have q1 := hrm k (by omega) (by omega)
    have q2 := hrm m (by omega) (by omega)
    rw [w_X8_findsFirst_88, show (5 - k).toNat = (5 - (k + 1)).toNat + 1 by omega]
    unfold amk
    by_cases c : rm m < rm k
    · rw [if_pos c]
      simp (disch := (first | exact tgR (by assumption) | assumption | omega | with_unfolding_all rfl)) only [w_X8_findsFirst_0, w_X8_findsFirst_5, w_X8_findsFirst_12, w_X8_findsFirst_18, w_X8_findsFirst_22, w_X8_findsFirst_33, w_X8_findsFirst_37, w_X8_findsFirst_38, w_X8_findsFirst_42, w_X8_findsFirst_53, w_X8_findsFirst_57, w_X8_findsFirst_58, w_X8_findsFirst_64, w_X8_findsFirst_67, w_X8_findsFirst_82, w_X8_findsFirst_94, w_X8_findsFirst_98, w_X8_findsFirst_101, w_X8_findsFirst_105, w_X8_findsFirst_108, w_X8_findsFirst_111, w_X8_findsFirst_116, w_X8_findsFirst_118, w_X8_findsFirst_130, w_X8_findsFirst_134, w_X8_findsFirst_137, w_X8_findsFirst_141, w_X8_findsFirst_145, w_X8_findsFirst_151, c_X8_findsFirst, iI_add, iI_sub, iI_mul, iI_neg, iI_lt, iI_le, iI_eq, ne_eq, bI_e0, bI_e1, nor_em, bI_n0, bI_z, bI_zr, Classical.not_not, eq_self, true_or, or_true, false_or, or_false, if_true, if_false, ite_not, ↓reduceIte, dle_t, dle_f, dlt_t, dlt_f, deq_t, deq_f, Int.reduceEq, Int.reduceLT, Int.reduceLE, Int.reduceAdd, Int.reduceNeg, Nat.reduceAdd, bck_i, bck_v, r_sizeB, r_sizeU, r_sizeP, r_sizeF, r_hasB, r_hasU, r_hasP, r_getB, r_getU, r_getP, r_getF, r_putB, r_putU, r_putP, r_putF, eob_at, egf0, egf1, egf2, egf3, egf4, hw_0, hw_1, hw_3, hw_5, hw_7, rco, tbl, xm_109, xm_110, xm_111, xm_112, xm_113, xm_114, xm_115, xm_116, pm_o, epm_2, epm_5, epm_6, epm_7, epm_9, epm_13, epm_14, epm_16, epm_17, epm_18, epm_19, epm_20, epm_4t, epm_4f, epm_4b, epm_15t, epm_15f, epm_15b, epm_21t, epm_21f, epm_21b, egf12, egf13, egf14, egf15, egf16, egf17, egf18, egf19, egf20, egf21, il_15, and_self, and_true, true_and, and_false, false_and, egf5, egf6, egf7, egf8, egf9, egf10, egf11, il_m1, il_0, il_1, il_2, il_3, il_4, il_5, il_6, il_7, il_8, il_9, il_10, il_11, il_12, il_13, il_14, il_26, il_28, il_30, il_32, il_35, il_40, il_43, il_44, il_48, il_50, il_52, il_57, il_58, il_59, il_60, il_61, il_64, il_65, il_70, il_78, il_95, il_97, il_99, il_100, il_101, il_102, il_106, il_115, il_117, il_660, il_812, il_999, il_1000, il_1092, il_8736, il_9999, ega_n]
      exact ih k (by omega)
    · rw [if_neg c]
      simp (disch := (first | exact tgR (by assumption) | assumption | omega | with_unfolding_all rfl)) only [w_X8_findsFirst_0, w_X8_findsFirst_5, w_X8_findsFirst_12, w_X8_findsFirst_18, w_X8_findsFirst_22, w_X8_findsFirst_33, w_X8_findsFirst_37, w_X8_findsFirst_38, w_X8_findsFirst_42, w_X8_findsFirst_53, w_X8_findsFirst_57, w_X8_findsFirst_58, w_X8_findsFirst_64, w_X8_findsFirst_67, w_X8_findsFirst_82, w_X8_findsFirst_94, w_X8_findsFirst_98, w_X8_findsFirst_101, w_X8_findsFirst_105, w_X8_findsFirst_108, w_X8_findsFirst_111, w_X8_findsFirst_116, w_X8_findsFirst_118, w_X8_findsFirst_130, w_X8_findsFirst_134, w_X8_findsFirst_137, w_X8_findsFirst_141, w_X8_findsFirst_145, w_X8_findsFirst_151, c_X8_findsFirst, iI_add, iI_sub, iI_mul, iI_neg, iI_lt, iI_le, iI_eq, ne_eq, bI_e0, bI_e1, nor_em, bI_n0, bI_z, bI_zr, Classical.not_not, eq_self, true_or, or_true, false_or, or_false, if_true, if_false, ite_not, ↓reduceIte, dle_t, dle_f, dlt_t, dlt_f, deq_t, deq_f, Int.reduceEq, Int.reduceLT, Int.reduceLE, Int.reduceAdd, Int.reduceNeg, Nat.reduceAdd, bck_i, bck_v, r_sizeB, r_sizeU, r_sizeP, r_sizeF, r_hasB, r_hasU, r_hasP, r_getB, r_getU, r_getP, r_getF, r_putB, r_putU, r_putP, r_putF, eob_at, egf0, egf1, egf2, egf3, egf4, hw_0, hw_1, hw_3, hw_5, hw_7, rco, tbl, xm_109, xm_110, xm_111, xm_112, xm_113, xm_114, xm_115, xm_116, pm_o, epm_2, epm_5, epm_6, epm_7, epm_9, epm_13, epm_14, epm_16, epm_17, epm_18, epm_19, epm_20, epm_4t, epm_4f, epm_4b, epm_15t, epm_15f, epm_15b, epm_21t, epm_21f, epm_21b, egf12, egf13, egf14, egf15, egf16, egf17, egf18, egf19, egf20, egf21, il_15, and_self, and_true, true_and, and_false, false_and, egf5, egf6, egf7, egf8, egf9, egf10, egf11, il_m1, il_0, il_1, il_2, il_3, il_4, il_5, il_6, il_7, il_8, il_9, il_10, il_11, il_12, il_13, il_14, il_26, il_28, il_30, il_32, il_35, il_40, il_43, il_44, il_48, il_50, il_52, il_57, il_58, il_59, il_60, il_61, il_64, il_65, il_70, il_78, il_95, il_97, il_99, il_100, il_101, il_102, il_106, il_115, il_117, il_660, il_812, il_999, il_1000, il_1092, il_8736, il_9999, ega_n]
      exact ih m (by omega)
theorem m_shk (hx : 0 ≤ x ∧ x ≤ 999) : ∀ (n : Nat) (a rm : Int → Int) (t : Int) (l6 : Value), (n : Int) ≤ x → (∀ k, 0 ≤ k → k < 5 → -1 ≤ rm k ∧ rm k < 200000) → EvQ d m_X8_findsFirst 76 [.ref 109, .int (iI u), .int (iI x), .int (iI y), .int (iI (x - n)), .int (iI t), l6] [] (wm h G A pm S iv tw ke er I ty ab a rm en aa iw kd n1 n2 n3 n4 gd) Q = Q (.inl none) (wm h G A pm S iv tw ke er I ty ab (shk n a rm) (shr n rm) en aa iw kd n1 n2 n3 n4 gd) := by
  intro n
  induction n with
  | zero =>
    intro a rm t l6 _ _
    rw [w_X8_findsFirst_76]
    simp (disch := (first | exact tgR (by assumption) | assumption | omega | with_unfolding_all rfl)) only [w_X8_findsFirst_0, w_X8_findsFirst_5, w_X8_findsFirst_12, w_X8_findsFirst_18, w_X8_findsFirst_22, w_X8_findsFirst_33, w_X8_findsFirst_37, w_X8_findsFirst_38, w_X8_findsFirst_42, w_X8_findsFirst_53, w_X8_findsFirst_57, w_X8_findsFirst_58, w_X8_findsFirst_64, w_X8_findsFirst_67, w_X8_findsFirst_88, w_X8_findsFirst_94, w_X8_findsFirst_98, w_X8_findsFirst_101, w_X8_findsFirst_105, w_X8_findsFirst_108, w_X8_findsFirst_111, w_X8_findsFirst_116, w_X8_findsFirst_118, w_X8_findsFirst_130, w_X8_findsFirst_134, w_X8_findsFirst_137, w_X8_findsFirst_141, w_X8_findsFirst_145, w_X8_findsFirst_151, c_X8_findsFirst, iI_add, iI_sub, iI_mul, iI_neg, iI_lt, iI_le, iI_eq, ne_eq, bI_e0, bI_e1, nor_em, bI_n0, bI_z, bI_zr, Classical.not_not, eq_self, true_or, or_true, false_or, or_false, if_true, if_false, ite_not, ↓reduceIte, dle_t, dle_f, dlt_t, dlt_f, deq_t, deq_f, Int.reduceEq, Int.reduceLT, Int.reduceLE, Int.reduceAdd, Int.reduceNeg, Nat.reduceAdd, bck_i, bck_v, r_sizeB, r_sizeU, r_sizeP, r_sizeF, r_hasB, r_hasU, r_hasP, r_getB, r_getU, r_getP, r_getF, r_putB, r_putU, r_putP, r_putF, eob_at, egf0, egf1, egf2, egf3, egf4, hw_0, hw_1, hw_3, hw_5, hw_7, rco, tbl, xm_109, xm_110, xm_111, xm_112, xm_113, xm_114, xm_115, xm_116, pm_o, epm_2, epm_5, epm_6, epm_7, epm_9, epm_13, epm_14, epm_16, epm_17, epm_18, epm_19, epm_20, epm_4t, epm_4f, epm_4b, epm_15t, epm_15f, epm_15b, epm_21t, epm_21f, epm_21b, egf12, egf13, egf14, egf15, egf16, egf17, egf18, egf19, egf20, egf21, il_15, and_self, and_true, true_and, and_false, false_and, egf5, egf6, egf7, egf8, egf9, egf10, egf11, il_m1, il_0, il_1, il_2, il_3, il_4, il_5, il_6, il_7, il_8, il_9, il_10, il_11, il_12, il_13, il_14, il_26, il_28, il_30, il_32, il_35, il_40, il_43, il_44, il_48, il_50, il_52, il_57, il_58, il_59, il_60, il_61, il_64, il_65, il_70, il_78, il_95, il_97, il_99, il_100, il_101, il_102, il_106, il_115, il_117, il_660, il_812, il_999, il_1000, il_1092, il_8736, il_9999, Int.cast_ofNat_Int, Int.sub_zero, Int.le_refl]
    rfl
  | succ n ih =>
    intro a rm t l6 h0 hr
    have am := amaxR (rm := rm)
    have hX := ih (iup a (amax rm) (a (amax rm) + 1)) (iup rm (amax rm) (-1)) (amax rm) (.int (iI 5)) (by omega) (fun k h1 h2 => by
      unfold iup
      split
      · omega
      · exact hr k h1 h2)
    unfold shk shr
    rw [w_X8_findsFirst_76, show x - ((n + 1 : Nat) : Int) = x - (n : Int) - 1 by omega]
    simp (disch := (first | exact tgR (by assumption) | assumption | omega | with_unfolding_all rfl)) only [w_X8_findsFirst_0, w_X8_findsFirst_5, w_X8_findsFirst_12, w_X8_findsFirst_18, w_X8_findsFirst_22, w_X8_findsFirst_33, w_X8_findsFirst_37, w_X8_findsFirst_38, w_X8_findsFirst_42, w_X8_findsFirst_53, w_X8_findsFirst_57, w_X8_findsFirst_58, w_X8_findsFirst_64, w_X8_findsFirst_67, w_X8_findsFirst_88, w_X8_findsFirst_94, w_X8_findsFirst_98, w_X8_findsFirst_101, w_X8_findsFirst_105, w_X8_findsFirst_108, w_X8_findsFirst_111, w_X8_findsFirst_116, w_X8_findsFirst_118, w_X8_findsFirst_126, w_X8_findsFirst_130, w_X8_findsFirst_134, w_X8_findsFirst_137, w_X8_findsFirst_141, w_X8_findsFirst_145, w_X8_findsFirst_151, c_X8_findsFirst, iI_add, iI_sub, iI_mul, iI_neg, iI_lt, iI_le, iI_eq, ne_eq, bI_e0, bI_e1, nor_em, bI_n0, bI_z, bI_zr, Classical.not_not, eq_self, true_or, or_true, false_or, or_false, if_true, if_false, ite_not, ↓reduceIte, dle_t, dle_f, dlt_t, dlt_f, deq_t, deq_f, Int.reduceEq, Int.reduceLT, Int.reduceLE, Int.reduceAdd, Int.reduceNeg, Nat.reduceAdd, bck_i, bck_v, r_sizeB, r_sizeU, r_sizeP, r_sizeF, r_hasB, r_hasU, r_hasP, r_getB, r_getU, r_getP, r_getF, r_putB, r_putU, r_putP, r_putF, eob_at, egf0, egf1, egf2, egf3, egf4, hw_0, hw_1, hw_3, hw_5, hw_7, rco, tbl, xm_109, xm_110, xm_111, xm_112, xm_113, xm_114, xm_115, xm_116, pm_o, epm_2, epm_5, epm_6, epm_7, epm_9, epm_13, epm_14, epm_16, epm_17, epm_18, epm_19, epm_20, epm_4t, epm_4f, epm_4b, epm_15t, epm_15f, epm_15b, epm_21t, epm_21f, epm_21b, egf12, egf13, egf14, egf15, egf16, egf17, egf18, egf19, egf20, egf21, il_15, and_self, and_true, true_and, and_false, false_and, egf5, egf6, egf7, egf8, egf9, egf10, egf11, il_m1, il_0, il_1, il_2, il_3, il_4, il_5, il_6, il_7, il_8, il_9, il_10, il_11, il_12, il_13, il_14, il_26, il_28, il_30, il_32, il_35, il_40, il_43, il_44, il_48, il_50, il_52, il_57, il_58, il_59, il_60, il_61, il_64, il_65, il_70, il_78, il_95, il_97, il_99, il_100, il_101, il_102, il_106, il_115, il_117, il_660, il_812, il_999, il_1000, il_1092, il_8736, il_9999, m_most hr, ega_n, epa_n, pm_115, pm_116]
    rw [show x - (n : Int) - 1 + 1 = x - n by omega]
    exact hX
theorem m_findsFirst (R : MR G dy nb B nu U np P) (hw : WF dy nb B nu U np P nf F) (hu : 0 ≤ u ∧ u < nu) (hA : ∀ k, 0 ≤ k → k < 5 → 0 ≤ ar U u k ∧ ar U u k ≤ 40000) (hS : 0 < s5 (ar U u)) (hx : 0 ≤ x ∧ x ≤ 999) : Call (d + 2) m_X8_findsFirst [.ref 109, .int (iI u), .int (iI x)] (wm h G A pm S iv tw ke er I ty ab pt rm en aa iw kd n1 n2 n3 n4 gd) Q = Q (.inl none) (wm h G A pm S iv tw ke er I ty ab (shA (ar U u) x) (shR (ar U u) x) en aa iw kd n1 n2 n3 n4 gd) := by
  obtain ⟨⟨dy1, dy2⟩, ⟨b1, b2⟩, ⟨u1, u2⟩, ⟨p1, p2⟩, ⟨f1, f2⟩, hB, hU, hP, hF⟩ := id hw
  obtain ⟨R0, R1, R2, R3, RB, RUU, RP⟩ := id R
  have a0 := hA 0 (by omega) (by omega)
  have a1 := hA 1 (by omega) (by omega)
  have a2 := hA 2 (by omega) (by omega)
  have a3 := hA 3 (by omega) (by omega)
  have a4 := hA 4 (by omega) (by omega)
  have hmi := mis a0.1 a1.1 a2.1 a3.1 a4.1 rfl hS hx.1
  have hM : ∀ k, 0 ≤ k → k < 5 → 0 ≤ ar U u k * x ∧ ar U u k * x ≤ 40000000 := by
    intro k h1 h2
    have h3 := hA k h1 h2
    have h4 := Int.mul_nonneg h3.1 hx.1
    have h5 := Int.mul_le_mul h3.2 hx.2 hx.1 (by omega)
    omega
  have m0 := hM 0 (by omega) (by omega)
  have m1 := hM 1 (by omega) (by omega)
  have m2 := hM 2 (by omega) (by omega)
  have m3 := hM 3 (by omega) (by omega)
  have m4 := hM 4 (by omega) (by omega)
  have hS2 : s5 (ar U u) ≤ 200000 := by
    unfold s5
    omega
  have hmi' : 0 ≤ x - s5 (q5 (ar U u) x (s5 (ar U u))) ∧ x - s5 (q5 (ar U u) x (s5 (ar U u))) ≤ 4 := hmi
  have e0 : tg nu 11 U u 6 = ar U u 0 := tg_in (by omega)
  have e1 : tg nu 11 U u 7 = ar U u 1 := tg_in (by omega)
  have e2 : tg nu 11 U u 8 = ar U u 2 := tg_in (by omega)
  have e3 : tg nu 11 U u 9 = ar U u 3 := tg_in (by omega)
  have e4 : tg nu 11 U u 10 = ar U u 4 := tg_in (by omega)
  have eS : uS nu U u = s5 (ar U u) := by
    show tg nu 11 U u (6 + 0) + tg nu 11 U u (6 + 1) + tg nu 11 U u (6 + 2) + tg nu 11 U u (6 + 3) + tg nu 11 U u (6 + 4) = _
    show tg nu 11 U u 6 + tg nu 11 U u 7 + tg nu 11 U u 8 + tg nu 11 U u 9 + tg nu 11 U u 10 = _
    rw [e0, e1, e2, e3, e4]
    rfl
  simp (disch := (first | exact tgR (by assumption) | assumption | omega | with_unfolding_all rfl)) only [w_X8_findsFirst_0, w_X8_findsFirst_5, w_X8_findsFirst_12, w_X8_findsFirst_18, w_X8_findsFirst_22, w_X8_findsFirst_33, w_X8_findsFirst_37, w_X8_findsFirst_38, w_X8_findsFirst_42, w_X8_findsFirst_53, w_X8_findsFirst_57, w_X8_findsFirst_58, w_X8_findsFirst_64, w_X8_findsFirst_67, w_X8_findsFirst_82, w_X8_findsFirst_94, w_X8_findsFirst_98, w_X8_findsFirst_101, w_X8_findsFirst_105, w_X8_findsFirst_108, w_X8_findsFirst_111, w_X8_findsFirst_116, w_X8_findsFirst_118, w_X8_findsFirst_126, w_X8_findsFirst_130, w_X8_findsFirst_134, w_X8_findsFirst_137, w_X8_findsFirst_141, w_X8_findsFirst_145, w_X8_findsFirst_151, c_X8_findsFirst, iI_add, iI_sub, iI_mul, iI_neg, iI_lt, iI_le, iI_eq, ne_eq, bI_e0, bI_e1, nor_em, bI_n0, bI_z, bI_zr, Classical.not_not, eq_self, true_or, or_true, false_or, or_false, if_true, if_false, ite_not, ↓reduceIte, dle_t, dle_f, dlt_t, dlt_f, deq_t, deq_f, Int.reduceEq, Int.reduceLT, Int.reduceLE, Int.reduceAdd, Int.reduceNeg, Nat.reduceAdd, bck_i, bck_v, r_sizeB, r_sizeU, r_sizeP, r_sizeF, r_hasB, r_hasU, r_hasP, r_getB, r_getU, r_getP, r_getF, r_putB, r_putU, r_putP, r_putF, eob_at, egf0, egf1, egf2, egf3, egf4, hw_0, hw_1, hw_3, hw_5, hw_7, rco, tbl, xm_109, xm_110, xm_111, xm_112, xm_113, xm_114, xm_115, xm_116, pm_o, epm_2, epm_5, epm_6, epm_7, epm_9, epm_13, epm_14, epm_16, epm_17, epm_18, epm_19, epm_20, epm_4t, epm_4f, epm_4b, epm_15t, epm_15f, epm_15b, epm_21t, epm_21f, epm_21b, egf12, egf13, egf14, egf15, egf16, egf17, egf18, egf19, egf20, egf21, il_15, and_self, and_true, true_and, and_false, false_and, egf5, egf6, egf7, egf8, egf9, egf10, egf11, il_m1, il_0, il_1, il_2, il_3, il_4, il_5, il_6, il_7, il_8, il_9, il_10, il_11, il_12, il_13, il_14, il_26, il_28, il_30, il_32, il_35, il_40, il_43, il_44, il_48, il_50, il_52, il_57, il_58, il_59, il_60, il_61, il_64, il_65, il_70, il_78, il_95, il_97, il_99, il_100, il_101, il_102, il_106, il_115, il_117, il_660, il_812, il_999, il_1000, il_1092, il_8736, il_9999, m_area R hw, m_u, RUU, mu_2, mu_3, mu_4, mu_5, mu_6, e0, e1, e2, e3, e4, eS, iI_div, iI_mod, ega_n, epa_n, pm_115, pm_116, iup_ne, iup_eq, Int.zero_add]
  rw [wm_pt (X := q5 (ar U u) x (s5 (ar U u))) ch5, wm_rm (X := m5 (ar U u) x (s5 (ar U u))) ch5]
  have hT : ∀ k, 0 ≤ k → k < 5 → 0 ≤ (ar U u k * x).tmod (s5 (ar U u)) ∧ (ar U u k * x).tmod (s5 (ar U u)) < 200000 := by
    intro k h1 h2
    have h3 := hM k h1 h2
    rw [Int.tmod_eq_emod_of_nonneg h3.1]
    have h4 := Int.emod_nonneg (ar U u k * x) (show s5 (ar U u) ≠ 0 by omega)
    have h5 := Int.emod_lt_of_pos (ar U u k * x) hS
    omega
  have hR : ∀ k, 0 ≤ k → k < 5 → -1 ≤ m5 (ar U u) x (s5 (ar U u)) k ∧ m5 (ar U u) x (s5 (ar U u)) k < 200000 := by
    intro k h1 h2
    have h3 := hT k h1 h2
    have e : m5 (ar U u) x (s5 (ar U u)) k = (ar U u k * x).tmod (s5 (ar U u)) := by
      have e2 : k = 0 ∨ k = 1 ∨ k = 2 ∨ k = 3 ∨ k = 4 := by omega
      rcases e2 with rfl | rfl | rfl | rfl | rfl <;> rfl
    rw [e]
    omega
  have hq : 0 ≤ s5 (q5 (ar U u) x (s5 (ar U u))) := by
    have p := fun k (h1 : 0 ≤ k) (h2 : k < 5) => Int.tdiv_nonneg (hM k h1 h2).1 (show 0 ≤ s5 (ar U u) by omega)
    have p0 := p 0 (by omega) (by omega)
    have p1 := p 1 (by omega) (by omega)
    have p2 := p 2 (by omega) (by omega)
    have p3 := p 3 (by omega) (by omega)
    have p4 := p 4 (by omega) (by omega)
    show 0 ≤ _ + _ + _ + _ + _
    exact Int.add_nonneg (Int.add_nonneg (Int.add_nonneg (Int.add_nonneg p0 p1) p2) p3) p4
  have hX := m_shk (d := d + 1 + 1) (h := h) (G := G) (A := A) (pm := pm) (S := S) (iv := iv) (tw := tw) (ke := ke) (er := er) (I := I) (ty := ty) (ab := ab) (en := en) (aa := aa) (iw := iw) (kd := kd) (n1 := n1) (n2 := n2) (n3 := n3) (n4 := n4) (gd := gd) (Q := Q) (u := u) (y := s5 (ar U u)) hx (x - s5 (q5 (ar U u) x (s5 (ar U u)))).toNat (q5 (ar U u) x (s5 (ar U u))) (m5 (ar U u) x (s5 (ar U u))) 5 xjunk (by omega) hR
  rw [show x - (((x - s5 (q5 (ar U u) x (s5 (ar U u)))).toNat : Nat) : Int) = s5 (q5 (ar U u) x (s5 (ar U u))) by omega] at hX
  exact hX
end M18
