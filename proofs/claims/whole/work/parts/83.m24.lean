set_option maxRecDepth 20000
section M24
variable {d : Nat} {h : XH} {G A : Int → Int} {pm : Int} {S : Int → Int} {iv : Int32} {tw ke er : Int} {I : Int → Int} {ty : Int} {ab pt rm : Int → Int} {en aa : Int} {iw : Int32} {kd n1 n2 n3 n4 : Int} {gd : Int32} {Q : XO → XH → Prop} {dy nb nu np nf : Int} {B U P F : Int → Int} {b f u p i j x y z t k : Int}
/-- the Model's does: what it answers, and that its numbers stay the class's -/
theorem m_does (R : MR G dy nb B nu U np P) (hw : WF dy nb B nu U np P nf F) (hb6 : ∀ b, 0 ≤ tg nb 7 B b 0 ∧ tg nb 7 B b 0 ≤ 6) (hp : 0 ≤ p ∧ p < np)
    (hc : cP (tg np 7 P p 0) (tg np 7 P p 1) (tg np 7 P p 2) (tg np 7 P p 3) (tg np 7 P p 4) nb B nu U)
    (hsame : tg np 7 P p 0 = 2 → tg nu 11 U (tg np 7 P p 1) 0 = tg nu 11 U (tg np 7 P p 2) 0 ∧ tg nu 11 U (tg np 7 P p 1) 1 = tg nu 11 U (tg np 7 P p 2) 1)
    (h5 : tg np 7 P p 0 = 5 → (0 ≤ tg np 7 P p 1 ∧ tg np 7 P p 1 < nb) ∧ tg nb 7 B (tg np 7 P p 1) 0 < 6) :
    ∃ G' X Y : Int → Int, MR G' dy nb (cB (tg np 7 P p 0) (tg np 7 P p 1) (tg np 7 P p 2) nb B) (cN (tg np 7 P p 0) nu) (cU (tg np 7 P p 0) (tg np 7 P p 1) (tg np 7 P p 2) (tg np 7 P p 3) (tg np 7 P p 4) dy p nu U) np P ∧ ∀ {d : Nat} {Q : XO → XH → Prop}, Call (d + 4) m_X8_does [.ref 109, .int (iI p)] (wm h G A pm S iv tw ke er I ty ab pt rm en aa iw kd n1 n2 n3 n4 gd) Q = Q (.inl (some (.int (iI (cR (tg np 7 P p 0) (tg np 7 P p 1) nb B nu))))) (wm h G' A pm S iv tw ke er I ty ab X Y en aa iw kd n1 n2 n3 n4 gd) := by
  obtain ⟨⟨dy1, dy2⟩, ⟨b1, b2⟩, ⟨u1, u2⟩, ⟨p1, p2⟩, ⟨f1, f2⟩, hB, hU, hP, hF⟩ := id hw
  obtain ⟨R0, R1, R2, R3, RB, RUU, RP⟩ := id R
  obtain ⟨hk, c0, c1, c2, c3, c4, c5⟩ := hc
  have e : tg np 7 P p 0 = 0 ∨ tg np 7 P p 0 = 1 ∨ tg np 7 P p 0 = 2 ∨ tg np 7 P p 0 = 3 ∨ tg np 7 P p 0 = 4 ∨ tg np 7 P p 0 = 5 := by omega
  rcases e with e | e | e | e | e | e
  · have w := c0 e
    obtain ⟨X, hX, k⟩ := m_comesFirst (h := h) (A := A) (pm := pm) (S := S) (iv := iv) (tw := tw) (ke := ke) (er := er) (I := I) (ty := ty) (ab := ab) (pt := pt) (rm := rm) (en := en) (aa := aa) (iw := iw) (kd := kd) (n1 := n1) (n2 := n2) (n3 := n3) (n4 := n4) (gd := gd) R hw hp w.1 w.2
    refine ⟨(cuG G X nu p (tg np 7 P p 1) (tg np 7 P p 2) (-1) (-1) 0), X, rm, ?_, fun {d Q} => ?_⟩
    rotate_left
    · rw [show cR (tg np 7 P p 0) (tg np 7 P p 1) nb B nu = nu from if_pos (by omega)]
      simp (disch := (first | exact tgR (by assumption) | assumption | omega | with_unfolding_all rfl)) only [w_X8_does_0, w_X8_does_6, w_X8_does_13, w_X8_does_48, w_X8_does_53, w_X8_does_54, w_X8_does_60, w_X8_does_61, w_X8_does_70, w_X8_does_73, w_X8_does_74, w_X8_does_80, w_X8_does_81, w_X8_does_89, w_X8_does_91, w_X8_does_94, w_X8_does_96, w_X8_does_104, w_X8_does_107, c_X8_does, iI_add, iI_sub, iI_mul, iI_neg, iI_lt, iI_le, iI_eq, ne_eq, bI_e0, bI_e1, nor_em, bI_n0, bI_z, bI_zr, Classical.not_not, eq_self, true_or, or_true, false_or, or_false, if_true, if_false, ite_not, ↓reduceIte, dle_t, dle_f, dlt_t, dlt_f, deq_t, deq_f, Int.reduceEq, Int.reduceLT, Int.reduceLE, Int.reduceAdd, Int.reduceNeg, Nat.reduceAdd, bck_i, bck_v, r_sizeB, r_sizeU, r_sizeP, r_sizeF, r_hasB, r_hasU, r_hasP, r_getB, r_getU, r_getP, r_getF, r_putB, r_putU, r_putP, r_putF, eob_at, egf0, egf1, egf2, egf3, egf4, hw_0, hw_1, hw_3, hw_5, hw_7, rco, tbl, xm_109, xm_110, xm_111, xm_112, xm_113, xm_114, xm_115, xm_116, pm_o, epm_2, epm_5, epm_6, epm_7, epm_9, epm_13, epm_14, epm_16, epm_17, epm_18, epm_19, epm_20, epm_4t, epm_4f, epm_4b, epm_15t, epm_15f, epm_15b, epm_21t, epm_21f, epm_21b, egf12, egf13, egf14, egf15, egf16, egf17, egf18, egf19, egf20, egf21, il_15, and_self, and_true, true_and, and_false, false_and, egf5, egf6, egf7, egf8, egf9, egf10, egf11, il_m1, il_0, il_1, il_2, il_3, il_4, il_5, il_6, il_7, il_8, il_9, il_10, il_11, il_12, il_13, il_14, il_26, il_28, il_30, il_32, il_35, il_40, il_43, il_44, il_48, il_50, il_52, il_57, il_58, il_59, il_60, il_61, il_64, il_65, il_70, il_78, il_95, il_97, il_99, il_100, il_101, il_102, il_106, il_115, il_117, il_660, il_812, il_999, il_1000, il_1092, il_8736, il_9999, m_p, RP, e, k]
    · rw [show cB (tg np 7 P p 0) (tg np 7 P p 1) (tg np 7 P p 2) nb B = B from if_pos (by omega), show cN (tg np 7 P p 0) nu = nu + 1 from if_pos (by omega), e, cU_0]
      refine MR_new R ⟨u1, w.1⟩ ⟨b1, b2⟩ hb6 hX ?_ ?_
      · rw [pN_new u1, e]
        rfl
      · rw [pN_new u1, e]
        rfl
  · have w := c1 e
    have q4 : tg nu 11 U (tg np 7 P p 1) 4 = U (tg np 7 P p 1 * 11 + 4) := tg_in (by omega)
    have q0 : tg nu 11 U (tg np 7 P p 1) 0 = U (tg np 7 P p 1 * 11 + 0) := tg_in (by omega)
    have q1 : tg nu 11 U (tg np 7 P p 1) 1 = U (tg np 7 P p 1 * 11 + 1) := tg_in (by omega)
    obtain ⟨X, hX, k⟩ := m_splits (h := h) (A := A) (pm := pm) (S := S) (iv := iv) (tw := tw) (ke := ke) (er := er) (I := I) (ty := ty) (ab := ab) (pt := pt) (rm := rm) (en := en) (aa := aa) (iw := iw) (kd := kd) (n1 := n1) (n2 := n2) (n3 := n3) (n4 := n4) (gd := gd) R hw hp w.1 w.2.1 w.2.2.1 (by rw [q4]; exact w.2.2.2.1) w.2.2.2.2.1 w.2.2.2.2.2
    refine ⟨(cuG (iup (cuG G (shA (ar U (tg np 7 P p 1)) (tg np 7 P p 2)) nu p (tg nu 11 U (tg np 7 P p 1) 0) (tg nu 11 U (tg np 7 P p 1) 1) (tg np 7 P p 1) (-1) (1 + (tg nu 11 U (tg np 7 P p 1) 4))) (32 + 13 * (tg np 7 P p 1) + 8) dy) X (nu + 1) p (tg nu 11 U (tg np 7 P p 1) 0) (tg nu 11 U (tg np 7 P p 1) 1) (tg np 7 P p 1) (-1) (1 + (tg nu 11 U (tg np 7 P p 1) 4))), X, shR (ar U (tg np 7 P p 1)) (tg np 7 P p 2), ?_, fun {d Q} => ?_⟩
    rotate_left
    · rw [show cR (tg np 7 P p 0) (tg np 7 P p 1) nb B nu = nu from if_pos (by omega)]
      simp (disch := (first | exact tgR (by assumption) | assumption | omega | with_unfolding_all rfl)) only [w_X8_does_0, w_X8_does_6, w_X8_does_13, w_X8_does_48, w_X8_does_53, w_X8_does_54, w_X8_does_60, w_X8_does_61, w_X8_does_70, w_X8_does_73, w_X8_does_74, w_X8_does_80, w_X8_does_81, w_X8_does_89, w_X8_does_91, w_X8_does_94, w_X8_does_96, w_X8_does_104, w_X8_does_107, c_X8_does, iI_add, iI_sub, iI_mul, iI_neg, iI_lt, iI_le, iI_eq, ne_eq, bI_e0, bI_e1, nor_em, bI_n0, bI_z, bI_zr, Classical.not_not, eq_self, true_or, or_true, false_or, or_false, if_true, if_false, ite_not, ↓reduceIte, dle_t, dle_f, dlt_t, dlt_f, deq_t, deq_f, Int.reduceEq, Int.reduceLT, Int.reduceLE, Int.reduceAdd, Int.reduceNeg, Nat.reduceAdd, bck_i, bck_v, r_sizeB, r_sizeU, r_sizeP, r_sizeF, r_hasB, r_hasU, r_hasP, r_getB, r_getU, r_getP, r_getF, r_putB, r_putU, r_putP, r_putF, eob_at, egf0, egf1, egf2, egf3, egf4, hw_0, hw_1, hw_3, hw_5, hw_7, rco, tbl, xm_109, xm_110, xm_111, xm_112, xm_113, xm_114, xm_115, xm_116, pm_o, epm_2, epm_5, epm_6, epm_7, epm_9, epm_13, epm_14, epm_16, epm_17, epm_18, epm_19, epm_20, epm_4t, epm_4f, epm_4b, epm_15t, epm_15f, epm_15b, epm_21t, epm_21f, epm_21b, egf12, egf13, egf14, egf15, egf16, egf17, egf18, egf19, egf20, egf21, il_15, and_self, and_true, true_and, and_false, false_and, egf5, egf6, egf7, egf8, egf9, egf10, egf11, il_m1, il_0, il_1, il_2, il_3, il_4, il_5, il_6, il_7, il_8, il_9, il_10, il_11, il_12, il_13, il_14, il_26, il_28, il_30, il_32, il_35, il_40, il_43, il_44, il_48, il_50, il_52, il_57, il_58, il_59, il_60, il_61, il_64, il_65, il_70, il_78, il_95, il_97, il_99, il_100, il_101, il_102, il_106, il_115, il_117, il_660, il_812, il_999, il_1000, il_1092, il_8736, il_9999, m_p, RP, e, k]
    · rw [show cB (tg np 7 P p 0) (tg np 7 P p 1) (tg np 7 P p 2) nb B = B from if_pos (by omega), show cN (tg np 7 P p 0) nu = nu + 1 + 1 from by unfold cN; rw [if_neg (by omega), if_pos e], e, cU_1, ← q0, ← q1, ← q4, Int.add_comm (tg nu 11 U (tg np 7 P p 1) 4) 1, ← iup_rwo (by omega)]
      refine MR_new (MR_end (MR_new R ⟨u1, by omega⟩ ⟨b1, b2⟩ hb6 (fun k _ _ => rfl) ?_ ?_) (by omega) ⟨b1, b2⟩ hb6 (by omega)) (by omega) ⟨b1, b2⟩ hb6 (fun k k0 k1 => ?_) ?_ ?_
      · rw [pN_new u1, pA_new u1, e]
        rfl
      · rw [pN_new u1, pA_new u1, e]
        rfl
      · rw [← hX k k0 k1]
        have z : k = 0 ∨ k = 1 ∨ k = 2 ∨ k = 3 ∨ k = 4 := by omega
        rcases z with rfl | rfl | rfl | rfl | rfl <;> rfl
      · rw [pN_new (by omega), pA_new (by omega), e]
        rfl
      · rw [pN_new (by omega), pA_new (by omega), e]
        rfl
  · have w := c2 e
    have hs := hsame e
    have q4 : tg nu 11 U (tg np 7 P p 1) 4 = U (tg np 7 P p 1 * 11 + 4) := tg_in (by omega)
    have q0 : tg nu 11 U (tg np 7 P p 1) 0 = U (tg np 7 P p 1 * 11 + 0) := tg_in (by omega)
    have q1 : tg nu 11 U (tg np 7 P p 1) 1 = U (tg np 7 P p 1 * 11 + 1) := tg_in (by omega)
    have r4 : tg nu 11 U (tg np 7 P p 2) 4 = U (tg np 7 P p 2 * 11 + 4) := tg_in (by omega)
    have r0 : tg nu 11 U (tg np 7 P p 2) 0 = U (tg np 7 P p 2 * 11 + 0) := tg_in (by omega)
    have r1 : tg nu 11 U (tg np 7 P p 2) 1 = U (tg np 7 P p 2 * 11 + 1) := tg_in (by omega)
    obtain ⟨X, hX, k⟩ := m_joins (h := h) (A := A) (pm := pm) (S := S) (iv := iv) (tw := tw) (ke := ke) (er := er) (I := I) (ty := ty) (ab := ab) (pt := pt) (rm := rm) (en := en) (aa := aa) (iw := iw) (kd := kd) (n1 := n1) (n2 := n2) (n3 := n3) (n4 := n4) (gd := gd) R hw hp w.1 w.2.1 w.2.2.1 w.2.2.2.1 (by rw [q4]; exact w.2.2.2.2.1) (by rw [r4]; exact w.2.2.2.2.2)
    have hh : U (hiU U (tg np 7 P p 1) (tg np 7 P p 2) * 11 + 0) = tg nu 11 U (tg np 7 P p 1) 0 ∧ U (hiU U (tg np 7 P p 1) (tg np 7 P p 2) * 11 + 1) = tg nu 11 U (tg np 7 P p 1) 1 ∧ U (hiU U (tg np 7 P p 1) (tg np 7 P p 2) * 11 + 4) + 1 = 1 + (if tg nu 11 U (tg np 7 P p 1) 4 < tg nu 11 U (tg np 7 P p 2) 4 then tg nu 11 U (tg np 7 P p 2) 4 else tg nu 11 U (tg np 7 P p 1) 4) := by
      unfold hiU
      by_cases c : U (tg np 7 P p 2 * 11 + 4) ≤ U (tg np 7 P p 1 * 11 + 4)
      · rw [if_pos c, if_neg (by omega)]
        omega
      · rw [if_neg c, if_pos (by omega)]
        omega
    refine ⟨(cuG (iup (iup G (32 + 13 * (tg np 7 P p 1) + 8) dy) (32 + 13 * (tg np 7 P p 2) + 8) dy) X nu p (tg nu 11 U (tg np 7 P p 1) 0) (tg nu 11 U (tg np 7 P p 1) 1) (if (tg np 7 P p 1) < (tg np 7 P p 2) then (tg np 7 P p 1) else (tg np 7 P p 2)) (if (tg np 7 P p 1) < (tg np 7 P p 2) then (tg np 7 P p 2) else (tg np 7 P p 1)) (1 + (if (tg nu 11 U (tg np 7 P p 1) 4) < (tg nu 11 U (tg np 7 P p 2) 4) then (tg nu 11 U (tg np 7 P p 2) 4) else (tg nu 11 U (tg np 7 P p 1) 4)))), X, rm, ?_, fun {d Q} => ?_⟩
    rotate_left
    · rw [show cR (tg np 7 P p 0) (tg np 7 P p 1) nb B nu = nu from if_pos (by omega)]
      simp (disch := (first | exact tgR (by assumption) | assumption | omega | with_unfolding_all rfl)) only [w_X8_does_0, w_X8_does_6, w_X8_does_13, w_X8_does_48, w_X8_does_53, w_X8_does_54, w_X8_does_60, w_X8_does_61, w_X8_does_70, w_X8_does_73, w_X8_does_74, w_X8_does_80, w_X8_does_81, w_X8_does_89, w_X8_does_91, w_X8_does_94, w_X8_does_96, w_X8_does_104, w_X8_does_107, c_X8_does, iI_add, iI_sub, iI_mul, iI_neg, iI_lt, iI_le, iI_eq, ne_eq, bI_e0, bI_e1, nor_em, bI_n0, bI_z, bI_zr, Classical.not_not, eq_self, true_or, or_true, false_or, or_false, if_true, if_false, ite_not, ↓reduceIte, dle_t, dle_f, dlt_t, dlt_f, deq_t, deq_f, Int.reduceEq, Int.reduceLT, Int.reduceLE, Int.reduceAdd, Int.reduceNeg, Nat.reduceAdd, bck_i, bck_v, r_sizeB, r_sizeU, r_sizeP, r_sizeF, r_hasB, r_hasU, r_hasP, r_getB, r_getU, r_getP, r_getF, r_putB, r_putU, r_putP, r_putF, eob_at, egf0, egf1, egf2, egf3, egf4, hw_0, hw_1, hw_3, hw_5, hw_7, rco, tbl, xm_109, xm_110, xm_111, xm_112, xm_113, xm_114, xm_115, xm_116, pm_o, epm_2, epm_5, epm_6, epm_7, epm_9, epm_13, epm_14, epm_16, epm_17, epm_18, epm_19, epm_20, epm_4t, epm_4f, epm_4b, epm_15t, epm_15f, epm_15b, epm_21t, epm_21f, epm_21b, egf12, egf13, egf14, egf15, egf16, egf17, egf18, egf19, egf20, egf21, il_15, and_self, and_true, true_and, and_false, false_and, egf5, egf6, egf7, egf8, egf9, egf10, egf11, il_m1, il_0, il_1, il_2, il_3, il_4, il_5, il_6, il_7, il_8, il_9, il_10, il_11, il_12, il_13, il_14, il_26, il_28, il_30, il_32, il_35, il_40, il_43, il_44, il_48, il_50, il_52, il_57, il_58, il_59, il_60, il_61, il_64, il_65, il_70, il_78, il_95, il_97, il_99, il_100, il_101, il_102, il_106, il_115, il_117, il_660, il_812, il_999, il_1000, il_1092, il_8736, il_9999, m_p, RP, e, k]
    · rw [show cB (tg np 7 P p 0) (tg np 7 P p 1) (tg np 7 P p 2) nb B = B from if_pos (by omega), show cN (tg np 7 P p 0) nu = nu + 1 from if_pos (by omega), e, cU_2, hh.1, hh.2.1, hh.2.2]
      refine MR_new (MR_end (MR_end R u2 ⟨b1, b2⟩ hb6 (by omega)) u2 ⟨b1, b2⟩ hb6 (by omega)) ⟨u1, w.1⟩ ⟨b1, b2⟩ hb6 hX ?_ ?_
      · rw [pN_new u1, pA_new u1, e]
        show _ = (if tg np 7 P p 2 < tg np 7 P p 1 then tg np 7 P p 2 else tg np 7 P p 1)
        split <;> split <;> omega
      · rw [pN_new u1, pA_new u1, e]
        rfl
  · have w := c3 e
    have q4 : tg nu 11 U (tg np 7 P p 1) 4 = U (tg np 7 P p 1 * 11 + 4) := tg_in (by omega)
    have q0 : tg nu 11 U (tg np 7 P p 1) 0 = U (tg np 7 P p 1 * 11 + 0) := tg_in (by omega)
    have q1 : tg nu 11 U (tg np 7 P p 1) 1 = U (tg np 7 P p 1 * 11 + 1) := tg_in (by omega)
    obtain ⟨X, hX, k⟩ := m_converts (h := h) (A := A) (pm := pm) (S := S) (iv := iv) (tw := tw) (ke := ke) (er := er) (I := I) (ty := ty) (ab := ab) (pt := pt) (rm := rm) (en := en) (aa := aa) (iw := iw) (kd := kd) (n1 := n1) (n2 := n2) (n3 := n3) (n4 := n4) (gd := gd) R hw hp w.1 w.2.1 (by rw [q4]; exact w.2.2.1) w.2.2.2.1 w.2.2.2.2
    refine ⟨(cuG (iup G (32 + 13 * (tg np 7 P p 1) + 8) dy) X nu p (tg nu 11 U (tg np 7 P p 1) 0) (tg nu 11 U (tg np 7 P p 1) 1) (tg np 7 P p 1) (-1) (1 + (tg nu 11 U (tg np 7 P p 1) 4))), X, rm, ?_, fun {d Q} => ?_⟩
    rotate_left
    · rw [show cR (tg np 7 P p 0) (tg np 7 P p 1) nb B nu = nu from if_pos (by omega)]
      simp (disch := (first | exact tgR (by assumption) | assumption | omega | with_unfolding_all rfl)) only [w_X8_does_0, w_X8_does_6, w_X8_does_13, w_X8_does_48, w_X8_does_53, w_X8_does_54, w_X8_does_60, w_X8_does_61, w_X8_does_70, w_X8_does_73, w_X8_does_74, w_X8_does_80, w_X8_does_81, w_X8_does_89, w_X8_does_91, w_X8_does_94, w_X8_does_96, w_X8_does_104, w_X8_does_107, c_X8_does, iI_add, iI_sub, iI_mul, iI_neg, iI_lt, iI_le, iI_eq, ne_eq, bI_e0, bI_e1, nor_em, bI_n0, bI_z, bI_zr, Classical.not_not, eq_self, true_or, or_true, false_or, or_false, if_true, if_false, ite_not, ↓reduceIte, dle_t, dle_f, dlt_t, dlt_f, deq_t, deq_f, Int.reduceEq, Int.reduceLT, Int.reduceLE, Int.reduceAdd, Int.reduceNeg, Nat.reduceAdd, bck_i, bck_v, r_sizeB, r_sizeU, r_sizeP, r_sizeF, r_hasB, r_hasU, r_hasP, r_getB, r_getU, r_getP, r_getF, r_putB, r_putU, r_putP, r_putF, eob_at, egf0, egf1, egf2, egf3, egf4, hw_0, hw_1, hw_3, hw_5, hw_7, rco, tbl, xm_109, xm_110, xm_111, xm_112, xm_113, xm_114, xm_115, xm_116, pm_o, epm_2, epm_5, epm_6, epm_7, epm_9, epm_13, epm_14, epm_16, epm_17, epm_18, epm_19, epm_20, epm_4t, epm_4f, epm_4b, epm_15t, epm_15f, epm_15b, epm_21t, epm_21f, epm_21b, egf12, egf13, egf14, egf15, egf16, egf17, egf18, egf19, egf20, egf21, il_15, and_self, and_true, true_and, and_false, false_and, egf5, egf6, egf7, egf8, egf9, egf10, egf11, il_m1, il_0, il_1, il_2, il_3, il_4, il_5, il_6, il_7, il_8, il_9, il_10, il_11, il_12, il_13, il_14, il_26, il_28, il_30, il_32, il_35, il_40, il_43, il_44, il_48, il_50, il_52, il_57, il_58, il_59, il_60, il_61, il_64, il_65, il_70, il_78, il_95, il_97, il_99, il_100, il_101, il_102, il_106, il_115, il_117, il_660, il_812, il_999, il_1000, il_1092, il_8736, il_9999, m_p, RP, e, k]
    · rw [show cB (tg np 7 P p 0) (tg np 7 P p 1) (tg np 7 P p 2) nb B = B from if_pos (by omega), show cN (tg np 7 P p 0) nu = nu + 1 from if_pos (by omega), e, cU_3, ← q0, ← q1, ← q4, Int.add_comm (tg nu 11 U (tg np 7 P p 1) 4) 1]
      refine MR_new (MR_end R u2 ⟨b1, b2⟩ hb6 (by omega)) ⟨u1, w.1⟩ ⟨b1, b2⟩ hb6 hX ?_ ?_
      · rw [pN_new u1, pA_new u1, e]
        rfl
      · rw [pN_new u1, pA_new u1, e]
        rfl
  · have w := c4 e
    refine ⟨iup G (32 + 13 * tg np 7 P p 1 + 8) dy, pt, rm, ?_, fun {d Q} => ?_⟩
    rotate_left
    · rw [show cR (tg np 7 P p 0) (tg np 7 P p 1) nb B nu = -1 from by unfold cR; rw [if_neg (by omega), if_pos e]]
      simp (disch := (first | exact tgR (by assumption) | assumption | omega | with_unfolding_all rfl)) only [w_X8_does_0, w_X8_does_6, w_X8_does_13, w_X8_does_48, w_X8_does_53, w_X8_does_54, w_X8_does_60, w_X8_does_61, w_X8_does_70, w_X8_does_73, w_X8_does_74, w_X8_does_80, w_X8_does_81, w_X8_does_89, w_X8_does_91, w_X8_does_94, w_X8_does_96, w_X8_does_104, w_X8_does_107, c_X8_does, iI_add, iI_sub, iI_mul, iI_neg, iI_lt, iI_le, iI_eq, ne_eq, bI_e0, bI_e1, nor_em, bI_n0, bI_z, bI_zr, Classical.not_not, eq_self, true_or, or_true, false_or, or_false, if_true, if_false, ite_not, ↓reduceIte, dle_t, dle_f, dlt_t, dlt_f, deq_t, deq_f, Int.reduceEq, Int.reduceLT, Int.reduceLE, Int.reduceAdd, Int.reduceNeg, Nat.reduceAdd, bck_i, bck_v, r_sizeB, r_sizeU, r_sizeP, r_sizeF, r_hasB, r_hasU, r_hasP, r_getB, r_getU, r_getP, r_getF, r_putB, r_putU, r_putP, r_putF, eob_at, egf0, egf1, egf2, egf3, egf4, hw_0, hw_1, hw_3, hw_5, hw_7, rco, tbl, xm_109, xm_110, xm_111, xm_112, xm_113, xm_114, xm_115, xm_116, pm_o, epm_2, epm_5, epm_6, epm_7, epm_9, epm_13, epm_14, epm_16, epm_17, epm_18, epm_19, epm_20, epm_4t, epm_4f, epm_4b, epm_15t, epm_15f, epm_15b, epm_21t, epm_21f, epm_21b, egf12, egf13, egf14, egf15, egf16, egf17, egf18, egf19, egf20, egf21, il_15, and_self, and_true, true_and, and_false, false_and, egf5, egf6, egf7, egf8, egf9, egf10, egf11, il_m1, il_0, il_1, il_2, il_3, il_4, il_5, il_6, il_7, il_8, il_9, il_10, il_11, il_12, il_13, il_14, il_26, il_28, il_30, il_32, il_35, il_40, il_43, il_44, il_48, il_50, il_52, il_57, il_58, il_59, il_60, il_61, il_64, il_65, il_70, il_78, il_95, il_97, il_99, il_100, il_101, il_102, il_106, il_115, il_117, il_660, il_812, il_999, il_1000, il_1092, il_8736, il_9999, m_p, RP, e, R0, ega_n, m_setU]
    · rw [show cB (tg np 7 P p 0) (tg np 7 P p 1) (tg np 7 P p 2) nb B = B from if_pos (by omega), show cN (tg np 7 P p 0) nu = nu from by unfold cN; rw [if_neg (by omega), if_neg (by omega)], e, cU_4]
      exact MR_end R u2 ⟨b1, b2⟩ hb6 w
  · have w := c5 e
    have v := h5 e
    refine ⟨(iup (iup G (4 + 7 * (tg np 7 P p 1) + 1 + tg nb 7 B (tg np 7 P p 1) 0) (tg np 7 P p 2)) (4 + 7 * (tg np 7 P p 1)) (tg nb 7 B (tg np 7 P p 1) 0 + 1)), pt, rm, ?_, fun {d Q} => ?_⟩
    rotate_left
    · rw [show cR (tg np 7 P p 0) (tg np 7 P p 1) nb B nu = tg nb 7 B (tg np 7 P p 1) 0 from by unfold cR; rw [if_neg (by omega), if_neg (by omega)]]
      simp (disch := (first | exact tgR (by assumption) | assumption | omega | with_unfolding_all rfl)) only [w_X8_does_0, w_X8_does_6, w_X8_does_13, w_X8_does_48, w_X8_does_53, w_X8_does_54, w_X8_does_60, w_X8_does_61, w_X8_does_70, w_X8_does_73, w_X8_does_74, w_X8_does_80, w_X8_does_81, w_X8_does_89, w_X8_does_91, w_X8_does_94, w_X8_does_96, w_X8_does_104, w_X8_does_107, c_X8_does, iI_add, iI_sub, iI_mul, iI_neg, iI_lt, iI_le, iI_eq, ne_eq, bI_e0, bI_e1, nor_em, bI_n0, bI_z, bI_zr, Classical.not_not, eq_self, true_or, or_true, false_or, or_false, if_true, if_false, ite_not, ↓reduceIte, dle_t, dle_f, dlt_t, dlt_f, deq_t, deq_f, Int.reduceEq, Int.reduceLT, Int.reduceLE, Int.reduceAdd, Int.reduceNeg, Nat.reduceAdd, bck_i, bck_v, r_sizeB, r_sizeU, r_sizeP, r_sizeF, r_hasB, r_hasU, r_hasP, r_getB, r_getU, r_getP, r_getF, r_putB, r_putU, r_putP, r_putF, eob_at, egf0, egf1, egf2, egf3, egf4, hw_0, hw_1, hw_3, hw_5, hw_7, rco, tbl, xm_109, xm_110, xm_111, xm_112, xm_113, xm_114, xm_115, xm_116, pm_o, epm_2, epm_5, epm_6, epm_7, epm_9, epm_13, epm_14, epm_16, epm_17, epm_18, epm_19, epm_20, epm_4t, epm_4f, epm_4b, epm_15t, epm_15f, epm_15b, epm_21t, epm_21f, epm_21b, egf12, egf13, egf14, egf15, egf16, egf17, egf18, egf19, egf20, egf21, il_15, and_self, and_true, true_and, and_false, false_and, egf5, egf6, egf7, egf8, egf9, egf10, egf11, il_m1, il_0, il_1, il_2, il_3, il_4, il_5, il_6, il_7, il_8, il_9, il_10, il_11, il_12, il_13, il_14, il_26, il_28, il_30, il_32, il_35, il_40, il_43, il_44, il_48, il_50, il_52, il_57, il_58, il_59, il_60, il_61, il_64, il_65, il_70, il_78, il_95, il_97, il_99, il_100, il_101, il_102, il_106, il_115, il_117, il_660, il_812, il_999, il_1000, il_1092, il_8736, il_9999, m_p, RP, e, m_comesFloor R hw v.1 ⟨w.1, v.2⟩]
    · rw [show cB (tg np 7 P p 0) (tg np 7 P p 1) (tg np 7 P p 2) nb B = _ from if_neg (by omega), show cN (tg np 7 P p 0) nu = nu from by unfold cN; rw [if_neg (by omega), if_neg (by omega)], e, cU_5]
      exact MR_floor R ⟨b1, b2⟩ ⟨u1, u2⟩ ⟨p1, p2⟩ hb6 v.1 v.2
end M24
