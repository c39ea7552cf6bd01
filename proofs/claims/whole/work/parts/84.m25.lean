set_option maxRecDepth 20000
section M25
variable {d : Nat} {h : XH} {G A : Int → Int} {pm : Int} {S : Int → Int} {iv : Int32} {tw ke er : Int} {I : Int → Int} {ty : Int} {ab pt rm : Int → Int} {en aa : Int} {iw : Int32} {kd n1 n2 n3 n4 : Int} {gd : Int32} {Q : XO → XH → Prop} {dy nb nu np nf : Int} {B U P F : Int → Int} {b f u p i j x y z t k : Int}
theorem m_finish1 (R : MR G dy nb B nu U np P) (hw : WF dy nb B nu U np P nf F) (hp : -2147483648 ≤ p ∧ p < 2147483648) (hh : ¬ sPr np P p 2 = 0) : Call (d + 5) m_X8_finish [.ref 109, .int (iI p)] (wm h G A pm S iv tw ke er I ty ab pt rm en aa iw kd n1 n2 n3 n4 gd) Q = Q (.inl (some (.int (iI 0)))) (wm h G A pm S iv (sPr np P p 2) ke er I ty ab pt rm en aa iw kd n1 n2 n3 n4 gd) := by
  have hb : 0 ≤ sPr np P p 2 ∧ sPr np P p 2 ≤ 2 := by
    unfold sPr
    repeat (first | omega | split)
  simp (disch := (first | exact tgR (by assumption) | assumption | omega | with_unfolding_all rfl)) only [w_X8_finish_0, w_X8_finish_7, w_X8_finish_10, w_X8_finish_14, w_X8_finish_17, w_X8_finish_19, w_X8_finish_23, w_X8_finish_29, w_X8_finish_34, c_X8_finish, iI_add, iI_sub, iI_mul, iI_neg, iI_lt, iI_le, iI_eq, ne_eq, bI_e0, bI_e1, nor_em, bI_n0, bI_z, bI_zr, Classical.not_not, eq_self, true_or, or_true, false_or, or_false, if_true, if_false, ite_not, ↓reduceIte, dle_t, dle_f, dlt_t, dlt_f, deq_t, deq_f, Int.reduceEq, Int.reduceLT, Int.reduceLE, Int.reduceAdd, Int.reduceNeg, Nat.reduceAdd, bck_i, bck_v, r_sizeB, r_sizeU, r_sizeP, r_sizeF, r_hasB, r_hasU, r_hasP, r_getB, r_getU, r_getP, r_getF, r_putB, r_putU, r_putP, r_putF, eob_at, egf0, egf1, egf2, egf3, egf4, hw_0, hw_1, hw_3, hw_5, hw_7, rco, tbl, xm_109, xm_110, xm_111, xm_112, xm_113, xm_114, xm_115, xm_116, pm_o, epm_2, epm_5, epm_6, epm_7, epm_9, epm_13, epm_14, epm_16, epm_17, epm_18, epm_19, epm_20, epm_4t, epm_4f, epm_4b, epm_15t, epm_15f, epm_15b, epm_21t, epm_21f, epm_21b, egf12, egf13, egf14, egf15, egf16, egf17, egf18, egf19, egf20, egf21, il_15, and_self, and_true, true_and, and_false, false_and, egf5, egf6, egf7, egf8, egf9, egf10, egf11, il_m1, il_0, il_1, il_2, il_3, il_4, il_5, il_6, il_7, il_8, il_9, il_10, il_11, il_12, il_13, il_14, il_26, il_28, il_30, il_32, il_35, il_40, il_43, il_44, il_48, il_50, il_52, il_57, il_58, il_59, il_60, il_61, il_64, il_65, il_70, il_78, il_95, il_97, il_99, il_100, il_101, il_102, il_106, il_115, il_117, il_660, il_812, il_999, il_1000, il_1092, il_8736, il_9999, m_stageProblem R hw, hh]
theorem m_finish (R : MR G dy nb B nu U np P) (hw : WF dy nb B nu U np P nf F) (hb6 : ∀ b, 0 ≤ tg nb 7 B b 0 ∧ tg nb 7 B b 0 ≤ 6) (hm : 0 ≤ pm ∧ pm ≤ 8) (hp : 0 ≤ p ∧ p < np) (hs : tg np 7 P p 5 = 2)
    (hc : cP (tg np 7 P p 0) (tg np 7 P p 1) (tg np 7 P p 2) (tg np 7 P p 3) (tg np 7 P p 4) nb B nu U)
    (hsame : tg np 7 P p 0 = 2 → tg nu 11 U (tg np 7 P p 1) 0 = tg nu 11 U (tg np 7 P p 2) 0 ∧ tg nu 11 U (tg np 7 P p 1) 1 = tg nu 11 U (tg np 7 P p 2) 1)
    (h5 : tg np 7 P p 0 = 5 → (0 ≤ tg np 7 P p 1 ∧ tg np 7 P p 1 < nb) ∧ tg nb 7 B (tg np 7 P p 1) 0 < 6) :
    ∃ G' X Y : Int → Int, MR G' dy nb (cB (tg np 7 P p 0) (tg np 7 P p 1) (tg np 7 P p 2) nb B) (cN (tg np 7 P p 0) nu) (cU (tg np 7 P p 0) (tg np 7 P p 1) (tg np 7 P p 2) (tg np 7 P p 3) (tg np 7 P p 4) dy p nu U) np (stP np P p 3 dy) ∧ ∀ {d : Nat} {Q : XO → XH → Prop}, Call (d + 5) m_X8_finish [.ref 109, .int (iI p)] (wm h G A pm S iv tw ke er I ty ab pt rm en aa iw kd n1 n2 n3 n4 gd) Q = Q (.inl (some (.int (iI (cR (tg np 7 P p 0) (tg np 7 P p 1) nb B nu))))) (wm h G' (pmA A pm G) (pmN pm) S iv 0 ke er I ty ab X Y en aa iw kd n1 n2 n3 n4 gd) := by
  obtain ⟨⟨dy1, dy2⟩, ⟨b1, b2⟩, ⟨u1, u2⟩, ⟨p1, p2⟩, ⟨f1, f2⟩, hB, hU, hP, hF⟩ := id hw
  obtain ⟨R0, R1, R2, R3, RB, RUU, RP⟩ := id R
  have es : sPr np P p 2 = 0 := by unfold sPr; rw [if_pos hp, if_pos hs]
  have R' := MR_st (x := 3) R ⟨b1, b2, u1, u2⟩ hb6 hp
  have hw' : WF dy nb B nu U np (stP np P p 3 dy) nf F := ⟨⟨dy1, dy2⟩, ⟨b1, b2⟩, ⟨u1, u2⟩, ⟨p1, p2⟩, ⟨f1, f2⟩, hB, hU, stR hP (by omega) (by omega), hF⟩
  have et : ∀ j, 0 ≤ j → j < 5 → tg np 7 (stP np P p 3 dy) p j = tg np 7 P p j := by
    intro j h0 h1
    rw [tg_st hp (by omega), if_neg (by omega), if_neg (by omega)]
  have e0 := et 0 (by omega) (by omega)
  have e1 := et 1 (by omega) (by omega)
  have e2 := et 2 (by omega) (by omega)
  have e3 := et 3 (by omega) (by omega)
  have e4 := et 4 (by omega) (by omega)
  obtain ⟨G', X, Y, MR', k⟩ := m_does (h := h) (A := pmA A pm G) (pm := pmN pm) (S := S) (iv := iv) (tw := 0) (ke := ke) (er := er) (I := I) (ty := ty) (ab := ab) (pt := pt) (rm := rm) (en := en) (aa := aa) (iw := iw) (kd := kd) (n1 := n1) (n2 := n2) (n3 := n3) (n4 := n4) (gd := gd) (p := p) R' hw' hb6 hp (by rw [e0, e1, e2, e3, e4]; exact hc) (by rw [e0, e1, e2]; exact hsame) (by rw [e0, e1]; exact h5)
  rw [e0, e1, e2, e3, e4] at MR'
  rw [e0, e1] at k
  refine ⟨G', X, Y, MR', fun {d Q} => ?_⟩
  unfold pmN at k ⊢
  simp (disch := (first | exact tgR (by assumption) | assumption | omega | with_unfolding_all rfl)) only [w_X8_finish_0, w_X8_finish_7, w_X8_finish_10, w_X8_finish_14, w_X8_finish_17, w_X8_finish_19, w_X8_finish_23, w_X8_finish_29, w_X8_finish_34, c_X8_finish, iI_add, iI_sub, iI_mul, iI_neg, iI_lt, iI_le, iI_eq, ne_eq, bI_e0, bI_e1, nor_em, bI_n0, bI_z, bI_zr, Classical.not_not, eq_self, true_or, or_true, false_or, or_false, if_true, if_false, ite_not, ↓reduceIte, dle_t, dle_f, dlt_t, dlt_f, deq_t, deq_f, Int.reduceEq, Int.reduceLT, Int.reduceLE, Int.reduceAdd, Int.reduceNeg, Nat.reduceAdd, bck_i, bck_v, r_sizeB, r_sizeU, r_sizeP, r_sizeF, r_hasB, r_hasU, r_hasP, r_getB, r_getU, r_getP, r_getF, r_putB, r_putU, r_putP, r_putF, eob_at, egf0, egf1, egf2, egf3, egf4, hw_0, hw_1, hw_3, hw_5, hw_7, rco, tbl, xm_109, xm_110, xm_111, xm_112, xm_113, xm_114, xm_115, xm_116, pm_o, epm_2, epm_5, epm_6, epm_7, epm_9, epm_13, epm_14, epm_16, epm_17, epm_18, epm_19, epm_20, epm_4t, epm_4f, epm_4b, epm_15t, epm_15f, epm_15b, epm_21t, epm_21f, epm_21b, egf12, egf13, egf14, egf15, egf16, egf17, egf18, egf19, egf20, egf21, il_15, and_self, and_true, true_and, and_false, false_and, egf5, egf6, egf7, egf8, egf9, egf10, egf11, il_m1, il_0, il_1, il_2, il_3, il_4, il_5, il_6, il_7, il_8, il_9, il_10, il_11, il_12, il_13, il_14, il_26, il_28, il_30, il_32, il_35, il_40, il_43, il_44, il_48, il_50, il_52, il_57, il_58, il_59, il_60, il_61, il_64, il_65, il_70, il_78, il_95, il_97, il_99, il_100, il_101, il_102, il_106, il_115, il_117, il_660, il_812, il_999, il_1000, il_1092, il_8736, il_9999, m_stageProblem R hw, es, m_remember, m_bec, k]
end M25
