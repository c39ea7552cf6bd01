set_option maxRecDepth 20000
/-! The Model: splitting, what a finished permit does, finishing. -/
section M22
variable {d : Nat} {h : XH} {G A : Int → Int} {pm : Int} {S : Int → Int} {iv : Int32} {tw ke er : Int} {I : Int → Int} {ty : Int} {ab pt rm : Int → Int} {en aa : Int} {iw : Int32} {kd n1 n2 n3 n4 : Int} {gd : Int32} {Q : XO → XH → Prop} {dy nb nu np nf : Int} {B U P F : Int → Int} {b f u p i j x y z t k : Int}
theorem m_splits (R : MR G dy nb B nu U np P) (hw : WF dy nb B nu U np P nf F) (hp : 0 ≤ p ∧ p < np) (hn : nu + 2 ≤ 60) (hu : 0 ≤ u ∧ u < nu) (hx : 1 ≤ tg np 7 P p 2 ∧ tg np 7 P p 2 ≤ 999) (hg : -1 ≤ tg nu 11 U u 4 ∧ tg nu 11 U u 4 < 1000) (hA : ∀ j, 0 ≤ j → j < 5 → 0 ≤ ar U u j ∧ ar U u j ≤ 40000) (hS : 0 < s5 (ar U u)) : ∃ X : Int → Int, (∀ k, 0 ≤ k → k < 5 → ar U u k - shA (ar U u) (tg np 7 P p 2) k = X k) ∧ ∀ {d : Nat} {Q : XO → XH → Prop}, Call (d + 3) m_X8_splits [.ref 109, .int (iI p), .int (iI u)] (wm h G A pm S iv tw ke er I ty ab pt rm en aa iw kd n1 n2 n3 n4 gd) Q = Q (.inl (some (.int (iI nu)))) (wm h (cuG (iup (cuG G (shA (ar U u) (tg np 7 P p 2)) nu p (tg nu 11 U u 0) (tg nu 11 U u 1) u (-1) (1 + tg nu 11 U u 4)) (32 + 13 * u + 8) dy) X (nu + 1) p (tg nu 11 U u 0) (tg nu 11 U u 1) u (-1) (1 + tg nu 11 U u 4)) A pm S iv tw ke er I ty ab X (shR (ar U u) (tg np 7 P p 2)) en aa iw kd n1 n2 n3 n4 gd) := by
  obtain ⟨⟨dy1, dy2⟩, ⟨b1, b2⟩, ⟨u1, u2⟩, ⟨p1, p2⟩, ⟨f1, f2⟩, hB, hU, hP, hF⟩ := id hw
  obtain ⟨R0, R1, R2, R3, RB, RUU, RP⟩ := id R
  have e0 : tg nu 11 U u 6 = ar U u 0 := tg_in (by omega)
  have e1 : tg nu 11 U u 7 = ar U u 1 := tg_in (by omega)
  have e2 : tg nu 11 U u 8 = ar U u 2 := tg_in (by omega)
  have e3 : tg nu 11 U u 9 = ar U u 3 := tg_in (by omega)
  have e4 : tg nu 11 U u 10 = ar U u 4 := tg_in (by omega)
  have e12 : G (32 + 13 * u + 12) = tg nu 11 U u 4 := by rw [RUU u 12 hu.1 hu.2 (by omega) (by omega)]; rfl
  have hg1 : -1 ≤ G (32 + 13 * u + 12) ∧ G (32 + 13 * u + 12) < 1000 := by rw [e12]; exact hg
  have k1 : ∀ {d : Nat} {pt rm : Int → Int} {p b f : Int} {Q : XO → XH → Prop}, _ := fun {d pt rm p b f Q} => m_cu2 (d := d) (Q := Q) (h := h) (G := G) (A := A) (pm := pm) (S := S) (iv := iv) (tw := tw) (ke := ke) (er := er) (I := I) (ty := ty) (ab := ab) (pt := pt) (rm := rm) (en := en) (aa := aa) (iw := iw) (kd := kd) (n1 := n1) (n2 := n2) (n3 := n3) (n4 := n4) (gd := gd) (p := p) (b := b) (f := f) (x := u) R2 ⟨u1, by omega⟩ hu hg1
  rw [e12] at k1
  generalize hs : shA (ar U u) (tg np 7 P p 2) = s
  generalize hG1 : cuG G s nu p (tg nu 11 U u 0) (tg nu 11 U u 1) u (-1) (1 + tg nu 11 U u 4) = G1
  have g2 : G1 2 = nu + 1 := by rw [← hG1]; exact cu_2
  have g0 : G1 0 = dy := by rw [← hG1, cu_out (by omega) (by omega)]; exact R0
  have gu : ∀ j, 0 ≤ j → j < 13 → G1 (32 + 13 * u + j) = mu nu U np P u j := by
    intro j h0 h1
    rw [← hG1, cu_out (by omega) (by omega)]
    exact RUU u j hu.1 hu.2 h0 h1
  have h2' : iup G1 (32 + 13 * u + 8) dy 2 = nu + 1 := by rw [iup_ne (by omega)]; exact g2
  have f12 : iup G1 (32 + 13 * u + 8) dy (32 + 13 * u + 12) = tg nu 11 U u 4 := by rw [iup_ne (by omega), gu 12 (by omega) (by omega)]; rfl
  have hg2 : -1 ≤ iup G1 (32 + 13 * u + 8) dy (32 + 13 * u + 12) ∧ iup G1 (32 + 13 * u + 8) dy (32 + 13 * u + 12) < 1000 := by rw [f12]; exact hg
  have k2 : ∀ {d : Nat} {pt rm : Int → Int} {p b f : Int} {Q : XO → XH → Prop}, _ := fun {d pt rm p b f Q} => m_cu2 (d := d) (Q := Q) (h := h) (G := iup G1 (32 + 13 * u + 8) dy) (A := A) (pm := pm) (S := S) (iv := iv) (tw := tw) (ke := ke) (er := er) (I := I) (ty := ty) (ab := ab) (pt := pt) (rm := rm) (en := en) (aa := aa) (iw := iw) (kd := kd) (n1 := n1) (n2 := n2) (n3 := n3) (n4 := n4) (gd := gd) (p := p) (b := b) (f := f) (x := u) (nu := nu + 1) h2' ⟨by omega, by omega⟩ ⟨hu.1, by omega⟩ hg2
  rw [f12] at k2
  have kf : ∀ {d : Nat} {Q : XO → XH → Prop}, _ := fun {d Q} => m_findsFirst (d := d) (h := h) (A := A) (pm := pm) (S := S) (iv := iv) (tw := tw) (ke := ke) (er := er) (I := I) (ty := ty) (ab := ab) (pt := pt) (rm := rm) (en := en) (aa := aa) (iw := iw) (kd := kd) (n1 := n1) (n2 := n2) (n3 := n3) (n4 := n4) (gd := gd) (Q := Q) (x := tg np 7 P p 2) R hw hu hA hS (by omega)
  rw [hs] at kf
  refine ⟨iup (iup (iup (iup (iup s 0 (ar U u 0 - s 0)) 1 (ar U u 1 - s 1)) 2 (ar U u 2 - s 2)) 3 (ar U u 3 - s 3)) 4 (ar U u 4 - s 4), fun k h0 h1 => ?_, fun {d Q} => ?_⟩
  · rw [ch5 k h0 h1]
    have q : k = 0 ∨ k = 1 ∨ k = 2 ∨ k = 3 ∨ k = 4 := by omega
    rcases q with rfl | rfl | rfl | rfl | rfl <;> rfl
  · simp (disch := (first | exact tgR (by assumption) | assumption | omega | with_unfolding_all rfl)) only [w_X8_splits_0, w_X8_splits_8, w_X8_splits_11, w_X8_splits_19, w_X8_splits_25, w_X8_splits_30, w_X8_splits_34, w_X8_splits_40, w_X8_splits_44, w_X8_splits_55, w_X8_splits_59, w_X8_splits_62, w_X8_splits_64, w_X8_splits_70, w_X8_splits_78, w_X8_splits_80, w_X8_splits_83, w_X8_splits_91, w_X8_splits_97, w_X8_splits_102, w_X8_splits_108, w_X8_splits_112, w_X8_splits_113, c_X8_splits, iI_add, iI_sub, iI_mul, iI_neg, iI_lt, iI_le, iI_eq, ne_eq, bI_e0, bI_e1, nor_em, bI_n0, bI_z, bI_zr, Classical.not_not, eq_self, true_or, or_true, false_or, or_false, if_true, if_false, ite_not, ↓reduceIte, dle_t, dle_f, dlt_t, dlt_f, deq_t, deq_f, Int.reduceEq, Int.reduceLT, Int.reduceLE, Int.reduceAdd, Int.reduceNeg, Nat.reduceAdd, bck_i, bck_v, r_sizeB, r_sizeU, r_sizeP, r_sizeF, r_hasB, r_hasU, r_hasP, r_getB, r_getU, r_getP, r_getF, r_putB, r_putU, r_putP, r_putF, eob_at, egf0, egf1, egf2, egf3, egf4, hw_0, hw_1, hw_3, hw_5, hw_7, rco, tbl, xm_109, xm_110, xm_111, xm_112, xm_113, xm_114, xm_115, xm_116, pm_o, epm_2, epm_5, epm_6, epm_7, epm_9, epm_13, epm_14, epm_16, epm_17, epm_18, epm_19, epm_20, epm_4t, epm_4f, epm_4b, epm_15t, epm_15f, epm_15b, epm_21t, epm_21f, epm_21b, egf12, egf13, egf14, egf15, egf16, egf17, egf18, egf19, egf20, egf21, il_15, and_self, and_true, true_and, and_false, false_and, egf5, egf6, egf7, egf8, egf9, egf10, egf11, il_m1, il_0, il_1, il_2, il_3, il_4, il_5, il_6, il_7, il_8, il_9, il_10, il_11, il_12, il_13, il_14, il_26, il_28, il_30, il_32, il_35, il_40, il_43, il_44, il_48, il_50, il_52, il_57, il_58, il_59, il_60, il_61, il_64, il_65, il_70, il_78, il_95, il_97, il_99, il_100, il_101, il_102, il_106, il_115, il_117, il_660, il_812, il_999, il_1000, il_1092, il_8736, il_9999, kf, k1, k2, hG1, g0, g2, gu, m_p, RP, m_u, m_setU, RUU, R0, mu_0, mu_1, mu_2, mu_3, mu_4, mu_5, mu_6, e0, e1, e2, e3, e4, ega_n, epa_n, pm_115, iup_ne, iup_eq]
    done
end M22
