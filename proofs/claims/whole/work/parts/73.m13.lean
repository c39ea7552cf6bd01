set_option maxRecDepth 20000
/-! The Model: passing days. -/
/-- lapsing, both sides at once: the Model's array, the class's permits, how many -/
def lpj (np dy : Int) : Nat → Int → (Int → Int) × (Int → Int) × Int → (Int → Int) × (Int → Int) × Int
  | 0, _, a => a
  | k + 1, i, a => lpj np dy k (i + 1) (if tg np 7 a.2.1 i 5 = 1 ∧ 30 < dy - tg np 7 a.2.1 i 6 then (stG a.1 i 5, stP np a.2.1 i 5 dy, a.2.2 + 1) else a)
theorem lpj_2 {np dy : Int} : ∀ (k : Nat) (i : Int) (a : (Int → Int) × (Int → Int) × Int), (lpj np dy k i a).2 = lpk np dy k i a.2
  | 0, _, _ => rfl
  | k + 1, i, a => by
    unfold lpj lpk
    rw [lpj_2 k]
    split <;> rfl
theorem lpj_MR {np dy nb nu : Int} {B U : Int → Int} (hn : 0 ≤ nb ∧ nb ≤ 4 ∧ 0 ≤ nu ∧ nu ≤ 60) (hb6 : ∀ b, 0 ≤ tg nb 7 B b 0 ∧ tg nb 7 B b 0 ≤ 6) : ∀ (k : Nat) (i : Int) (a : (Int → Int) × (Int → Int) × Int), 0 ≤ i → i + k ≤ np → MR a.1 dy nb B nu U np a.2.1 → MR (lpj np dy k i a).1 dy nb B nu U np (lpj np dy k i a).2.1
  | 0, _, _, _, _, h => h
  | k + 1, i, a, h0, h1, h => by
    unfold lpj
    split
    · exact lpj_MR hn hb6 k (i + 1) _ (by omega) (by omega) (MR_st h hn hb6 (by omega))
    · exact lpj_MR hn hb6 k (i + 1) _ (by omega) (by omega) h
def psj (np : Int) : Nat → Int × (Int → Int) × (Int → Int) × Int → Int × (Int → Int) × (Int → Int) × Int
  | 0, a => a
  | k + 1, a => psj np k (a.1 + 1, (lpj np (a.1 + 1) np.toNat 0 (iup a.2.1 0 (a.2.1 0 + 1), a.2.2.1, a.2.2.2)).1, (lpj np (a.1 + 1) np.toNat 0 (iup a.2.1 0 (a.2.1 0 + 1), a.2.2.1, a.2.2.2)).2.1, (lpj np (a.1 + 1) np.toNat 0 (iup a.2.1 0 (a.2.1 0 + 1), a.2.2.1, a.2.2.2)).2.2)
theorem lpk_s {np dy : Int} : ∀ (k : Nat) (i : Int) (P : Int → Int) (s : Int), lpk np dy k i (P, s) = ((lpk np dy k i (P, 0)).1, s + (lpk np dy k i (P, 0)).2)
  | 0, _, P, s => by
    show (P, s) = (P, s + 0)
    rw [Int.add_zero]
  | k + 1, i, P, s => by
    unfold lpk
    dsimp only
    split
    · rw [lpk_s k (i + 1) _ (s + 1), lpk_s k (i + 1) _ (0 + 1)]
      refine Prod.ext rfl ?_
      dsimp only
      omega
    · exact lpk_s k (i + 1) P s
theorem psj_ps {np : Int} : ∀ (k : Nat) (a : Int × (Int → Int) × (Int → Int) × Int), (psj np k a).1 = (psk np k (a.1, a.2.2)).1 ∧ (psj np k a).2.2 = (psk np k (a.1, a.2.2)).2
  | 0, a => ⟨rfl, rfl⟩
  | k + 1, a => by
    unfold psj psk
    have e := psj_ps (np := np) k (a.1 + 1, (lpj np (a.1 + 1) np.toNat 0 (iup a.2.1 0 (a.2.1 0 + 1), a.2.2.1, a.2.2.2)).1, (lpj np (a.1 + 1) np.toNat 0 (iup a.2.1 0 (a.2.1 0 + 1), a.2.2.1, a.2.2.2)).2.1, (lpj np (a.1 + 1) np.toNat 0 (iup a.2.1 0 (a.2.1 0 + 1), a.2.2.1, a.2.2.2)).2.2)
    rw [lpj_2] at e
    dsimp only at e ⊢
    rw [lpj_2]
    dsimp only
    rw [lpk_s np.toNat 0 a.2.2.1 a.2.2.2] at e ⊢
    exact e
theorem MR_day {G : Int → Int} {dy nb : Int} {B : Int → Int} {nu : Int} {U : Int → Int} {np : Int} {P : Int → Int} (R : MR G dy nb B nu U np P) (hb6 : ∀ b, 0 ≤ tg nb 7 B b 0 ∧ tg nb 7 B b 0 ≤ 6) : MR (iup G 0 (G 0 + 1)) (dy + 1) nb B nu U np P := by
  obtain ⟨R0, R1, R2, R3, RB, RUU, RP⟩ := R
  have hz : ∀ k, k < 0 ∨ 0 < k → iup G 0 (G 0 + 1) k = G k := fun k hk => if_neg (by omega)
  refine ⟨by rw [iup_eq, R0], by rw [hz _ (by omega)]; exact R1, by rw [hz _ (by omega)]; exact R2, by rw [hz _ (by omega)]; exact R3, fun b h0 h1 => ?_, fun u j h0 h1 h2 h3 => by rw [hz _ (by omega)]; exact RUU u j h0 h1 h2 h3, fun q j h0 h1 h2 h3 => by rw [hz _ (by omega)]; exact RP q j h0 h1 h2 h3⟩
  have q := hb6 b
  rw [hz _ (by omega)]
  refine ⟨(RB b h0 h1).1, fun f f0 f1 => ?_⟩
  rw [hz _ (by omega)]
  exact (RB b h0 h1).2 f f0 f1
section M13
variable {d : Nat} {h : XH} {G A : Int → Int} {pm : Int} {S : Int → Int} {iv : Int32} {tw ke er : Int} {I : Int → Int} {ty : Int} {ab pt rm : Int → Int} {en aa : Int} {iw : Int32} {kd n1 n2 n3 n4 : Int} {gd : Int32} {Q : XO → XH → Prop} {dy nb nu np nf : Int} {B U P F : Int → Int} {b f u p i j x y z t k : Int}
theorem m_pass1 (hx : -2147483648 ≤ x ∧ x < 2147483648) (hh : ¬ (1 ≤ x ∧ x ≤ 99)) : Call (d + 1) m_X8_pass [.ref 109, .int (iI x)] (wm h G A pm S iv tw ke er I ty ab pt rm en aa iw kd n1 n2 n3 n4 gd) Q = Q (.inl (some (.int (iI 0)))) (wm h G A pm S iv 1 ke er I ty ab pt rm en aa iw kd n1 n2 n3 n4 gd) := by
  simp (disch := (first | exact tgR (by assumption) | assumption | omega | with_unfolding_all rfl)) only [w_X8_pass_0, w_X8_pass_5, w_X8_pass_12, w_X8_pass_15, w_X8_pass_20, w_X8_pass_21, w_X8_pass_25, w_X8_pass_27, w_X8_pass_35, w_X8_pass_40, w_X8_pass_41, w_X8_pass_45, w_X8_pass_54, w_X8_pass_58, w_X8_pass_61, w_X8_pass_64, w_X8_pass_73, w_X8_pass_75, w_X8_pass_78, w_X8_pass_85, w_X8_pass_89, w_X8_pass_93, w_X8_pass_95, w_X8_pass_103, w_X8_pass_109, w_X8_pass_116, w_X8_pass_119, w_X8_pass_125, w_X8_pass_131, c_X8_pass, iI_add, iI_sub, iI_mul, iI_neg, iI_lt, iI_le, iI_eq, ne_eq, bI_e0, bI_e1, nor_em, bI_n0, bI_z, bI_zr, Classical.not_not, eq_self, true_or, or_true, false_or, or_false, if_true, if_false, ite_not, ↓reduceIte, dle_t, dle_f, dlt_t, dlt_f, deq_t, deq_f, Int.reduceEq, Int.reduceLT, Int.reduceLE, Int.reduceAdd, Int.reduceNeg, Nat.reduceAdd, bck_i, bck_v, r_sizeB, r_sizeU, r_sizeP, r_sizeF, r_hasB, r_hasU, r_hasP, r_getB, r_getU, r_getP, r_getF, r_putB, r_putU, r_putP, r_putF, eob_at, egf0, egf1, egf2, egf3, egf4, hw_0, hw_1, hw_3, hw_5, hw_7, rco, tbl, xm_109, xm_110, xm_111, xm_112, xm_113, xm_114, xm_115, xm_116, pm_o, epm_2, epm_5, epm_6, epm_7, epm_9, epm_13, epm_14, epm_16, epm_17, epm_18, epm_19, epm_20, epm_4t, epm_4f, epm_4b, epm_15t, epm_15f, epm_15b, epm_21t, epm_21f, epm_21b, egf12, egf13, egf14, egf15, egf16, egf17, egf18, egf19, egf20, egf21, il_15, and_self, and_true, true_and, and_false, false_and, egf5, egf6, egf7, egf8, egf9, egf10, egf11, il_m1, il_0, il_1, il_2, il_3, il_4, il_5, il_6, il_7, il_8, il_9, il_10, il_11, il_12, il_13, il_14, il_26, il_28, il_30, il_32, il_35, il_40, il_43, il_44, il_48, il_50, il_52, il_57, il_58, il_59, il_60, il_61, il_64, il_65, il_70, il_78, il_95, il_97, il_99, il_100, il_101, il_102, il_106, il_115, il_117, il_660, il_812, il_999, il_1000, il_1092, il_8736, il_9999, m_isIn, m_fail, eq_false hh, not_false_eq_true]
theorem m_pass2 (R : MR G dy nb B nu U np P) (hw : WF dy nb B nu U np P nf F) (hh : 1 ≤ x ∧ x ≤ 99) (h2 : 9999 < dy + x) : Call (d + 1) m_X8_pass [.ref 109, .int (iI x)] (wm h G A pm S iv tw ke er I ty ab pt rm en aa iw kd n1 n2 n3 n4 gd) Q = Q (.inl (some (.int (iI 0)))) (wm h G A pm S iv 2 ke er I ty ab pt rm en aa iw kd n1 n2 n3 n4 gd) := by
  obtain ⟨⟨dy1, dy2⟩, ⟨b1, b2⟩, ⟨u1, u2⟩, ⟨p1, p2⟩, ⟨f1, f2⟩, hB, hU, hP, hF⟩ := id hw
  obtain ⟨R0, R1, R2, R3, RB, RUU, RP⟩ := id R
  simp (disch := (first | exact tgR (by assumption) | assumption | omega | with_unfolding_all rfl)) only [w_X8_pass_0, w_X8_pass_5, w_X8_pass_12, w_X8_pass_15, w_X8_pass_20, w_X8_pass_21, w_X8_pass_25, w_X8_pass_27, w_X8_pass_35, w_X8_pass_40, w_X8_pass_41, w_X8_pass_45, w_X8_pass_54, w_X8_pass_58, w_X8_pass_61, w_X8_pass_64, w_X8_pass_73, w_X8_pass_75, w_X8_pass_78, w_X8_pass_85, w_X8_pass_89, w_X8_pass_93, w_X8_pass_95, w_X8_pass_103, w_X8_pass_109, w_X8_pass_116, w_X8_pass_119, w_X8_pass_125, w_X8_pass_131, c_X8_pass, iI_add, iI_sub, iI_mul, iI_neg, iI_lt, iI_le, iI_eq, ne_eq, bI_e0, bI_e1, nor_em, bI_n0, bI_z, bI_zr, Classical.not_not, eq_self, true_or, or_true, false_or, or_false, if_true, if_false, ite_not, ↓reduceIte, dle_t, dle_f, dlt_t, dlt_f, deq_t, deq_f, Int.reduceEq, Int.reduceLT, Int.reduceLE, Int.reduceAdd, Int.reduceNeg, Nat.reduceAdd, bck_i, bck_v, r_sizeB, r_sizeU, r_sizeP, r_sizeF, r_hasB, r_hasU, r_hasP, r_getB, r_getU, r_getP, r_getF, r_putB, r_putU, r_putP, r_putF, eob_at, egf0, egf1, egf2, egf3, egf4, hw_0, hw_1, hw_3, hw_5, hw_7, rco, tbl, xm_109, xm_110, xm_111, xm_112, xm_113, xm_114, xm_115, xm_116, pm_o, epm_2, epm_5, epm_6, epm_7, epm_9, epm_13, epm_14, epm_16, epm_17, epm_18, epm_19, epm_20, epm_4t, epm_4f, epm_4b, epm_15t, epm_15f, epm_15b, epm_21t, epm_21f, epm_21b, egf12, egf13, egf14, egf15, egf16, egf17, egf18, egf19, egf20, egf21, il_15, and_self, and_true, true_and, and_false, false_and, egf5, egf6, egf7, egf8, egf9, egf10, egf11, il_m1, il_0, il_1, il_2, il_3, il_4, il_5, il_6, il_7, il_8, il_9, il_10, il_11, il_12, il_13, il_14, il_26, il_28, il_30, il_32, il_35, il_40, il_43, il_44, il_48, il_50, il_52, il_57, il_58, il_59, il_60, il_61, il_64, il_65, il_70, il_78, il_95, il_97, il_99, il_100, il_101, il_102, il_106, il_115, il_117, il_660, il_812, il_999, il_1000, il_1092, il_8736, il_9999, m_isIn, m_fail, ega_n, R0, eq_true hh, not_true_eq_false]
theorem m_lapse {l4 : Value} {s q : Int} (R : MR G dy nb B nu U np P) (hw : WF dy nb B nu U np P nf F) (hb6 : ∀ b, 0 ≤ tg nb 7 B b 0 ∧ tg nb 7 B b 0 ≤ 6) (hD : ∀ q, 0 ≤ tg np 7 P q 6 ∧ tg np 7 P q 6 ≤ 9999) : EvQ (d + 1) m_X8_pass 67 [.ref 109, .int (iI x), .int (iI s), .int (iI q), .int (iI 0)] [] (wm h G A pm S iv tw ke er I ty ab pt rm en aa iw kd n1 n2 n3 n4 gd) Q = EvQ (d + 1) m_X8_pass 49 [.ref 109, .int (iI x), .int (iI (lpj np dy np.toNat 0 (G, P, s)).2.2), .int (iI (q + 1)), .int (iI np)] [] (wm h ((lpj np dy np.toNat 0 (G, P, s)).1) A pm S iv tw ke er I ty ab pt rm en aa iw kd n1 n2 n3 n4 gd) Q := by
  obtain ⟨⟨dy1, dy2⟩, ⟨b1, b2⟩, ⟨u1, u2⟩, ⟨p1, p2⟩, ⟨f1, f2⟩, hB, hU, hP, hF⟩ := id hw
  obtain ⟨R0, R1, R2, R3, RB, RUU, RP⟩ := id R
  have key := lpI (n := np) (I := fun i (a : (Int → Int) × (Int → Int) × Int) => MR a.1 dy nb B nu U np a.2.1 ∧ RU a.2.1 ∧ ∀ q, 0 ≤ tg np 7 a.2.1 q 6 ∧ tg np 7 a.2.1 q 6 ≤ 9999) (E := fun i a => EvQ (d + 1) m_X8_pass 67 [.ref 109, .int (iI x), .int (iI a.2.2), .int (iI q), .int (iI i)] [] (wm h a.1 A pm S iv tw ke er I ty ab pt rm en aa iw kd n1 n2 n3 n4 gd) Q) (V := fun i a => EvQ (d + 1) m_X8_pass 49 [.ref 109, .int (iI x), .int (iI (lpj np dy (np - i).toNat i a).2.2), .int (iI (q + 1)), .int (iI np)] [] (wm h ((lpj np dy (np - i).toNat i a).1) A pm S iv tw ke er I ty ab pt rm en aa iw kd n1 n2 n3 n4 gd) Q) ?_ ?_ 0 (G, P, s) (by omega) (by omega) ⟨R, hP, hD⟩
  · rw [Int.sub_zero] at key
    exact key
  · rintro ⟨G, P, s⟩ ⟨R, hP, hD⟩
    try dsimp only at R hP hD ⊢
    obtain ⟨R0, R1, R2, R3, RB, RUU, RP⟩ := id R
    rw [w_X8_pass_67, Int.sub_self]
    simp (disch := (first | exact tgR (by assumption) | assumption | omega | with_unfolding_all rfl)) only [w_X8_pass_0, w_X8_pass_5, w_X8_pass_12, w_X8_pass_15, w_X8_pass_20, w_X8_pass_21, w_X8_pass_25, w_X8_pass_27, w_X8_pass_35, w_X8_pass_40, w_X8_pass_41, w_X8_pass_45, w_X8_pass_54, w_X8_pass_58, w_X8_pass_61, w_X8_pass_64, w_X8_pass_73, w_X8_pass_75, w_X8_pass_78, w_X8_pass_85, w_X8_pass_89, w_X8_pass_93, w_X8_pass_95, w_X8_pass_103, w_X8_pass_109, w_X8_pass_116, w_X8_pass_119, w_X8_pass_125, w_X8_pass_131, c_X8_pass, iI_add, iI_sub, iI_mul, iI_neg, iI_lt, iI_le, iI_eq, ne_eq, bI_e0, bI_e1, nor_em, bI_n0, bI_z, bI_zr, Classical.not_not, eq_self, true_or, or_true, false_or, or_false, if_true, if_false, ite_not, ↓reduceIte, dle_t, dle_f, dlt_t, dlt_f, deq_t, deq_f, Int.reduceEq, Int.reduceLT, Int.reduceLE, Int.reduceAdd, Int.reduceNeg, Nat.reduceAdd, bck_i, bck_v, r_sizeB, r_sizeU, r_sizeP, r_sizeF, r_hasB, r_hasU, r_hasP, r_getB, r_getU, r_getP, r_getF, r_putB, r_putU, r_putP, r_putF, eob_at, egf0, egf1, egf2, egf3, egf4, hw_0, hw_1, hw_3, hw_5, hw_7, rco, tbl, xm_109, xm_110, xm_111, xm_112, xm_113, xm_114, xm_115, xm_116, pm_o, epm_2, epm_5, epm_6, epm_7, epm_9, epm_13, epm_14, epm_16, epm_17, epm_18, epm_19, epm_20, epm_4t, epm_4f, epm_4b, epm_15t, epm_15f, epm_15b, epm_21t, epm_21f, epm_21b, egf12, egf13, egf14, egf15, egf16, egf17, egf18, egf19, egf20, egf21, il_15, and_self, and_true, true_and, and_false, false_and, egf5, egf6, egf7, egf8, egf9, egf10, egf11, il_m1, il_0, il_1, il_2, il_3, il_4, il_5, il_6, il_7, il_8, il_9, il_10, il_11, il_12, il_13, il_14, il_26, il_28, il_30, il_32, il_35, il_40, il_43, il_44, il_48, il_50, il_52, il_57, il_58, il_59, il_60, il_61, il_64, il_65, il_70, il_78, il_95, il_97, il_99, il_100, il_101, il_102, il_106, il_115, il_117, il_660, il_812, il_999, il_1000, il_1092, il_8736, il_9999, ega_n, R3]
    rfl
  · rintro i ⟨G, P, s⟩ h0 h1 ⟨R, hP, hD⟩ ih
    try dsimp only at R hP hD ih ⊢
    obtain ⟨R0, R1, R2, R3, RB, RUU, RP⟩ := id R
    have hd := hD i
    rw [w_X8_pass_67, show (np - i).toNat = (np - (i + 1)).toNat + 1 by omega]
    unfold lpj
    try dsimp only
    by_cases c1 : tg np 7 P i 5 = 1
    · by_cases c2 : 30 < dy - tg np 7 P i 6
      · rw [if_pos ⟨c1, c2⟩]
        simp (disch := (first | exact tgR (by assumption) | assumption | omega | with_unfolding_all rfl)) only [w_X8_pass_0, w_X8_pass_5, w_X8_pass_12, w_X8_pass_15, w_X8_pass_20, w_X8_pass_21, w_X8_pass_25, w_X8_pass_27, w_X8_pass_35, w_X8_pass_40, w_X8_pass_41, w_X8_pass_45, w_X8_pass_54, w_X8_pass_58, w_X8_pass_61, w_X8_pass_64, w_X8_pass_73, w_X8_pass_75, w_X8_pass_78, w_X8_pass_85, w_X8_pass_89, w_X8_pass_93, w_X8_pass_95, w_X8_pass_103, w_X8_pass_109, w_X8_pass_116, w_X8_pass_119, w_X8_pass_125, w_X8_pass_131, c_X8_pass, iI_add, iI_sub, iI_mul, iI_neg, iI_lt, iI_le, iI_eq, ne_eq, bI_e0, bI_e1, nor_em, bI_n0, bI_z, bI_zr, Classical.not_not, eq_self, true_or, or_true, false_or, or_false, if_true, if_false, ite_not, ↓reduceIte, dle_t, dle_f, dlt_t, dlt_f, deq_t, deq_f, Int.reduceEq, Int.reduceLT, Int.reduceLE, Int.reduceAdd, Int.reduceNeg, Nat.reduceAdd, bck_i, bck_v, r_sizeB, r_sizeU, r_sizeP, r_sizeF, r_hasB, r_hasU, r_hasP, r_getB, r_getU, r_getP, r_getF, r_putB, r_putU, r_putP, r_putF, eob_at, egf0, egf1, egf2, egf3, egf4, hw_0, hw_1, hw_3, hw_5, hw_7, rco, tbl, xm_109, xm_110, xm_111, xm_112, xm_113, xm_114, xm_115, xm_116, pm_o, epm_2, epm_5, epm_6, epm_7, epm_9, epm_13, epm_14, epm_16, epm_17, epm_18, epm_19, epm_20, epm_4t, epm_4f, epm_4b, epm_15t, epm_15f, epm_15b, epm_21t, epm_21f, epm_21b, egf12, egf13, egf14, egf15, egf16, egf17, egf18, egf19, egf20, egf21, il_15, and_self, and_true, true_and, and_false, false_and, egf5, egf6, egf7, egf8, egf9, egf10, egf11, il_m1, il_0, il_1, il_2, il_3, il_4, il_5, il_6, il_7, il_8, il_9, il_10, il_11, il_12, il_13, il_14, il_26, il_28, il_30, il_32, il_35, il_40, il_43, il_44, il_48, il_50, il_52, il_57, il_58, il_59, il_60, il_61, il_64, il_65, il_70, il_78, il_95, il_97, il_99, il_100, il_101, il_102, il_106, il_115, il_117, il_660, il_812, il_999, il_1000, il_1092, il_8736, il_9999, ega_n, R3, R0, m_p, RP, m_bec, eq_true c1, not_true_eq_false]
        refine ih (stG G i 5, stP np P i 5 dy, s + 1) ⟨MR_st R ⟨b1, b2, u1, u2⟩ hb6 ⟨h0, h1⟩, stR hP (by omega) (by omega), fun q => ?_⟩
        try dsimp only
        rw [tg_st ⟨h0, h1⟩ (by omega)]
        have := hD q
        repeat (first | omega | split)
      · rw [if_neg (fun w => c2 w.2)]
        simp (disch := (first | exact tgR (by assumption) | assumption | omega | with_unfolding_all rfl)) only [w_X8_pass_0, w_X8_pass_5, w_X8_pass_12, w_X8_pass_15, w_X8_pass_20, w_X8_pass_21, w_X8_pass_25, w_X8_pass_27, w_X8_pass_35, w_X8_pass_40, w_X8_pass_41, w_X8_pass_45, w_X8_pass_54, w_X8_pass_58, w_X8_pass_61, w_X8_pass_64, w_X8_pass_73, w_X8_pass_75, w_X8_pass_78, w_X8_pass_85, w_X8_pass_89, w_X8_pass_93, w_X8_pass_95, w_X8_pass_103, w_X8_pass_109, w_X8_pass_116, w_X8_pass_119, w_X8_pass_125, w_X8_pass_131, c_X8_pass, iI_add, iI_sub, iI_mul, iI_neg, iI_lt, iI_le, iI_eq, ne_eq, bI_e0, bI_e1, nor_em, bI_n0, bI_z, bI_zr, Classical.not_not, eq_self, true_or, or_true, false_or, or_false, if_true, if_false, ite_not, ↓reduceIte, dle_t, dle_f, dlt_t, dlt_f, deq_t, deq_f, Int.reduceEq, Int.reduceLT, Int.reduceLE, Int.reduceAdd, Int.reduceNeg, Nat.reduceAdd, bck_i, bck_v, r_sizeB, r_sizeU, r_sizeP, r_sizeF, r_hasB, r_hasU, r_hasP, r_getB, r_getU, r_getP, r_getF, r_putB, r_putU, r_putP, r_putF, eob_at, egf0, egf1, egf2, egf3, egf4, hw_0, hw_1, hw_3, hw_5, hw_7, rco, tbl, xm_109, xm_110, xm_111, xm_112, xm_113, xm_114, xm_115, xm_116, pm_o, epm_2, epm_5, epm_6, epm_7, epm_9, epm_13, epm_14, epm_16, epm_17, epm_18, epm_19, epm_20, epm_4t, epm_4f, epm_4b, epm_15t, epm_15f, epm_15b, epm_21t, epm_21f, epm_21b, egf12, egf13, egf14, egf15, egf16, egf17, egf18, egf19, egf20, egf21, il_15, and_self, and_true, true_and, and_false, false_and, egf5, egf6, egf7, egf8, egf9, egf10, egf11, il_m1, il_0, il_1, il_2, il_3, il_4, il_5, il_6, il_7, il_8, il_9, il_10, il_11, il_12, il_13, il_14, il_26, il_28, il_30, il_32, il_35, il_40, il_43, il_44, il_48, il_50, il_52, il_57, il_58, il_59, il_60, il_61, il_64, il_65, il_70, il_78, il_95, il_97, il_99, il_100, il_101, il_102, il_106, il_115, il_117, il_660, il_812, il_999, il_1000, il_1092, il_8736, il_9999, ega_n, R3, R0, m_p, RP, m_bec, eq_true c1, not_true_eq_false]
        exact ih (G, P, s) ⟨R, hP, hD⟩
    · rw [if_neg (fun w => c1 w.1)]
      simp (disch := (first | exact tgR (by assumption) | assumption | omega | with_unfolding_all rfl)) only [w_X8_pass_0, w_X8_pass_5, w_X8_pass_12, w_X8_pass_15, w_X8_pass_20, w_X8_pass_21, w_X8_pass_25, w_X8_pass_27, w_X8_pass_35, w_X8_pass_40, w_X8_pass_41, w_X8_pass_45, w_X8_pass_54, w_X8_pass_58, w_X8_pass_61, w_X8_pass_64, w_X8_pass_73, w_X8_pass_75, w_X8_pass_78, w_X8_pass_85, w_X8_pass_89, w_X8_pass_93, w_X8_pass_95, w_X8_pass_103, w_X8_pass_109, w_X8_pass_116, w_X8_pass_119, w_X8_pass_125, w_X8_pass_131, c_X8_pass, iI_add, iI_sub, iI_mul, iI_neg, iI_lt, iI_le, iI_eq, ne_eq, bI_e0, bI_e1, nor_em, bI_n0, bI_z, bI_zr, Classical.not_not, eq_self, true_or, or_true, false_or, or_false, if_true, if_false, ite_not, ↓reduceIte, dle_t, dle_f, dlt_t, dlt_f, deq_t, deq_f, Int.reduceEq, Int.reduceLT, Int.reduceLE, Int.reduceAdd, Int.reduceNeg, Nat.reduceAdd, bck_i, bck_v, r_sizeB, r_sizeU, r_sizeP, r_sizeF, r_hasB, r_hasU, r_hasP, r_getB, r_getU, r_getP, r_getF, r_putB, r_putU, r_putP, r_putF, eob_at, egf0, egf1, egf2, egf3, egf4, hw_0, hw_1, hw_3, hw_5, hw_7, rco, tbl, xm_109, xm_110, xm_111, xm_112, xm_113, xm_114, xm_115, xm_116, pm_o, epm_2, epm_5, epm_6, epm_7, epm_9, epm_13, epm_14, epm_16, epm_17, epm_18, epm_19, epm_20, epm_4t, epm_4f, epm_4b, epm_15t, epm_15f, epm_15b, epm_21t, epm_21f, epm_21b, egf12, egf13, egf14, egf15, egf16, egf17, egf18, egf19, egf20, egf21, il_15, and_self, and_true, true_and, and_false, false_and, egf5, egf6, egf7, egf8, egf9, egf10, egf11, il_m1, il_0, il_1, il_2, il_3, il_4, il_5, il_6, il_7, il_8, il_9, il_10, il_11, il_12, il_13, il_14, il_26, il_28, il_30, il_32, il_35, il_40, il_43, il_44, il_48, il_50, il_52, il_57, il_58, il_59, il_60, il_61, il_64, il_65, il_70, il_78, il_95, il_97, il_99, il_100, il_101, il_102, il_106, il_115, il_117, il_660, il_812, il_999, il_1000, il_1092, il_8736, il_9999, ega_n, R3, R0, m_p, RP, m_bec, eq_false c1, not_false_eq_true]
      exact ih (G, P, s) ⟨R, hP, hD⟩
end M13
