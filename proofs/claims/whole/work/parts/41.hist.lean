set_option maxRecDepth 20000
/-! History. -/
theorem egr_par {i : Int} {K : Option Nat → Prop} (h : 0 ≤ i ∧ i < 8) : egr (some par) (iI i) K = K (some (14 + 9 * i.toNat)) := by
  unfold egr par
  dsimp only
  have hb : Nat.beq 5 5 = true := rfl
  rw [hb, cond_true, if_neg, iI_nat (by omega), if_pos (by omega)]
  rintro (z | z)
  · exact iI_not_neg (by omega) z
  · rw [iI_nat (by omega)] at z
    omega
theorem elen_par {K : Int32 → Prop} : elen (some par) K = K (iI 8) := rfl
theorem epf_h1 {a b c : Value} {x : Int} {K : va_E → Prop} : epf (some (.inr (3, [a, b, c]))) 3 1 (.int (iI x)) K = K (.inr (3, [a, .int (iI x), c])) := epf_at rfl rfl
theorem epf_h2 {a b c : Value} {x : Int} {K : va_E → Prop} : epf (some (.inr (3, [a, b, c]))) 3 2 (.int (iI x)) K = K (.inr (3, [a, b, .int (iI x)])) := epf_at rfl rfl
theorem va_rf_some (a : Nat) : va_rf (some a) = .ref a := rfl
theorem iI_if {p : Prop} {inst : Decidable p} {a b : Int} : (@ite Int32 p inst (iI a) (iI b)) = iI (@ite Int p inst a b) := by
  split <;> rfl
def ring (kp : Int) : Int := if 8 < kp + 1 then 8 else kp + 1
section Hist
variable {d : Nat} {H K : XH} {dy nb nu np nf : Int} {B U P F : Int → Int} {nx kp : Int} {pa : Int → RT} {zr0 zs : RT} {sv lr le ln ps : Int} {ch : Int → Int} {rq : Int} {V : Int → Int} {Q : XO → XH → Prop} {i j x y z b f k t ia u p : Int}
theorem h_place (C : CW H dy nb B nu U np P nf F nx kp pa zr0 zs sv lr le ln ps ch rq V) (hi : 0 ≤ i ∧ i < 8) : Call d m_X2_placeAt [.ref 12, .int (iI i)] (wr H 1 dy nb B nu U np P nf F) Q = Q (.inl (some (.ref (14 + 9 * i.toNat)))) (wr H 1 dy nb B nu U np P nf F) := by
  have g12 : hget (wr H 1 dy nb B nu U np P nf F) 12 = some (.inr (3, [.ref 13, .int (iI nx), .int (iI kp)])) := by rw [hw_n (by omega)]; exact C.2.2.2.2.1
  have g13 : hget (wr H 1 dy nb B nu U np P nf F) 13 = some par := by rw [hw_n (by omega)]; exact C.2.2.2.2.2.1
  simp (disch := (first | exact tgR (by assumption) | assumption | omega | rfl)) only [w_X2_placeAt_0, w_X2_placeAt_4, w_X2_placeAt_9, w_X2_placeAt_10, w_X2_placeAt_13, w_X2_placeAt_17, w_X2_placeAt_19, w_X2_placeAt_22, w_X2_placeAt_23, c_X2_placeAt, iI_add, iI_sub, iI_mul, iI_neg, iI_lt, iI_le, iI_eq, ne_eq, bI_e0, bI_e1, nor_em, bI_n0, bI_z, bI_zr, Classical.not_not, eq_self, true_or, or_true, false_or, or_false, if_true, if_false, ite_not, ↓reduceIte, dle_t, dle_f, dlt_t, dlt_f, deq_t, deq_f, Int.reduceEq, Int.reduceLT, Int.reduceLE, Int.reduceAdd, Int.reduceNeg, Nat.reduceAdd, bck_i, bck_v, bck_thr, r_sizeB, r_sizeU, r_sizeP, r_sizeF, r_hasB, r_hasU, r_hasP, r_getB, r_getU, r_getP, r_getF, r_putB, r_putU, r_putP, r_putF, eob_at, egf0, egf1, egf2, egf3, egf4, hw_0, hw_1, hw_3, hw_5, hw_7, rco, tbl, il_m1, il_0, il_1, il_2, il_3, il_4, il_5, il_6, il_7, il_8, il_9, il_10, il_11, il_12, il_13, il_14, il_26, il_28, il_30, il_32, il_35, il_40, il_43, il_44, il_48, il_50, il_52, il_57, il_58, il_59, il_60, il_61, il_64, il_65, il_70, il_78, il_95, il_97, il_99, il_100, il_101, il_102, il_106, il_115, il_117, il_660, il_812, il_999, il_1000, il_1092, il_8736, il_9999, g12, g13, egr_par, elen_par, va_rf_some]
theorem h_size (C : CW H dy nb B nu U np P nf F nx kp pa zr0 zs sv lr le ln ps ch rq V) : Call d m_X2_size [.ref 12] (wr H 1 dy nb B nu U np P nf F) Q = Q (.inl (some (.int (iI kp)))) (wr H 1 dy nb B nu U np P nf F) := by
  have g12 : hget (wr H 1 dy nb B nu U np P nf F) 12 = some (.inr (3, [.ref 13, .int (iI nx), .int (iI kp)])) := by rw [hw_n (by omega)]; exact C.2.2.2.2.1
  simp (disch := (first | exact tgR (by assumption) | assumption | omega | rfl)) only [w_X2_size_0, w_X2_size_4, c_X2_size, iI_add, iI_sub, iI_mul, iI_neg, iI_lt, iI_le, iI_eq, ne_eq, bI_e0, bI_e1, nor_em, bI_n0, bI_z, bI_zr, Classical.not_not, eq_self, true_or, or_true, false_or, or_false, if_true, if_false, ite_not, ↓reduceIte, dle_t, dle_f, dlt_t, dlt_f, deq_t, deq_f, Int.reduceEq, Int.reduceLT, Int.reduceLE, Int.reduceAdd, Int.reduceNeg, Nat.reduceAdd, bck_i, bck_v, bck_thr, r_sizeB, r_sizeU, r_sizeP, r_sizeF, r_hasB, r_hasU, r_hasP, r_getB, r_getU, r_getP, r_getF, r_putB, r_putU, r_putP, r_putF, eob_at, egf0, egf1, egf2, egf3, egf4, hw_0, hw_1, hw_3, hw_5, hw_7, rco, tbl, il_m1, il_0, il_1, il_2, il_3, il_4, il_5, il_6, il_7, il_8, il_9, il_10, il_11, il_12, il_13, il_14, il_26, il_28, il_30, il_32, il_35, il_40, il_43, il_44, il_48, il_50, il_52, il_57, il_58, il_59, il_60, il_61, il_64, il_65, il_70, il_78, il_95, il_97, il_99, il_100, il_101, il_102, il_106, il_115, il_117, il_660, il_812, il_999, il_1000, il_1092, il_8736, il_9999, g12]
theorem h_keep (C : CW H dy nb B nu U np P nf F nx kp pa zr0 zs sv lr le ln ps ch rq V) (hn : 0 ≤ nx ∧ nx < 8) (hk : 0 ≤ kp ∧ kp ≤ 8) : ∃ K, (∀ {d : Nat} {Q : XO → XH → Prop}, Call (d + 2) m_X2_keep [.ref 12, .ref 1] (wr H 1 dy nb B nu U np P nf F) Q = Q (.inl none) (wr K 1 dy nb B nu U np P nf F)) ∧ CW K dy nb B nu U np P nf F ((nx + 1).tmod 8) (ring kp) (fun j => if j = nx then (dy, nb, B, nu, U, np, P, nf, F) else pa j) zr0 zs sv lr le ln ps ch rq V ∧ HF H K := by
  refine ⟨hset (wr H (14 + 9 * nx.toNat) dy nb B nu U np P nf F) 12 (hio ((nx + 1).tmod 8) (ring kp)), ?_, CW_hi (CW_pa hn C), HF_trans (HF_wr (by omega)) (HF_set (by omega))⟩
  intro d Q
  have C' : wr H 1 dy nb B nu U np P nf F = H := C.1
  have g12 : hget (wr H 1 dy nb B nu U np P nf F) 12 = some (.inr (3, [.ref 13, .int (iI nx), .int (iI kp)])) := by rw [hw_n (by omega)]; exact C.2.2.2.2.1
  have g12' : hget (wr (wr H (14 + 9 * nx.toNat) dy nb B nu U np P nf F) 1 dy nb B nu U np P nf F) 12 = some (.inr (3, [.ref 13, .int (iI nx), .int (iI kp)])) := by rw [hw_n (by omega), hw_n (by omega)]; exact C.2.2.2.2.1
  have gp : hget (wr H 1 dy nb B nu U np P nf F) (14 + 9 * nx.toNat) = some (rco (14 + 9 * nx.toNat) (pa nx).1) := by rw [C']; exact RA_0 (C.2.2.2.2.2.2.1 nx hn.1 hn.2)
  have hpl : ∀ {d : Nat} {Q : XO → XH → Prop}, _ := fun {d Q} => h_place (d := d) (Q := Q) C hn
  have hcp : ∀ {d : Nat} {Q : XO → XH → Prop}, Call (d + 1) m_X4_copyFrom [.ref (14 + 9 * nx.toNat), .ref 1] (wr H 1 dy nb B nu U np P nf F) Q = Q (.inl none) (wr (wr H (14 + 9 * nx.toNat) dy nb B nu U np P nf F) 1 dy nb B nu U np P nf F) := by
    intro d Q
    have A := C.2.2.2.2.2.2.1 nx hn.1 hn.2
    have e := r_copyFrom (d := d) (Q := Q) (h := H) (r := 14 + 9 * nx.toNat) (o := 1) (dy := (pa nx).1) (nb := (pa nx).2.1) (B := (pa nx).2.2.1) (nu := (pa nx).2.2.2.1) (U := (pa nx).2.2.2.2.1) (np := (pa nx).2.2.2.2.2.1) (P := (pa nx).2.2.2.2.2.2.1) (nf := (pa nx).2.2.2.2.2.2.2.1) (F := (pa nx).2.2.2.2.2.2.2.2) C.1 (by omega)
    have A' : wr H (14 + 9 * nx.toNat) (pa nx).1 (pa nx).2.1 (pa nx).2.2.1 (pa nx).2.2.2.1 (pa nx).2.2.2.2.1 (pa nx).2.2.2.2.2.1 (pa nx).2.2.2.2.2.2.1 (pa nx).2.2.2.2.2.2.2.1 (pa nx).2.2.2.2.2.2.2.2 = H := A
    rw [A'] at e
    rw [C', e]
    refine congrArg (Q _) ?_
    rw [← wr_comm (by omega), C']
  unfold ring
  simp (disch := (first | exact tgR (by assumption) | assumption | omega | rfl)) only [w_X2_keep_0, w_X2_keep_5, w_X2_keep_8, w_X2_keep_13, w_X2_keep_18, w_X2_keep_23, w_X2_keep_28, w_X2_keep_31, w_X2_keep_36, w_X2_keep_43, w_X2_keep_46, c_X2_keep, iI_add, iI_sub, iI_mul, iI_neg, iI_lt, iI_le, iI_eq, ne_eq, bI_e0, bI_e1, nor_em, bI_n0, bI_z, bI_zr, Classical.not_not, eq_self, true_or, or_true, false_or, or_false, if_true, if_false, ite_not, ↓reduceIte, dle_t, dle_f, dlt_t, dlt_f, deq_t, deq_f, Int.reduceEq, Int.reduceLT, Int.reduceLE, Int.reduceAdd, Int.reduceNeg, Nat.reduceAdd, bck_i, bck_v, bck_thr, r_sizeB, r_sizeU, r_sizeP, r_sizeF, r_hasB, r_hasU, r_hasP, r_getB, r_getU, r_getP, r_getF, r_putB, r_putU, r_putP, r_putF, eob_at, egf0, egf1, egf2, egf3, egf4, hw_0, hw_1, hw_3, hw_5, hw_7, rco, tbl, il_m1, il_0, il_1, il_2, il_3, il_4, il_5, il_6, il_7, il_8, il_9, il_10, il_11, il_12, il_13, il_14, il_26, il_28, il_30, il_32, il_35, il_40, il_43, il_44, il_48, il_50, il_52, il_57, il_58, il_59, il_60, il_61, il_64, il_65, il_70, il_78, il_95, il_97, il_99, il_100, il_101, il_102, il_106, il_115, il_117, il_660, il_812, il_999, il_1000, il_1092, il_8736, il_9999, hpl, hcp, g12, g12', gp, epf_h1, epf_h2, hget_set, hset_set, iI_mod, iI_if]
  rw [wr_hset (by omega)]
  rfl
theorem h_back (C : CW H dy nb B nu U np P nf F nx kp pa zr0 zs sv lr le ln ps ch rq V) (hn : 0 ≤ nx ∧ nx < 8) (hk : 0 < kp ∧ kp ≤ 8) : ∃ K, (∀ {d : Nat} {Q : XO → XH → Prop}, Call (d + 2) m_X2_takeBack [.ref 12, .ref 1] (wr H 1 dy nb B nu U np P nf F) Q = Q (.inl none) (wrt K 1 (pa ((nx + 8 - 1).tmod 8)))) ∧ (∀ {dy nb nu np nf : Int} {B U P F : Int → Int}, CW (wr K 1 dy nb B nu U np P nf F) dy nb B nu U np P nf F ((nx + 8 - 1).tmod 8) (kp - 1) pa zr0 zs sv lr le ln ps ch rq V) ∧ HF H K := by
  refine ⟨hset H 12 (hio ((nx + 8 - 1).tmod 8) (kp - 1)), ?_, CW_now (CW_hi C), HF_set (by omega)⟩
  intro d Q
  have C' : wr H 1 dy nb B nu U np P nf F = H := C.1
  have hm : 0 ≤ (nx + 8 - 1).tmod 8 ∧ (nx + 8 - 1).tmod 8 < 8 := by
    rw [Int.tmod_eq_emod_of_nonneg (by omega)]
    omega
  generalize hz : (nx + 8 - 1).tmod 8 = z at hm ⊢
  have g12 : ∀ {dy nb nu np nf : Int} {B U P F : Int → Int}, hget (wr H 1 dy nb B nu U np P nf F) 12 = some (.inr (3, [.ref 13, .int (iI nx), .int (iI kp)])) := fun {dy nb nu np nf B U P F} => by rw [hw_n (by omega)]; exact C.2.2.2.2.1
  have gp : hget (wr H 1 dy nb B nu U np P nf F) 1 = some (rco 1 dy) := hw_0
  have hpl : ∀ {d : Nat} {Q : XO → XH → Prop}, _ := fun {d Q} => h_place (d := d) (Q := Q) C hm
  have hcp : ∀ {d : Nat} {Q : XO → XH → Prop}, Call (d + 1) m_X4_copyFrom [.ref 1, .ref (14 + 9 * z.toNat)] (wr H 1 dy nb B nu U np P nf F) Q = Q (.inl none) (wrt H 1 (pa z)) := by
    intro d Q
    exact r_copyFrom (C.2.2.2.2.2.2.1 z hm.1 hm.2) (by omega)
  have g12' : hget (wrt H 1 (pa z)) 12 = some (.inr (3, [.ref 13, .int (iI nx), .int (iI kp)])) := g12
  simp (disch := (first | exact tgR (by assumption) | assumption | omega | rfl)) only [w_X2_takeBack_0, w_X2_takeBack_4, w_X2_takeBack_12, w_X2_takeBack_18, w_X2_takeBack_23, w_X2_takeBack_27, w_X2_takeBack_30, w_X2_takeBack_35, w_X2_takeBack_40, w_X2_takeBack_45, w_X2_takeBack_50, c_X2_takeBack, iI_add, iI_sub, iI_mul, iI_neg, iI_lt, iI_le, iI_eq, ne_eq, bI_e0, bI_e1, nor_em, bI_n0, bI_z, bI_zr, Classical.not_not, eq_self, true_or, or_true, false_or, or_false, if_true, if_false, ite_not, ↓reduceIte, dle_t, dle_f, dlt_t, dlt_f, deq_t, deq_f, Int.reduceEq, Int.reduceLT, Int.reduceLE, Int.reduceAdd, Int.reduceNeg, Nat.reduceAdd, bck_i, bck_v, bck_thr, r_sizeB, r_sizeU, r_sizeP, r_sizeF, r_hasB, r_hasU, r_hasP, r_getB, r_getU, r_getP, r_getF, r_putB, r_putU, r_putP, r_putF, eob_at, egf0, egf1, egf2, egf3, egf4, hw_0, hw_1, hw_3, hw_5, hw_7, rco, tbl, il_m1, il_0, il_1, il_2, il_3, il_4, il_5, il_6, il_7, il_8, il_9, il_10, il_11, il_12, il_13, il_14, il_26, il_28, il_30, il_32, il_35, il_40, il_43, il_44, il_48, il_50, il_52, il_57, il_58, il_59, il_60, il_61, il_64, il_65, il_70, il_78, il_95, il_97, il_99, il_100, il_101, il_102, il_106, il_115, il_117, il_660, il_812, il_999, il_1000, il_1092, il_8736, il_9999, hpl, hcp, g12, g12', gp, epf_h1, epf_h2, hget_set, hset_set, iI_mod, hz]
  unfold wrt
  rw [wr_hset (by omega)]
  rfl
theorem h_clear (C : CW H dy nb B nu U np P nf F nx kp pa zr0 zs sv lr le ln ps ch rq V) : Call d m_X2_clear [.ref 12] (wr H 1 dy nb B nu U np P nf F) Q = Q (.inl none) (wr (hset H 12 (hio nx 0)) 1 dy nb B nu U np P nf F) := by
  have g12 : hget (wr H 1 dy nb B nu U np P nf F) 12 = some (.inr (3, [.ref 13, .int (iI nx), .int (iI kp)])) := by rw [hw_n (by omega)]; exact C.2.2.2.2.1
  simp (disch := (first | exact tgR (by assumption) | assumption | omega | rfl)) only [w_X2_clear_0, w_X2_clear_5, c_X2_clear, iI_add, iI_sub, iI_mul, iI_neg, iI_lt, iI_le, iI_eq, ne_eq, bI_e0, bI_e1, nor_em, bI_n0, bI_z, bI_zr, Classical.not_not, eq_self, true_or, or_true, false_or, or_false, if_true, if_false, ite_not, ↓reduceIte, dle_t, dle_f, dlt_t, dlt_f, deq_t, deq_f, Int.reduceEq, Int.reduceLT, Int.reduceLE, Int.reduceAdd, Int.reduceNeg, Nat.reduceAdd, bck_i, bck_v, bck_thr, r_sizeB, r_sizeU, r_sizeP, r_sizeF, r_hasB, r_hasU, r_hasP, r_getB, r_getU, r_getP, r_getF, r_putB, r_putU, r_putP, r_putF, eob_at, egf0, egf1, egf2, egf3, egf4, hw_0, hw_1, hw_3, hw_5, hw_7, rco, tbl, il_m1, il_0, il_1, il_2, il_3, il_4, il_5, il_6, il_7, il_8, il_9, il_10, il_11, il_12, il_13, il_14, il_26, il_28, il_30, il_32, il_35, il_40, il_43, il_44, il_48, il_50, il_52, il_57, il_58, il_59, il_60, il_61, il_64, il_65, il_70, il_78, il_95, il_97, il_99, il_100, il_101, il_102, il_106, il_115, il_117, il_660, il_812, il_999, il_1000, il_1092, il_8736, il_9999, g12, epf_h2]
  rw [wr_hset (by omega)]
  rfl
end Hist
