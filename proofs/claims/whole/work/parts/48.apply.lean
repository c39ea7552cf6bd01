set_option maxRecDepth 20000
/-! Requests; applying. -/
def zP (p A B : Prop) : Prop := (p ∧ A) ∨ (¬ p ∧ B)
theorem zP_t {p A B : Prop} (h : p) : zP p A B = A := propext ⟨fun z => z.elim (fun y => y.2) (fun y => absurd h y.1), fun z => Or.inl ⟨h, z⟩⟩
theorem zP_f {p A B : Prop} (h : ¬ p) : zP p A B = B := propext ⟨fun z => z.elim (fun y => absurd y.1 h) (fun y => y.2), fun z => Or.inr ⟨h, z⟩⟩
/-- the numbers of an application are in their ranges -/
def aN (k one two three four : Int) : Prop :=
  (k = 0 ∧ (0 ≤ one ∧ one ≤ 9) ∧ (0 ≤ two ∧ two ≤ 9) ∧ (1 ≤ three ∧ three ≤ 999) ∧ (0 ≤ four ∧ four ≤ 4)) ∨
  (k = 1 ∧ (0 ≤ one ∧ one ≤ 999) ∧ (1 ≤ two ∧ two ≤ 999) ∧ three = 0 ∧ four = 0) ∨
  (k = 2 ∧ (0 ≤ one ∧ one ≤ 999) ∧ (0 ≤ two ∧ two ≤ 999) ∧ three = 0 ∧ four = 0) ∨
  (k = 3 ∧ (0 ≤ one ∧ one ≤ 999) ∧ (1 ≤ two ∧ two ≤ 999) ∧ (0 ≤ three ∧ three ≤ 4) ∧ (0 ≤ four ∧ four ≤ 4)) ∨
  (k = 4 ∧ (0 ≤ one ∧ one ≤ 999) ∧ two = 0 ∧ three = 0 ∧ four = 0) ∨
  (k = 5 ∧ (0 ≤ one ∧ one ≤ 9) ∧ (10 ≤ two ∧ two ≤ 999) ∧ three = 0 ∧ four = 0)
theorem rs5 {X : Int → Int} : (∀ r, (5 : Int) ≤ r → r ≤ 4 → X r = 0) = True := eq_true fun r a b => by omega
theorem rs3 {X : Int → Int} : (∀ r, (3 : Int) ≤ r → r ≤ 4 → X r = 0) = (X 3 = 0 ∧ X 4 = 0) := propext ⟨fun z => ⟨z 3 (by omega) (by omega), z 4 (by omega) (by omega)⟩, fun z r a b => by
  rcases (show r = 3 ∨ r = 4 by omega) with e | e <;> subst e
  · exact z.1
  · exact z.2⟩
theorem rs2 {X : Int → Int} : (∀ r, (2 : Int) ≤ r → r ≤ 4 → X r = 0) = (X 2 = 0 ∧ X 3 = 0 ∧ X 4 = 0) := propext ⟨fun z => ⟨z 2 (by omega) (by omega), z 3 (by omega) (by omega), z 4 (by omega) (by omega)⟩, fun z r a b => by
  rcases (show r = 2 ∨ r = 3 ∨ r = 4 by omega) with e | e | e <;> subst e
  · exact z.1
  · exact z.2.1
  · exact z.2.2⟩
def inR (X : Int → Int) : Prop := (0 ≤ X 0 ∧ X 0 < 6) ∧ rgk X (frm (fk (X 0))) 1
theorem inR_aN {X : Int → Int} : inR X = aN (X 0) (X 1) (X 2) (X 3) (X 4) := by
  unfold inR
  by_cases c : 0 ≤ X 0 ∧ X 0 < 6
  · have hcase : X 0 = 0 ∨ X 0 = 1 ∨ X 0 = 2 ∨ X 0 = 3 ∨ X 0 = 4 ∨ X 0 = 5 := by omega
    have f0 : frm (fk 0) = [117, 35, 35, 61, 65, 64] := rfl
    have f1 : frm (fk 1) = [115, 78, 58, 65] := rfl
    have f2 : frm (fk 2) = [106, 78, 43, 78] := rfl
    have f3 : frm (fk 3) = [99, 78, 58, 65, 64, 64] := rfl
    have f4 : frm (fk 4) = [101, 78] := rfl
    have f5 : frm (fk 5) = [102, 35, 61, 70] := rfl
    rcases hcase with e | e | e | e | e | e
    all_goals
      rw [e]
      simp [rgk, isNm, loN, hiN, aN, rs5, rs3, rs2, f0, f1, f2, f3, f4, f5]
    all_goals (try (constructor <;> omega))
  · refine propext ⟨fun z => absurd z.1 c, fun z => ?_⟩
    unfold aN at z
    omega
def wq (H : XH) (rq : Int) (V : Int → Int) : XH := hset (hset H 107 (tbl 107 5 rq)) 108 (nar 150 V)
section Rq
variable {d : Nat} {H K : XH} {dy nb nu np nf : Int} {B U P F : Int → Int} {nx kp : Int} {pa : Int → RT} {zr0 zs : RT} {sv lr le ln ps : Int} {ch : Int → Int} {rq : Int} {V : Int → Int} {Q : XO → XH → Prop} {i j x y z b f k t ia u p : Int}
theorem wq_same (T : TA H 107 150 5 rq V) : wq H rq V = H := by
  unfold wq
  rw [hset_same T.1, hset_same T.2]
theorem TA_wq : TA (wq H rq V) 107 150 5 rq V := ⟨by unfold wq; rw [hget_ne (by omega), hget_set], by unfold wq; rw [hget_set]⟩
theorem wq_107 {y : Int} : hset (wq H rq V) 107 (tbl 107 5 y) = wq H y V := by
  unfold wq
  rw [hset_comm (by omega), hset_set]
theorem wq_108 {X : Int → Int} : hset (wq H rq V) 108 (nar 150 X) = wq H rq X := by
  unfold wq
  rw [hset_set]
theorem q_get (hr : 0 ≤ rq ∧ rq ≤ 30) (hi : -2147483648 ≤ i ∧ i < 2147483648) (hj : -2147483648 ≤ j ∧ j < 2147483648) : Call d m_X5_get [.ref 107, .int (iI i), .int (iI j)] (wr (wq H rq V) 1 dy nb B nu U np P nf F) Q = Q (.inl (some (.int (iI (tg rq 5 V i j))))) (wr (wq H rq V) 1 dy nb B nu U np P nf F) := t_get (TA_wr TA_wq (by omega)) hi hj (by omega) (by omega)
theorem q_size : Call d m_X5_size [.ref 107] (wr (wq H rq V) 1 dy nb B nu U np P nf F) Q = Q (.inl (some (.int (iI rq)))) (wr (wq H rq V) 1 dy nb B nu U np P nf F) := t_size (TA_wr TA_wq (by omega))
theorem q_put (hr : 0 ≤ rq ∧ rq ≤ 30) (hi : -2147483648 ≤ i ∧ i < 2147483648) (hj : -2147483648 ≤ j ∧ j < 2147483648) : Call d m_X5_put [.ref 107, .int (iI i), .int (iI j), .int (iI x)] (wr (wq H rq V) 1 dy nb B nu U np P nf F) Q = Q (.inl none) (wr (wq H rq (tu rq 5 V i j x)) 1 dy nb B nu U np P nf F) := by
  rw [t_put (TA_wr TA_wq (by omega)) hi hj (by omega) (by omega), wr_hset (by omega), wq_108]
theorem q_clear : Call d m_X5_clear [.ref 107] (wr (wq H rq V) 1 dy nb B nu U np P nf F) Q = Q (.inl none) (wr (wq H 0 V) 1 dy nb B nu U np P nf F) := by
  rw [t_clear (TA_wr TA_wq (by omega)), wr_hset (by omega), wq_107]
theorem q_append (hr : 0 ≤ rq ∧ rq < 30) : Call (d + 1) m_X5_append [.ref 107] (wr (wq H rq V) 1 dy nb B nu U np P nf F) Q = Q (.inl (some (.int (iI rq)))) (wr (wq H (rq + 1) (zr 5 rq V)) 1 dy nb B nu U np P nf F) := by
  rw [t_append (TA_wr TA_wq (by omega)) (by omega) (by omega) (by omega), if_pos (by omega), wr_hset (by omega), wq_107, wr_hset (by omega), wq_108]
theorem wq_n {q : Nat} (h : q < 107 ∨ 108 < q) : hget (wr (wq H rq V) 1 dy nb B nu U np P nf F) q = hget (wr H 1 dy nb B nu U np P nf F) q := by
  by_cases c : q < 1 ∨ 1 + 9 ≤ q
  · rw [hw_n c, hw_n c]
    unfold wq
    rw [hget_ne (by omega), hget_ne (by omega)]
  · have e : q = 1 ∨ q = 2 ∨ q = 3 ∨ q = 4 ∨ q = 5 ∨ q = 6 ∨ q = 7 ∨ q = 8 ∨ q = 9 := by omega
    rcases e with e | e | e | e | e | e | e | e | e <;> subst e <;> first
      | exact hw_0.trans hw_0.symm
      | exact (hw_1 (r := 1)).trans (hw_1 (r := 1)).symm
      | exact (hw_2 (r := 1)).trans (hw_2 (r := 1)).symm
      | exact (hw_3 (r := 1)).trans (hw_3 (r := 1)).symm
      | exact (hw_4 (r := 1)).trans (hw_4 (r := 1)).symm
      | exact (hw_5 (r := 1)).trans (hw_5 (r := 1)).symm
      | exact (hw_6 (r := 1)).trans (hw_6 (r := 1)).symm
      | exact (hw_7 (r := 1)).trans (hw_7 (r := 1)).symm
      | exact (hw_8 (r := 1)).trans (hw_8 (r := 1)).symm
def inRq (rq : Int) (V : Int → Int) (i : Int) : Prop := inR (fun c => tg rq 5 V i c)
theorem b_reqIR (C : CW H dy nb B nu U np P nf F nx kp pa zr0 zs sv lr le ln ps ch rq V) (hV : RU V) (hr : 0 ≤ rq ∧ rq ≤ 30) : Call (d + 2) m_X7_requireRequestsInRange [.ref 0] (wr H 1 dy nb B nu U np P nf F) Q = zP (am (fun i => ¬ inRq rq V i) 0 rq) (Q (.inr 0) (hexc (wr H 1 dy nb B nu U np P nf F))) (Q (.inl none) (wr H 1 dy nb B nu U np P nf F)) := by
  have g0 : ∀ {dy nb nu np nf : Int} {B U P F : Int → Int}, hget (wr H 1 dy nb B nu U np P nf F) 0 = some (.inr (8, [.ref 1, .ref 10, .ref 11, .ref 12, .ref 86, .ref 95, .ref 96, .ref 105, .ref 107, .int (iI sv), .int (iI lr), .int (iI le)])) := fun {dy nb nu np nf B U P F} => by rw [hw_n (by omega)]; exact C.2.1
  have g10 : ∀ {dy nb nu np nf : Int} {B U P F : Int → Int}, hget (wr H 1 dy nb B nu U np P nf F) 10 = some (.inr (7, [.ref 1])) := fun {dy nb nu np nf B U P F} => by rw [hw_n (by omega)]; exact C.2.2.1
  have g11 : ∀ {dy nb nu np nf : Int} {B U P F : Int → Int}, hget (wr H 1 dy nb B nu U np P nf F) 11 = some (.inr (2, [.ref 1])) := fun {dy nb nu np nf B U P F} => by rw [hw_n (by omega)]; exact C.2.2.2.1
  have g12 : ∀ {dy nb nu np nf : Int} {B U P F : Int → Int}, hget (wr H 1 dy nb B nu U np P nf F) 12 = some (.inr (3, [.ref 13, .int (iI nx), .int (iI kp)])) := fun {dy nb nu np nf B U P F} => by rw [hw_n (by omega)]; exact C.2.2.2.2.1
  have g105 : ∀ {dy nb nu np nf : Int} {B U P F : Int → Int}, hget (wr H 1 dy nb B nu U np P nf F) 105 = some (.inr (4, [.ref 106, .int (iI ln), .int (iI ps)])) := fun {dy nb nu np nf B U P F} => by rw [hw_n (by omega)]; exact C.2.2.2.2.2.2.2.2.2.2.1
  have g107 : ∀ {dy nb nu np nf : Int} {B U P F : Int → Int}, TA (wr H 1 dy nb B nu U np P nf F) 107 150 5 rq V := fun {dy nb nu np nf B U P F} => TA_wr C.2.2.2.2.2.2.2.2.2.2.2.2 (by omega)
  have gg : hget H 11 = some (.inr (2, [.ref 1])) := C.2.2.2.1
  have gw : hget H 10 = some (.inr (7, [.ref 1])) := C.2.2.1
  have hs : ∀ {d : Nat} {Q : XO → XH → Prop}, Call d m_X5_size [.ref 107] (wr H 1 dy nb B nu U np P nf F) Q = Q (.inl (some (.int (iI rq)))) (wr H 1 dy nb B nu U np P nf F) := fun {d Q} => t_size g107
  have h107 : hget (wr H 1 dy nb B nu U np P nf F) 107 = some (tbl 107 5 rq) := g107.1
  simp (disch := (first | exact tgR (by assumption) | assumption | omega | with_unfolding_all rfl)) only [w_X7_requireRequestsInRange_0, w_X7_requireRequestsInRange_7, w_X7_requireRequestsInRange_10, w_X7_requireRequestsInRange_13, w_X7_requireRequestsInRange_17, w_X7_requireRequestsInRange_21, w_X7_requireRequestsInRange_24, w_X7_requireRequestsInRange_35, w_X7_requireRequestsInRange_41, c_X7_requireRequestsInRange, iI_add, iI_sub, iI_mul, iI_neg, iI_lt, iI_le, iI_eq, ne_eq, bI_e0, bI_e1, nor_em, bI_n0, bI_z, bI_zr, Classical.not_not, eq_self, true_or, or_true, false_or, or_false, if_true, if_false, ite_not, ↓reduceIte, dle_t, dle_f, dlt_t, dlt_f, deq_t, deq_f, Int.reduceEq, Int.reduceLT, Int.reduceLE, Int.reduceAdd, Int.reduceNeg, Nat.reduceAdd, bck_i, bck_v, r_sizeB, r_sizeU, r_sizeP, r_sizeF, r_hasB, r_hasU, r_hasP, r_getB, r_getU, r_getP, r_getF, r_putB, r_putU, r_putP, r_putF, eob_at, egf0, egf1, egf2, egf3, egf4, hw_0, hw_1, hw_3, hw_5, hw_7, rco, tbl, il_15, and_self, and_true, true_and, and_false, false_and, egf5, egf6, egf7, egf8, egf9, egf10, egf11, il_m1, il_0, il_1, il_2, il_3, il_4, il_5, il_6, il_7, il_8, il_9, il_10, il_11, il_12, il_13, il_14, il_26, il_28, il_30, il_32, il_35, il_40, il_43, il_44, il_48, il_50, il_52, il_57, il_58, il_59, il_60, il_61, il_64, il_65, il_70, il_78, il_95, il_97, il_99, il_100, il_101, il_102, il_106, il_115, il_117, il_660, il_812, il_999, il_1000, il_1092, il_8736, il_9999, g0]
  refine lp (n := rq) (E := fun i (_ : Unit) => EvQ (d + 2) m_X7_requireRequestsInRange 2 [.ref 0, .int (iI i)] [] (wr H 1 dy nb B nu U np P nf F) Q) (V := fun i _ => zP (am (fun i => ¬ inRq rq V i) i rq) (Q (.inr 0) (hexc (wr H 1 dy nb B nu U np P nf F))) (Q (.inl none) (wr H 1 dy nb B nu U np P nf F))) ?_ ?_ 0 () (by omega) (by omega)
  · intro _
    rw [w_X7_requireRequestsInRange_2, am_end (Int.le_refl _), zP_f (fun z => z)]
    simp (disch := (first | exact tgR (by assumption) | assumption | omega | with_unfolding_all rfl)) only [w_X7_requireRequestsInRange_0, w_X7_requireRequestsInRange_7, w_X7_requireRequestsInRange_10, w_X7_requireRequestsInRange_13, w_X7_requireRequestsInRange_17, w_X7_requireRequestsInRange_21, w_X7_requireRequestsInRange_24, w_X7_requireRequestsInRange_35, w_X7_requireRequestsInRange_41, c_X7_requireRequestsInRange, iI_add, iI_sub, iI_mul, iI_neg, iI_lt, iI_le, iI_eq, ne_eq, bI_e0, bI_e1, nor_em, bI_n0, bI_z, bI_zr, Classical.not_not, eq_self, true_or, or_true, false_or, or_false, if_true, if_false, ite_not, ↓reduceIte, dle_t, dle_f, dlt_t, dlt_f, deq_t, deq_f, Int.reduceEq, Int.reduceLT, Int.reduceLE, Int.reduceAdd, Int.reduceNeg, Nat.reduceAdd, bck_i, bck_v, r_sizeB, r_sizeU, r_sizeP, r_sizeF, r_hasB, r_hasU, r_hasP, r_getB, r_getU, r_getP, r_getF, r_putB, r_putU, r_putP, r_putF, eob_at, egf0, egf1, egf2, egf3, egf4, hw_0, hw_1, hw_3, hw_5, hw_7, rco, tbl, il_15, and_self, and_true, true_and, and_false, false_and, egf5, egf6, egf7, egf8, egf9, egf10, egf11, il_m1, il_0, il_1, il_2, il_3, il_4, il_5, il_6, il_7, il_8, il_9, il_10, il_11, il_12, il_13, il_14, il_26, il_28, il_30, il_32, il_35, il_40, il_43, il_44, il_48, il_50, il_52, il_57, il_58, il_59, il_60, il_61, il_64, il_65, il_70, il_78, il_95, il_97, il_99, il_100, il_101, il_102, il_106, il_115, il_117, il_660, il_812, il_999, il_1000, il_1092, il_8736, il_9999, g0, h107, hs]
  · intro i _ h0 h1 ih
    have ih := ih ()
    have hir : ∀ {d : Nat} {Q : XO → XH → Prop}, Call (d + 1) m_X0_isInRange [.ref 107, .int (iI i)] (wr H 1 dy nb B nu U np P nf F) Q = Q (.inl (some (.int (bI (inRq rq V i))))) (wr H 1 dy nb B nu U np P nf F) := fun {d Q} => f_isInRange g107 hV ⟨h0, h1⟩ hr.2
    rw [w_X7_requireRequestsInRange_2, am_step h1]
    by_cases c : inRq rq V i
    · rw [show ((¬ inRq rq V i) ∨ am (fun i => ¬ inRq rq V i) (i + 1) rq) = am (fun i => ¬ inRq rq V i) (i + 1) rq from propext ⟨fun z => z.elim (fun y => absurd c y) id, Or.inr⟩]
      simp (disch := (first | exact tgR (by assumption) | assumption | omega | with_unfolding_all rfl)) only [w_X7_requireRequestsInRange_0, w_X7_requireRequestsInRange_7, w_X7_requireRequestsInRange_10, w_X7_requireRequestsInRange_13, w_X7_requireRequestsInRange_17, w_X7_requireRequestsInRange_21, w_X7_requireRequestsInRange_24, w_X7_requireRequestsInRange_35, w_X7_requireRequestsInRange_41, c_X7_requireRequestsInRange, iI_add, iI_sub, iI_mul, iI_neg, iI_lt, iI_le, iI_eq, ne_eq, bI_e0, bI_e1, nor_em, bI_n0, bI_z, bI_zr, Classical.not_not, eq_self, true_or, or_true, false_or, or_false, if_true, if_false, ite_not, ↓reduceIte, dle_t, dle_f, dlt_t, dlt_f, deq_t, deq_f, Int.reduceEq, Int.reduceLT, Int.reduceLE, Int.reduceAdd, Int.reduceNeg, Nat.reduceAdd, bck_i, bck_v, r_sizeB, r_sizeU, r_sizeP, r_sizeF, r_hasB, r_hasU, r_hasP, r_getB, r_getU, r_getP, r_getF, r_putB, r_putU, r_putP, r_putF, eob_at, egf0, egf1, egf2, egf3, egf4, hw_0, hw_1, hw_3, hw_5, hw_7, rco, tbl, il_15, and_self, and_true, true_and, and_false, false_and, egf5, egf6, egf7, egf8, egf9, egf10, egf11, il_m1, il_0, il_1, il_2, il_3, il_4, il_5, il_6, il_7, il_8, il_9, il_10, il_11, il_12, il_13, il_14, il_26, il_28, il_30, il_32, il_35, il_40, il_43, il_44, il_48, il_50, il_52, il_57, il_58, il_59, il_60, il_61, il_64, il_65, il_70, il_78, il_95, il_97, il_99, il_100, il_101, il_102, il_106, il_115, il_117, il_660, il_812, il_999, il_1000, il_1092, il_8736, il_9999, g0, h107, hs, hir, eq_true c, not_true_eq_false]
      exact ih
    · rw [zP_t (Or.inl c)]
      simp (disch := (first | exact tgR (by assumption) | assumption | omega | with_unfolding_all rfl)) only [w_X7_requireRequestsInRange_0, w_X7_requireRequestsInRange_7, w_X7_requireRequestsInRange_10, w_X7_requireRequestsInRange_13, w_X7_requireRequestsInRange_17, w_X7_requireRequestsInRange_21, w_X7_requireRequestsInRange_24, w_X7_requireRequestsInRange_35, w_X7_requireRequestsInRange_41, c_X7_requireRequestsInRange, iI_add, iI_sub, iI_mul, iI_neg, iI_lt, iI_le, iI_eq, ne_eq, bI_e0, bI_e1, nor_em, bI_n0, bI_z, bI_zr, Classical.not_not, eq_self, true_or, or_true, false_or, or_false, if_true, if_false, ite_not, ↓reduceIte, dle_t, dle_f, dlt_t, dlt_f, deq_t, deq_f, Int.reduceEq, Int.reduceLT, Int.reduceLE, Int.reduceAdd, Int.reduceNeg, Nat.reduceAdd, bck_i, bck_v, r_sizeB, r_sizeU, r_sizeP, r_sizeF, r_hasB, r_hasU, r_hasP, r_getB, r_getU, r_getP, r_getF, r_putB, r_putU, r_putP, r_putF, eob_at, egf0, egf1, egf2, egf3, egf4, hw_0, hw_1, hw_3, hw_5, hw_7, rco, tbl, il_15, and_self, and_true, true_and, and_false, false_and, egf5, egf6, egf7, egf8, egf9, egf10, egf11, il_m1, il_0, il_1, il_2, il_3, il_4, il_5, il_6, il_7, il_8, il_9, il_10, il_11, il_12, il_13, il_14, il_26, il_28, il_30, il_32, il_35, il_40, il_43, il_44, il_48, il_50, il_52, il_57, il_58, il_59, il_60, il_61, il_64, il_65, il_70, il_78, il_95, il_97, il_99, il_100, il_101, il_102, il_106, il_115, il_117, il_660, il_812, il_999, il_1000, il_1092, il_8736, il_9999, g0, h107, hs, hir, eq_false c, not_false_eq_true]
theorem b_reqRm (C : CW H dy nb B nu U np P nf F nx kp pa zr0 zs sv lr le ln ps ch rq V) (hw : WF dy nb B nu U np P nf F) (hr : 0 ≤ rq ∧ rq ≤ 30) : Call (d + 1) m_X7_requireRoomForRequests [.ref 0] (wr H 1 dy nb B nu U np P nf F) Q = if 40 < np + rq then Q (.inr 1) (hexc (wr H 1 dy nb B nu U np P nf F)) else Q (.inl none) (wr H 1 dy nb B nu U np P nf F) := by
  obtain ⟨⟨dy1, dy2⟩, ⟨b1, b2⟩, ⟨u1, u2⟩, ⟨p1, p2⟩, ⟨f1, f2⟩, hB, hU, hP, hF⟩ := id hw
  have g0 : ∀ {dy nb nu np nf : Int} {B U P F : Int → Int}, hget (wr H 1 dy nb B nu U np P nf F) 0 = some (.inr (8, [.ref 1, .ref 10, .ref 11, .ref 12, .ref 86, .ref 95, .ref 96, .ref 105, .ref 107, .int (iI sv), .int (iI lr), .int (iI le)])) := fun {dy nb nu np nf B U P F} => by rw [hw_n (by omega)]; exact C.2.1
  have g10 : ∀ {dy nb nu np nf : Int} {B U P F : Int → Int}, hget (wr H 1 dy nb B nu U np P nf F) 10 = some (.inr (7, [.ref 1])) := fun {dy nb nu np nf B U P F} => by rw [hw_n (by omega)]; exact C.2.2.1
  have g11 : ∀ {dy nb nu np nf : Int} {B U P F : Int → Int}, hget (wr H 1 dy nb B nu U np P nf F) 11 = some (.inr (2, [.ref 1])) := fun {dy nb nu np nf B U P F} => by rw [hw_n (by omega)]; exact C.2.2.2.1
  have g12 : ∀ {dy nb nu np nf : Int} {B U P F : Int → Int}, hget (wr H 1 dy nb B nu U np P nf F) 12 = some (.inr (3, [.ref 13, .int (iI nx), .int (iI kp)])) := fun {dy nb nu np nf B U P F} => by rw [hw_n (by omega)]; exact C.2.2.2.2.1
  have g105 : ∀ {dy nb nu np nf : Int} {B U P F : Int → Int}, hget (wr H 1 dy nb B nu U np P nf F) 105 = some (.inr (4, [.ref 106, .int (iI ln), .int (iI ps)])) := fun {dy nb nu np nf B U P F} => by rw [hw_n (by omega)]; exact C.2.2.2.2.2.2.2.2.2.2.1
  have g107 : ∀ {dy nb nu np nf : Int} {B U P F : Int → Int}, TA (wr H 1 dy nb B nu U np P nf F) 107 150 5 rq V := fun {dy nb nu np nf B U P F} => TA_wr C.2.2.2.2.2.2.2.2.2.2.2.2 (by omega)
  have gg : hget H 11 = some (.inr (2, [.ref 1])) := C.2.2.2.1
  have gw : hget H 10 = some (.inr (7, [.ref 1])) := C.2.2.1
  have hs : ∀ {d : Nat} {Q : XO → XH → Prop}, Call d m_X5_size [.ref 107] (wr H 1 dy nb B nu U np P nf F) Q = Q (.inl (some (.int (iI rq)))) (wr H 1 dy nb B nu U np P nf F) := fun {d Q} => t_size g107
  have h107 : hget (wr H 1 dy nb B nu U np P nf F) 107 = some (tbl 107 5 rq) := g107.1
  by_cases c : 40 < np + rq
  · rw [if_pos c]
    simp (disch := (first | exact tgR (by assumption) | assumption | omega | with_unfolding_all rfl)) only [w_X7_requireRoomForRequests_0, w_X7_requireRoomForRequests_4, w_X7_requireRoomForRequests_7, w_X7_requireRoomForRequests_10, w_X7_requireRoomForRequests_14, w_X7_requireRoomForRequests_17, w_X7_requireRoomForRequests_23, w_X7_requireRoomForRequests_34, c_X7_requireRoomForRequests, iI_add, iI_sub, iI_mul, iI_neg, iI_lt, iI_le, iI_eq, ne_eq, bI_e0, bI_e1, nor_em, bI_n0, bI_z, bI_zr, Classical.not_not, eq_self, true_or, or_true, false_or, or_false, if_true, if_false, ite_not, ↓reduceIte, dle_t, dle_f, dlt_t, dlt_f, deq_t, deq_f, Int.reduceEq, Int.reduceLT, Int.reduceLE, Int.reduceAdd, Int.reduceNeg, Nat.reduceAdd, bck_i, bck_v, r_sizeB, r_sizeU, r_sizeP, r_sizeF, r_hasB, r_hasU, r_hasP, r_getB, r_getU, r_getP, r_getF, r_putB, r_putU, r_putP, r_putF, eob_at, egf0, egf1, egf2, egf3, egf4, hw_0, hw_1, hw_3, hw_5, hw_7, rco, tbl, il_15, and_self, and_true, true_and, and_false, false_and, egf5, egf6, egf7, egf8, egf9, egf10, egf11, il_m1, il_0, il_1, il_2, il_3, il_4, il_5, il_6, il_7, il_8, il_9, il_10, il_11, il_12, il_13, il_14, il_26, il_28, il_30, il_32, il_35, il_40, il_43, il_44, il_48, il_50, il_52, il_57, il_58, il_59, il_60, il_61, il_64, il_65, il_70, il_78, il_95, il_97, il_99, il_100, il_101, il_102, il_106, il_115, il_117, il_660, il_812, il_999, il_1000, il_1092, il_8736, il_9999, g0, h107, hs]
  · rw [if_neg c]
    simp (disch := (first | exact tgR (by assumption) | assumption | omega | with_unfolding_all rfl)) only [w_X7_requireRoomForRequests_0, w_X7_requireRoomForRequests_4, w_X7_requireRoomForRequests_7, w_X7_requireRoomForRequests_10, w_X7_requireRoomForRequests_14, w_X7_requireRoomForRequests_17, w_X7_requireRoomForRequests_23, w_X7_requireRoomForRequests_34, c_X7_requireRoomForRequests, iI_add, iI_sub, iI_mul, iI_neg, iI_lt, iI_le, iI_eq, ne_eq, bI_e0, bI_e1, nor_em, bI_n0, bI_z, bI_zr, Classical.not_not, eq_self, true_or, or_true, false_or, or_false, if_true, if_false, ite_not, ↓reduceIte, dle_t, dle_f, dlt_t, dlt_f, deq_t, deq_f, Int.reduceEq, Int.reduceLT, Int.reduceLE, Int.reduceAdd, Int.reduceNeg, Nat.reduceAdd, bck_i, bck_v, r_sizeB, r_sizeU, r_sizeP, r_sizeF, r_hasB, r_hasU, r_hasP, r_getB, r_getU, r_getP, r_getF, r_putB, r_putU, r_putP, r_putF, eob_at, egf0, egf1, egf2, egf3, egf4, hw_0, hw_1, hw_3, hw_5, hw_7, rco, tbl, il_15, and_self, and_true, true_and, and_false, false_and, egf5, egf6, egf7, egf8, egf9, egf10, egf11, il_m1, il_0, il_1, il_2, il_3, il_4, il_5, il_6, il_7, il_8, il_9, il_10, il_11, il_12, il_13, il_14, il_26, il_28, il_30, il_32, il_35, il_40, il_43, il_44, il_48, il_50, il_52, il_57, il_58, il_59, il_60, il_61, il_64, il_65, il_70, il_78, il_95, il_97, il_99, il_100, il_101, il_102, il_106, il_115, il_117, il_660, il_812, il_999, il_1000, il_1092, il_8736, il_9999, g0, h107, hs]
end Rq
