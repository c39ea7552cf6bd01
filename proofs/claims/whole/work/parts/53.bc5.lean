set_option maxRecDepth 20000
/-! The class: feeding, applying all, checking. -/
theorem nar_char {z : Int} (h : 0 ≤ z ∧ z < 65536) : vp_nar .char (iI z) = iI z := by
  show (iI z).toUInt32.toUInt16.toUInt32.toInt32 = iI z
  obtain ⟨n, rfl⟩ : ∃ n : Nat, z = n := ⟨z.toNat, by omega⟩
  rw [← iI_ofNat]
  apply Int32.toBitVec_inj.1
  apply BitVec.eq_of_toNat_eq
  have e1 : (Int32.ofNat n).toBitVec.toNat = n := by
    show (BitVec.ofNat 32 n).toNat = n
    rw [BitVec.toNat_ofNat, Nat.mod_eq_of_lt (by omega)]
  have e2 : ((Int32.ofNat n).toUInt32.toUInt16.toUInt32).toNat = n := by
    rw [UInt16.toNat_toUInt32, UInt32.toNat_toUInt16]
    show (Int32.ofNat n).toBitVec.toNat % 2 ^ 16 = n
    rw [e1, Nat.mod_eq_of_lt (by omega)]
  rw [e1]
  exact e2
theorem epc_n {n : Nat} {g : Int → Int} {i x : Int} {K : va_E → Prop} (h : 0 ≤ i ∧ i < n ∧ n < 2147483648) : epa (some (car n g)) 2 (iI i) (iI x) K = K (car n (iup g i x)) := by
  unfold car
  rw [epa_at (iI_not_neg (by omega)) (by rw [iI_nat (by omega)]; omega), iI_nat (by omega), upd_n (by omega)]
/-- all requests become permits -/
def apk (dy : Int) (V : Int → Int) : Nat → Int → Int × (Int → Int) → Int × (Int → Int)
  | 0, _, a => a
  | k + 1, i, a => apk dy V k (i + 1) (a.1 + 1, aP a.1 dy a.2 (V (i * 5 + 0)) (V (i * 5 + 1)) (V (i * 5 + 2)) (V (i * 5 + 3)) (V (i * 5 + 4)))
noncomputable def fsn (p : Int → Prop) : Nat → Int → Int
  | 0, _ => -1
  | k + 1, i => zI (p i) i (fsn p k (i + 1))
theorem rAk_ok {ln : Int} {ch : Int → Int} {ap : Int} (hln : 0 ≤ ln ∧ ln ≤ 60) : ∀ (n : Nat) (ps rq : Int) (V : Int → Int), 0 ≤ ps → ps ≤ ln → 3 * rq ≤ ps → 0 ≤ rq → RU V → (-1 ≤ (rAk ln ch ap n ps rq V).1 ∧ (rAk ln ch ap n ps rq V).1 ≤ 60) ∧ (0 ≤ (rAk ln ch ap n ps rq V).2.1 ∧ (rAk ln ch ap n ps rq V).2.1 ≤ 60) ∧ (0 ≤ (rAk ln ch ap n ps rq V).2.2.1 ∧ (rAk ln ch ap n ps rq V).2.2.1 ≤ 21) ∧ RU (rAk ln ch ap n ps rq V).2.2.2
  | 0, ps, rq, V, h0, h1, h2, h3, h4 => by
    show (-1 ≤ ps ∧ ps ≤ 60) ∧ (0 ≤ ps ∧ ps ≤ 60) ∧ (0 ≤ rq ∧ rq ≤ 21) ∧ RU V
    exact ⟨by omega, by omega, by omega, h4⟩
  | n + 1, ps, rq, V, h0, h1, h2, h3, h4 => by
    obtain ⟨kd, hkd⟩ : ∃ kd, kd = if ap = 0 then 6 else kO (sgn ln ch ps) := ⟨_, rfl⟩
    have hkb : -1 ≤ kd ∧ kd ≤ 6 := by
      have := kO_cases (sgn ln ch ps)
      rw [hkd]
      split <;> omega
    obtain ⟨r, hrr⟩ : ∃ r, r = rFk ln ch (rq + 1) rq (frm (fk kd)) ps 1 (tu (rq + 1) 5 (zr 5 rq V) rq 0 kd) := ⟨_, rfl⟩
    rw [rAk_succ hkd hrr]
    have hok := rFk_ok (ln := ln) (ch := ch) (rq := rq + 1) (row := rq) (frm (fk kd)) ps 1 (tu (rq + 1) 5 (zr 5 rq V) rq 0 kd) (frmR _) h0 h1 (tuR (zrR h4) (by omega))
    rw [← hrr] at hok
    obtain ⟨o1, o2, o3, o4⟩ := hok
    have hfl := frm_len kd
    by_cases c1 : kd = -1
    · rw [if_pos c1]
      exact ⟨by dsimp only; omega, by dsimp only; omega, by dsimp only; omega, h4⟩
    · rw [if_neg c1]
      by_cases c2 : r.1 = 0
      · rw [if_pos c2]
        exact ⟨by dsimp only; omega, by dsimp only; omega, by dsimp only; omega, o1⟩
      · rw [if_neg c2]
        by_cases c3 : ln ≤ r.2.1
        · rw [if_pos c3]
          exact ⟨by dsimp only; omega, by dsimp only; omega, by dsimp only; omega, o1⟩
        · rw [if_neg c3]
          by_cases c4 : sgn ln ch r.2.1 = 59
          · rw [if_pos c4]
            exact rAk_ok hln n (r.2.1 + 1) (rq + 1) r.2.2 (by omega) (by omega) (by rcases o4 with z | z <;> omega) (by omega) o1
          · rw [if_neg c4]
            exact ⟨by dsimp only; omega, by dsimp only; omega, by dsimp only; omega, o1⟩
section Bc
variable {d : Nat} {H K : XH} {dy nb nu np nf : Int} {B U P F : Int → Int} {nx kp : Int} {pa : Int → RT} {zr0 zs : RT} {sv lr le ln ps : Int} {ch : Int → Int} {rq : Int} {V : Int → Int} {Q : XO → XH → Prop} {i j x y z b f k t ia u p : Int}
theorem wpq_same (C : CW H dy nb B nu U np P nf F nx kp pa zr0 zs sv lr le ln ps ch rq V) : wp (wq H rq V) ln ps = H := by
  rw [wq_same C.2.2.2.2.2.2.2.2.2.2.2.2]
  exact hset_same C.2.2.2.2.2.2.2.2.2.2.1
theorem wpq_wr : wp (wq (wr H 1 dy nb B nu U np P nf F) rq V) ln ps = wr (wp (wq H rq V) ln ps) 1 dy nb B nu U np P nf F := by
  unfold wp wq
  rw [wr_hset (by omega), wr_hset (by omega), wr_hset (by omega)]
theorem CW_wpq {ln' ps' rq' : Int} {V' : Int → Int} (C : CW H dy nb B nu U np P nf F nx kp pa zr0 zs sv lr le ln ps ch rq V) : CW (wp (wq H rq' V') ln' ps') dy nb B nu U np P nf F nx kp pa zr0 zs sv lr le ln' ps' ch rq' V' := CW_in (CW_wq C)
theorem HF_wpq {ln' ps' rq' : Int} {V' : Int → Int} : HF H (wp (wq H rq' V') ln' ps') := HF_trans (HF_trans (HF_set (by omega)) (HF_set (by omega))) (HF_set (by omega))
theorem b_readForms (C : CW H dy nb B nu U np P nf F nx kp pa zr0 zs sv lr le ln ps ch rq V) (hch : ∀ k, 0 ≤ ch k ∧ ch k < 65536) (hl : 0 ≤ ln ∧ ln ≤ 60) (hr : 0 ≤ rq ∧ rq ≤ 30) (hV : RU V) (hx : -2147483648 ≤ x ∧ x < 2147483648) : Call (d + 5) m_X3_readForms [.ref 105, .ref 107, .int (iI x)] (wr H 1 dy nb B nu U np P nf F) Q = Q (.inl (some (.int (iI (rAk ln ch x 61 0 0 V).1)))) (wr (wp (wq H (rAk ln ch x 61 0 0 V).2.2.1 (rAk ln ch x 61 0 0 V).2.2.2) ln (rAk ln ch x 61 0 0 V).2.1) 1 dy nb B nu U np P nf F) := by
  have h106 : hget (wr H 1 dy nb B nu U np P nf F) 106 = some (car 60 ch) := by rw [hw_n (by omega)]; exact C.2.2.2.2.2.2.2.2.2.2.2.1
  have e := i_readForms (d := d) (Q := Q) (X := wr H 1 dy nb B nu U np P nf F) (ps := ps) h106 hch hl hr hV hx
  rw [wpq_wr, wpq_wr, wpq_same C] at e
  exact e
theorem b_clearIn (C : CW H dy nb B nu U np P nf F nx kp pa zr0 zs sv lr le ln ps ch rq V) : Call d m_X3_clear [.ref 105] (wr H 1 dy nb B nu U np P nf F) Q = Q (.inl none) (wr (wp H 0 ps) 1 dy nb B nu U np P nf F) := by
  have g0 : ∀ {dy nb nu np nf : Int} {B U P F : Int → Int}, hget (wr H 1 dy nb B nu U np P nf F) 0 = some (.inr (8, [.ref 1, .ref 10, .ref 11, .ref 12, .ref 86, .ref 95, .ref 96, .ref 105, .ref 107, .int (iI sv), .int (iI lr), .int (iI le)])) := fun {dy nb nu np nf B U P F} => by rw [hw_n (by omega)]; exact C.2.1
  have g10 : ∀ {dy nb nu np nf : Int} {B U P F : Int → Int}, hget (wr H 1 dy nb B nu U np P nf F) 10 = some (.inr (7, [.ref 1])) := fun {dy nb nu np nf B U P F} => by rw [hw_n (by omega)]; exact C.2.2.1
  have g11 : ∀ {dy nb nu np nf : Int} {B U P F : Int → Int}, hget (wr H 1 dy nb B nu U np P nf F) 11 = some (.inr (2, [.ref 1])) := fun {dy nb nu np nf B U P F} => by rw [hw_n (by omega)]; exact C.2.2.2.1
  have g12 : ∀ {dy nb nu np nf : Int} {B U P F : Int → Int}, hget (wr H 1 dy nb B nu U np P nf F) 12 = some (.inr (3, [.ref 13, .int (iI nx), .int (iI kp)])) := fun {dy nb nu np nf B U P F} => by rw [hw_n (by omega)]; exact C.2.2.2.2.1
  have g105 : ∀ {dy nb nu np nf : Int} {B U P F : Int → Int}, hget (wr H 1 dy nb B nu U np P nf F) 105 = some (.inr (4, [.ref 106, .int (iI ln), .int (iI ps)])) := fun {dy nb nu np nf B U P F} => by rw [hw_n (by omega)]; exact C.2.2.2.2.2.2.2.2.2.2.1
  have g107 : ∀ {dy nb nu np nf : Int} {B U P F : Int → Int}, TA (wr H 1 dy nb B nu U np P nf F) 107 150 5 rq V := fun {dy nb nu np nf B U P F} => TA_wr C.2.2.2.2.2.2.2.2.2.2.2.2 (by omega)
  have gg : hget H 11 = some (.inr (2, [.ref 1])) := C.2.2.2.1
  have gw : hget H 10 = some (.inr (7, [.ref 1])) := C.2.2.1
  simp (disch := (first | exact tgR (by assumption) | assumption | omega | with_unfolding_all rfl)) only [w_X3_clear_0, w_X3_clear_5, c_X3_clear, iI_add, iI_sub, iI_mul, iI_neg, iI_lt, iI_le, iI_eq, ne_eq, bI_e0, bI_e1, nor_em, bI_n0, bI_z, bI_zr, Classical.not_not, eq_self, true_or, or_true, false_or, or_false, if_true, if_false, ite_not, ↓reduceIte, dle_t, dle_f, dlt_t, dlt_f, deq_t, deq_f, Int.reduceEq, Int.reduceLT, Int.reduceLE, Int.reduceAdd, Int.reduceNeg, Nat.reduceAdd, bck_i, bck_v, r_sizeB, r_sizeU, r_sizeP, r_sizeF, r_hasB, r_hasU, r_hasP, r_getB, r_getU, r_getP, r_getF, r_putB, r_putU, r_putP, r_putF, eob_at, egf0, egf1, egf2, egf3, egf4, hw_0, hw_1, hw_3, hw_5, hw_7, rco, tbl, il_15, and_self, and_true, true_and, and_false, false_and, egf5, egf6, egf7, egf8, egf9, egf10, egf11, il_m1, il_0, il_1, il_2, il_3, il_4, il_5, il_6, il_7, il_8, il_9, il_10, il_11, il_12, il_13, il_14, il_26, il_28, il_30, il_32, il_35, il_40, il_43, il_44, il_48, il_50, il_52, il_57, il_58, il_59, il_60, il_61, il_64, il_65, il_70, il_78, il_95, il_97, il_99, il_100, il_101, il_102, il_106, il_115, il_117, il_660, il_812, il_999, il_1000, il_1092, il_8736, il_9999, g105, epf_p1]
  rw [wr_hset (by omega)]
  rfl
theorem b_feed1 (C : CW H dy nb B nu U np P nf F nx kp pa zr0 zs sv lr le ln ps ch rq V) (hl : ln = 60) (hx : -2147483648 ≤ x ∧ x < 2147483648) : Call (d + 1) m_X7_feed [.ref 0, .int (iI x)] (wr H 1 dy nb B nu U np P nf F) Q = Q (.inr 1) (hexc (wr H 1 dy nb B nu U np P nf F)) := by
  have g0 : ∀ {dy nb nu np nf : Int} {B U P F : Int → Int}, hget (wr H 1 dy nb B nu U np P nf F) 0 = some (.inr (8, [.ref 1, .ref 10, .ref 11, .ref 12, .ref 86, .ref 95, .ref 96, .ref 105, .ref 107, .int (iI sv), .int (iI lr), .int (iI le)])) := fun {dy nb nu np nf B U P F} => by rw [hw_n (by omega)]; exact C.2.1
  have g10 : ∀ {dy nb nu np nf : Int} {B U P F : Int → Int}, hget (wr H 1 dy nb B nu U np P nf F) 10 = some (.inr (7, [.ref 1])) := fun {dy nb nu np nf B U P F} => by rw [hw_n (by omega)]; exact C.2.2.1
  have g11 : ∀ {dy nb nu np nf : Int} {B U P F : Int → Int}, hget (wr H 1 dy nb B nu U np P nf F) 11 = some (.inr (2, [.ref 1])) := fun {dy nb nu np nf B U P F} => by rw [hw_n (by omega)]; exact C.2.2.2.1
  have g12 : ∀ {dy nb nu np nf : Int} {B U P F : Int → Int}, hget (wr H 1 dy nb B nu U np P nf F) 12 = some (.inr (3, [.ref 13, .int (iI nx), .int (iI kp)])) := fun {dy nb nu np nf B U P F} => by rw [hw_n (by omega)]; exact C.2.2.2.2.1
  have g105 : ∀ {dy nb nu np nf : Int} {B U P F : Int → Int}, hget (wr H 1 dy nb B nu U np P nf F) 105 = some (.inr (4, [.ref 106, .int (iI ln), .int (iI ps)])) := fun {dy nb nu np nf B U P F} => by rw [hw_n (by omega)]; exact C.2.2.2.2.2.2.2.2.2.2.1
  have g107 : ∀ {dy nb nu np nf : Int} {B U P F : Int → Int}, TA (wr H 1 dy nb B nu U np P nf F) 107 150 5 rq V := fun {dy nb nu np nf B U P F} => TA_wr C.2.2.2.2.2.2.2.2.2.2.2.2 (by omega)
  have gg : hget H 11 = some (.inr (2, [.ref 1])) := C.2.2.2.1
  have gw : hget H 10 = some (.inr (7, [.ref 1])) := C.2.2.1
  have il : ∀ {d : Nat} {Q : XO → XH → Prop}, Call d m_X3_length [.ref 105] (wr H 1 dy nb B nu U np P nf F) Q = Q (.inl (some (.int (iI ln)))) (wr H 1 dy nb B nu U np P nf F) := by
    intro d Q
    simp (disch := (first | exact tgR (by assumption) | assumption | omega | with_unfolding_all rfl)) only [w_X3_length_0, w_X3_length_4, c_X3_length, iI_add, iI_sub, iI_mul, iI_neg, iI_lt, iI_le, iI_eq, ne_eq, bI_e0, bI_e1, nor_em, bI_n0, bI_z, bI_zr, Classical.not_not, eq_self, true_or, or_true, false_or, or_false, if_true, if_false, ite_not, ↓reduceIte, dle_t, dle_f, dlt_t, dlt_f, deq_t, deq_f, Int.reduceEq, Int.reduceLT, Int.reduceLE, Int.reduceAdd, Int.reduceNeg, Nat.reduceAdd, bck_i, bck_v, r_sizeB, r_sizeU, r_sizeP, r_sizeF, r_hasB, r_hasU, r_hasP, r_getB, r_getU, r_getP, r_getF, r_putB, r_putU, r_putP, r_putF, eob_at, egf0, egf1, egf2, egf3, egf4, hw_0, hw_1, hw_3, hw_5, hw_7, rco, tbl, il_15, and_self, and_true, true_and, and_false, false_and, egf5, egf6, egf7, egf8, egf9, egf10, egf11, il_m1, il_0, il_1, il_2, il_3, il_4, il_5, il_6, il_7, il_8, il_9, il_10, il_11, il_12, il_13, il_14, il_26, il_28, il_30, il_32, il_35, il_40, il_43, il_44, il_48, il_50, il_52, il_57, il_58, il_59, il_60, il_61, il_64, il_65, il_70, il_78, il_95, il_97, il_99, il_100, il_101, il_102, il_106, il_115, il_117, il_660, il_812, il_999, il_1000, il_1092, il_8736, il_9999, g105]
  rw [hl] at g105 il
  simp (disch := (first | exact tgR (by assumption) | assumption | omega | with_unfolding_all rfl)) only [w_X7_feed_0, w_X7_feed_4, w_X7_feed_7, w_X7_feed_12, w_X7_feed_23, w_X7_feed_27, w_X7_feed_31, w_X7_feed_35, w_X7_feed_38, c_X7_feed, iI_add, iI_sub, iI_mul, iI_neg, iI_lt, iI_le, iI_eq, ne_eq, bI_e0, bI_e1, nor_em, bI_n0, bI_z, bI_zr, Classical.not_not, eq_self, true_or, or_true, false_or, or_false, if_true, if_false, ite_not, ↓reduceIte, dle_t, dle_f, dlt_t, dlt_f, deq_t, deq_f, Int.reduceEq, Int.reduceLT, Int.reduceLE, Int.reduceAdd, Int.reduceNeg, Nat.reduceAdd, bck_i, bck_v, r_sizeB, r_sizeU, r_sizeP, r_sizeF, r_hasB, r_hasU, r_hasP, r_getB, r_getU, r_getP, r_getF, r_putB, r_putU, r_putP, r_putF, eob_at, egf0, egf1, egf2, egf3, egf4, hw_0, hw_1, hw_3, hw_5, hw_7, rco, tbl, il_15, and_self, and_true, true_and, and_false, false_and, egf5, egf6, egf7, egf8, egf9, egf10, egf11, il_m1, il_0, il_1, il_2, il_3, il_4, il_5, il_6, il_7, il_8, il_9, il_10, il_11, il_12, il_13, il_14, il_26, il_28, il_30, il_32, il_35, il_40, il_43, il_44, il_48, il_50, il_52, il_57, il_58, il_59, il_60, il_61, il_64, il_65, il_70, il_78, il_95, il_97, il_99, il_100, il_101, il_102, il_106, il_115, il_117, il_660, il_812, il_999, il_1000, il_1092, il_8736, il_9999, g0, g105, il]
theorem b_feed (C : CW H dy nb B nu U np P nf F nx kp pa zr0 zs sv lr le ln ps ch rq V) (hl : 0 ≤ ln ∧ ln < 60) (hx : 0 ≤ x ∧ x < 65536) : ∃ K, (∀ {d : Nat} {Q : XO → XH → Prop}, Call (d + 1) m_X7_feed [.ref 0, .int (iI x)] (wr H 1 dy nb B nu U np P nf F) Q = Q (.inl (some (.int (iI (ln + 1))))) K) ∧ CW K dy nb B nu U np P nf F nx kp pa zr0 zs sv lr le (ln + 1) ps (iup ch ln x) rq V ∧ HF H K := by
  have g0 : ∀ {dy nb nu np nf : Int} {B U P F : Int → Int}, hget (wr H 1 dy nb B nu U np P nf F) 0 = some (.inr (8, [.ref 1, .ref 10, .ref 11, .ref 12, .ref 86, .ref 95, .ref 96, .ref 105, .ref 107, .int (iI sv), .int (iI lr), .int (iI le)])) := fun {dy nb nu np nf B U P F} => by rw [hw_n (by omega)]; exact C.2.1
  have g10 : ∀ {dy nb nu np nf : Int} {B U P F : Int → Int}, hget (wr H 1 dy nb B nu U np P nf F) 10 = some (.inr (7, [.ref 1])) := fun {dy nb nu np nf B U P F} => by rw [hw_n (by omega)]; exact C.2.2.1
  have g11 : ∀ {dy nb nu np nf : Int} {B U P F : Int → Int}, hget (wr H 1 dy nb B nu U np P nf F) 11 = some (.inr (2, [.ref 1])) := fun {dy nb nu np nf B U P F} => by rw [hw_n (by omega)]; exact C.2.2.2.1
  have g12 : ∀ {dy nb nu np nf : Int} {B U P F : Int → Int}, hget (wr H 1 dy nb B nu U np P nf F) 12 = some (.inr (3, [.ref 13, .int (iI nx), .int (iI kp)])) := fun {dy nb nu np nf B U P F} => by rw [hw_n (by omega)]; exact C.2.2.2.2.1
  have g105 : ∀ {dy nb nu np nf : Int} {B U P F : Int → Int}, hget (wr H 1 dy nb B nu U np P nf F) 105 = some (.inr (4, [.ref 106, .int (iI ln), .int (iI ps)])) := fun {dy nb nu np nf B U P F} => by rw [hw_n (by omega)]; exact C.2.2.2.2.2.2.2.2.2.2.1
  have g107 : ∀ {dy nb nu np nf : Int} {B U P F : Int → Int}, TA (wr H 1 dy nb B nu U np P nf F) 107 150 5 rq V := fun {dy nb nu np nf B U P F} => TA_wr C.2.2.2.2.2.2.2.2.2.2.2.2 (by omega)
  have gg : hget H 11 = some (.inr (2, [.ref 1])) := C.2.2.2.1
  have gw : hget H 10 = some (.inr (7, [.ref 1])) := C.2.2.1
  refine ⟨wr (hset (hset H 106 (car 60 (iup ch ln x))) 105 (ino (ln + 1) ps)) 1 dy nb B nu U np P nf F, ?_, CW_now (CW_in (CW_ch C)), HF_trans (HF_trans (HF_set (by omega)) (HF_set (by omega))) (HF_wr (by omega))⟩
  intro d Q
  have h106 : hget (wr H 1 dy nb B nu U np P nf F) 106 = some (car 60 ch) := by rw [hw_n (by omega)]; exact C.2.2.2.2.2.2.2.2.2.2.2.1
  have il : ∀ {d : Nat} {Q : XO → XH → Prop}, Call d m_X3_length [.ref 105] (wr H 1 dy nb B nu U np P nf F) Q = Q (.inl (some (.int (iI ln)))) (wr H 1 dy nb B nu U np P nf F) := by
    intro d Q
    simp (disch := (first | exact tgR (by assumption) | assumption | omega | with_unfolding_all rfl)) only [w_X3_length_0, w_X3_length_4, c_X3_length, iI_add, iI_sub, iI_mul, iI_neg, iI_lt, iI_le, iI_eq, ne_eq, bI_e0, bI_e1, nor_em, bI_n0, bI_z, bI_zr, Classical.not_not, eq_self, true_or, or_true, false_or, or_false, if_true, if_false, ite_not, ↓reduceIte, dle_t, dle_f, dlt_t, dlt_f, deq_t, deq_f, Int.reduceEq, Int.reduceLT, Int.reduceLE, Int.reduceAdd, Int.reduceNeg, Nat.reduceAdd, bck_i, bck_v, r_sizeB, r_sizeU, r_sizeP, r_sizeF, r_hasB, r_hasU, r_hasP, r_getB, r_getU, r_getP, r_getF, r_putB, r_putU, r_putP, r_putF, eob_at, egf0, egf1, egf2, egf3, egf4, hw_0, hw_1, hw_3, hw_5, hw_7, rco, tbl, il_15, and_self, and_true, true_and, and_false, false_and, egf5, egf6, egf7, egf8, egf9, egf10, egf11, il_m1, il_0, il_1, il_2, il_3, il_4, il_5, il_6, il_7, il_8, il_9, il_10, il_11, il_12, il_13, il_14, il_26, il_28, il_30, il_32, il_35, il_40, il_43, il_44, il_48, il_50, il_52, il_57, il_58, il_59, il_60, il_61, il_64, il_65, il_70, il_78, il_95, il_97, il_99, il_100, il_101, il_102, il_106, il_115, il_117, il_660, il_812, il_999, il_1000, il_1092, il_8736, il_9999, g105]
  have hne : hget (hset (wr H 1 dy nb B nu U np P nf F) 106 (car 60 (iup ch ln x))) 105 = some (.inr (4, [.ref 106, .int (iI ln), .int (iI ps)])) := by rw [hget_ne (by omega)]; exact g105
  have ia : ∀ {d : Nat} {Q : XO → XH → Prop}, Call d m_X3_append [.ref 105, .int (iI x)] (wr H 1 dy nb B nu U np P nf F) Q = Q (.inl none) (wr (hset (hset H 106 (car 60 (iup ch ln x))) 105 (ino (ln + 1) ps)) 1 dy nb B nu U np P nf F) := by
    intro d Q
    simp (disch := (first | exact tgR (by assumption) | assumption | omega | with_unfolding_all rfl)) only [w_X3_append_0, w_X3_append_4, w_X3_append_7, w_X3_append_11, w_X3_append_15, w_X3_append_16, w_X3_append_19, w_X3_append_23, w_X3_append_27, w_X3_append_29, w_X3_append_34, w_X3_append_39, c_X3_append, iI_add, iI_sub, iI_mul, iI_neg, iI_lt, iI_le, iI_eq, ne_eq, bI_e0, bI_e1, nor_em, bI_n0, bI_z, bI_zr, Classical.not_not, eq_self, true_or, or_true, false_or, or_false, if_true, if_false, ite_not, ↓reduceIte, dle_t, dle_f, dlt_t, dlt_f, deq_t, deq_f, Int.reduceEq, Int.reduceLT, Int.reduceLE, Int.reduceAdd, Int.reduceNeg, Nat.reduceAdd, bck_i, bck_v, r_sizeB, r_sizeU, r_sizeP, r_sizeF, r_hasB, r_hasU, r_hasP, r_getB, r_getU, r_getP, r_getF, r_putB, r_putU, r_putP, r_putF, eob_at, egf0, egf1, egf2, egf3, egf4, hw_0, hw_1, hw_3, hw_5, hw_7, rco, tbl, il_15, and_self, and_true, true_and, and_false, false_and, egf5, egf6, egf7, egf8, egf9, egf10, egf11, il_m1, il_0, il_1, il_2, il_3, il_4, il_5, il_6, il_7, il_8, il_9, il_10, il_11, il_12, il_13, il_14, il_26, il_28, il_30, il_32, il_35, il_40, il_43, il_44, il_48, il_50, il_52, il_57, il_58, il_59, il_60, il_61, il_64, il_65, il_70, il_78, il_95, il_97, il_99, il_100, il_101, il_102, il_106, il_115, il_117, il_660, il_812, il_999, il_1000, il_1092, il_8736, il_9999, g105, h106, elen_car, Int.cast_ofNat_Int, nar_char, epc_n, hne, epf_p1]
    rw [wr_hset (by omega), wr_hset (by omega)]
    rfl
  have C2 := CW_now (dy' := dy) (nb' := nb) (B' := B) (nu' := nu) (U' := U) (np' := np) (P' := P) (nf' := nf) (F' := F) (CW_in (ln' := ln + 1) (ps' := ps) (CW_ch (ch' := iup ch ln x) C))
  have k0 : hget (wr (hset (hset H 106 (car 60 (iup ch ln x))) 105 (ino (ln + 1) ps)) 1 dy nb B nu U np P nf F) 0 = some (.inr (8, [.ref 1, .ref 10, .ref 11, .ref 12, .ref 86, .ref 95, .ref 96, .ref 105, .ref 107, .int (iI sv), .int (iI lr), .int (iI le)])) := C2.2.1
  have k105 : hget (wr (hset (hset H 106 (car 60 (iup ch ln x))) 105 (ino (ln + 1) ps)) 1 dy nb B nu U np P nf F) 105 = some (.inr (4, [.ref 106, .int (iI (ln + 1)), .int (iI ps)])) := C2.2.2.2.2.2.2.2.2.2.2.1
  have il2 : ∀ {d : Nat} {Q : XO → XH → Prop}, Call d m_X3_length [.ref 105] (wr (hset (hset H 106 (car 60 (iup ch ln x))) 105 (ino (ln + 1) ps)) 1 dy nb B nu U np P nf F) Q = Q (.inl (some (.int (iI (ln + 1))))) (wr (hset (hset H 106 (car 60 (iup ch ln x))) 105 (ino (ln + 1) ps)) 1 dy nb B nu U np P nf F) := by
    intro d Q
    simp (disch := (first | exact tgR (by assumption) | assumption | omega | with_unfolding_all rfl)) only [w_X3_length_0, w_X3_length_4, c_X3_length, iI_add, iI_sub, iI_mul, iI_neg, iI_lt, iI_le, iI_eq, ne_eq, bI_e0, bI_e1, nor_em, bI_n0, bI_z, bI_zr, Classical.not_not, eq_self, true_or, or_true, false_or, or_false, if_true, if_false, ite_not, ↓reduceIte, dle_t, dle_f, dlt_t, dlt_f, deq_t, deq_f, Int.reduceEq, Int.reduceLT, Int.reduceLE, Int.reduceAdd, Int.reduceNeg, Nat.reduceAdd, bck_i, bck_v, r_sizeB, r_sizeU, r_sizeP, r_sizeF, r_hasB, r_hasU, r_hasP, r_getB, r_getU, r_getP, r_getF, r_putB, r_putU, r_putP, r_putF, eob_at, egf0, egf1, egf2, egf3, egf4, hw_0, hw_1, hw_3, hw_5, hw_7, rco, tbl, il_15, and_self, and_true, true_and, and_false, false_and, egf5, egf6, egf7, egf8, egf9, egf10, egf11, il_m1, il_0, il_1, il_2, il_3, il_4, il_5, il_6, il_7, il_8, il_9, il_10, il_11, il_12, il_13, il_14, il_26, il_28, il_30, il_32, il_35, il_40, il_43, il_44, il_48, il_50, il_52, il_57, il_58, il_59, il_60, il_61, il_64, il_65, il_70, il_78, il_95, il_97, il_99, il_100, il_101, il_102, il_106, il_115, il_117, il_660, il_812, il_999, il_1000, il_1092, il_8736, il_9999, k105]
  simp (disch := (first | exact tgR (by assumption) | assumption | omega | with_unfolding_all rfl)) only [w_X7_feed_0, w_X7_feed_4, w_X7_feed_7, w_X7_feed_12, w_X7_feed_23, w_X7_feed_27, w_X7_feed_31, w_X7_feed_35, w_X7_feed_38, c_X7_feed, iI_add, iI_sub, iI_mul, iI_neg, iI_lt, iI_le, iI_eq, ne_eq, bI_e0, bI_e1, nor_em, bI_n0, bI_z, bI_zr, Classical.not_not, eq_self, true_or, or_true, false_or, or_false, if_true, if_false, ite_not, ↓reduceIte, dle_t, dle_f, dlt_t, dlt_f, deq_t, deq_f, Int.reduceEq, Int.reduceLT, Int.reduceLE, Int.reduceAdd, Int.reduceNeg, Nat.reduceAdd, bck_i, bck_v, r_sizeB, r_sizeU, r_sizeP, r_sizeF, r_hasB, r_hasU, r_hasP, r_getB, r_getU, r_getP, r_getF, r_putB, r_putU, r_putP, r_putF, eob_at, egf0, egf1, egf2, egf3, egf4, hw_0, hw_1, hw_3, hw_5, hw_7, rco, tbl, il_15, and_self, and_true, true_and, and_false, false_and, egf5, egf6, egf7, egf8, egf9, egf10, egf11, il_m1, il_0, il_1, il_2, il_3, il_4, il_5, il_6, il_7, il_8, il_9, il_10, il_11, il_12, il_13, il_14, il_26, il_28, il_30, il_32, il_35, il_40, il_43, il_44, il_48, il_50, il_52, il_57, il_58, il_59, il_60, il_61, il_64, il_65, il_70, il_78, il_95, il_97, il_99, il_100, il_101, il_102, il_106, il_115, il_117, il_660, il_812, il_999, il_1000, il_1092, il_8736, il_9999, g0, g105, il, ia, k0, k105, il2]
theorem b_reqE1 (C : CW H dy nb B nu U np P nf F nx kp pa zr0 zs sv lr le ln ps ch rq V) (hx : -1 ≤ x ∧ x ≤ 60) (h : ¬ x = -1) : Call d m_X7_requireNoError [.ref 0, .int (iI x)] (wr H 1 dy nb B nu U np P nf F) Q = Q (.inr 0) (hexc (wr (hset H 0 (bco sv lr x)) 1 dy nb B nu U np P nf F)) := by
  have g0 : ∀ {dy nb nu np nf : Int} {B U P F : Int → Int}, hget (wr H 1 dy nb B nu U np P nf F) 0 = some (.inr (8, [.ref 1, .ref 10, .ref 11, .ref 12, .ref 86, .ref 95, .ref 96, .ref 105, .ref 107, .int (iI sv), .int (iI lr), .int (iI le)])) := fun {dy nb nu np nf B U P F} => by rw [hw_n (by omega)]; exact C.2.1
  have g10 : ∀ {dy nb nu np nf : Int} {B U P F : Int → Int}, hget (wr H 1 dy nb B nu U np P nf F) 10 = some (.inr (7, [.ref 1])) := fun {dy nb nu np nf B U P F} => by rw [hw_n (by omega)]; exact C.2.2.1
  have g11 : ∀ {dy nb nu np nf : Int} {B U P F : Int → Int}, hget (wr H 1 dy nb B nu U np P nf F) 11 = some (.inr (2, [.ref 1])) := fun {dy nb nu np nf B U P F} => by rw [hw_n (by omega)]; exact C.2.2.2.1
  have g12 : ∀ {dy nb nu np nf : Int} {B U P F : Int → Int}, hget (wr H 1 dy nb B nu U np P nf F) 12 = some (.inr (3, [.ref 13, .int (iI nx), .int (iI kp)])) := fun {dy nb nu np nf B U P F} => by rw [hw_n (by omega)]; exact C.2.2.2.2.1
  have g105 : ∀ {dy nb nu np nf : Int} {B U P F : Int → Int}, hget (wr H 1 dy nb B nu U np P nf F) 105 = some (.inr (4, [.ref 106, .int (iI ln), .int (iI ps)])) := fun {dy nb nu np nf B U P F} => by rw [hw_n (by omega)]; exact C.2.2.2.2.2.2.2.2.2.2.1
  have g107 : ∀ {dy nb nu np nf : Int} {B U P F : Int → Int}, TA (wr H 1 dy nb B nu U np P nf F) 107 150 5 rq V := fun {dy nb nu np nf B U P F} => TA_wr C.2.2.2.2.2.2.2.2.2.2.2.2 (by omega)
  have gg : hget H 11 = some (.inr (2, [.ref 1])) := C.2.2.2.1
  have gw : hget H 10 = some (.inr (7, [.ref 1])) := C.2.2.1
  simp (disch := (first | exact tgR (by assumption) | assumption | omega | with_unfolding_all rfl)) only [w_X7_requireNoError_0, w_X7_requireNoError_5, w_X7_requireNoError_10, w_X7_requireNoError_21, c_X7_requireNoError, iI_add, iI_sub, iI_mul, iI_neg, iI_lt, iI_le, iI_eq, ne_eq, bI_e0, bI_e1, nor_em, bI_n0, bI_z, bI_zr, Classical.not_not, eq_self, true_or, or_true, false_or, or_false, if_true, if_false, ite_not, ↓reduceIte, dle_t, dle_f, dlt_t, dlt_f, deq_t, deq_f, Int.reduceEq, Int.reduceLT, Int.reduceLE, Int.reduceAdd, Int.reduceNeg, Nat.reduceAdd, bck_i, bck_v, r_sizeB, r_sizeU, r_sizeP, r_sizeF, r_hasB, r_hasU, r_hasP, r_getB, r_getU, r_getP, r_getF, r_putB, r_putU, r_putP, r_putF, eob_at, egf0, egf1, egf2, egf3, egf4, hw_0, hw_1, hw_3, hw_5, hw_7, rco, tbl, il_15, and_self, and_true, true_and, and_false, false_and, egf5, egf6, egf7, egf8, egf9, egf10, egf11, il_m1, il_0, il_1, il_2, il_3, il_4, il_5, il_6, il_7, il_8, il_9, il_10, il_11, il_12, il_13, il_14, il_26, il_28, il_30, il_32, il_35, il_40, il_43, il_44, il_48, il_50, il_52, il_57, il_58, il_59, il_60, il_61, il_64, il_65, il_70, il_78, il_95, il_97, il_99, il_100, il_101, il_102, il_106, il_115, il_117, il_660, il_812, il_999, il_1000, il_1092, il_8736, il_9999, g0, epf_b11, h]
  rw [wr_hset (by omega)]
  rfl
theorem b_reqE0 : Call d m_X7_requireNoError [.ref 0, .int (iI (-1))] H Q = Q (.inl none) H := by
  simp (disch := (first | exact tgR (by assumption) | assumption | omega | with_unfolding_all rfl)) only [w_X7_requireNoError_0, w_X7_requireNoError_5, w_X7_requireNoError_10, w_X7_requireNoError_21, c_X7_requireNoError, iI_add, iI_sub, iI_mul, iI_neg, iI_lt, iI_le, iI_eq, ne_eq, bI_e0, bI_e1, nor_em, bI_n0, bI_z, bI_zr, Classical.not_not, eq_self, true_or, or_true, false_or, or_false, if_true, if_false, ite_not, ↓reduceIte, dle_t, dle_f, dlt_t, dlt_f, deq_t, deq_f, Int.reduceEq, Int.reduceLT, Int.reduceLE, Int.reduceAdd, Int.reduceNeg, Nat.reduceAdd, bck_i, bck_v, r_sizeB, r_sizeU, r_sizeP, r_sizeF, r_hasB, r_hasU, r_hasP, r_getB, r_getU, r_getP, r_getF, r_putB, r_putU, r_putP, r_putF, eob_at, egf0, egf1, egf2, egf3, egf4, hw_0, hw_1, hw_3, hw_5, hw_7, rco, tbl, il_15, and_self, and_true, true_and, and_false, false_and, egf5, egf6, egf7, egf8, egf9, egf10, egf11, il_m1, il_0, il_1, il_2, il_3, il_4, il_5, il_6, il_7, il_8, il_9, il_10, il_11, il_12, il_13, il_14, il_26, il_28, il_30, il_32, il_35, il_40, il_43, il_44, il_48, il_50, il_52, il_57, il_58, il_59, il_60, il_61, il_64, il_65, il_70, il_78, il_95, il_97, il_99, il_100, il_101, il_102, il_106, il_115, il_117, il_660, il_812, il_999, il_1000, il_1092, il_8736, il_9999]
end Bc
