set_option maxRecDepth 20000
/-! Reading forms. -/
theorem rFk_nil {ln : Int} {ch : Int → Int} {rq row ps col : Int} {V : Int → Int} : rFk ln ch rq row [] ps col V = (1, ps, V) := rfl
theorem rFk_cons {ln : Int} {ch : Int → Int} {rq row ps col c : Int} {cs : List Int} {V : Int → Int} : rFk ln ch rq row (c :: cs) ps col V = if (rP ln ch ps c).1 = -1 then (0, (rP ln ch ps c).2, V) else if c = 35 ∨ c = 78 ∨ c = 65 ∨ c = 70 ∨ c = 64 then rFk ln ch rq row cs (rP ln ch ps c).2 (col + 1) (tu rq 5 V row col (rP ln ch ps c).1) else rFk ln ch rq row cs (rP ln ch ps c).2 col V := rfl
theorem rFk_ok {ln : Int} {ch : Int → Int} {rq row : Int} : ∀ (cs : List Int) (ps col : Int) (V : Int → Int), (∀ c ∈ cs, 0 ≤ c) → 0 ≤ ps → ps ≤ ln → RU V → RU (rFk ln ch rq row cs ps col V).2.2 ∧ ps ≤ (rFk ln ch rq row cs ps col V).2.1 ∧ (rFk ln ch rq row cs ps col V).2.1 ≤ ln ∧ ((rFk ln ch rq row cs ps col V).1 = 0 ∨ ((rFk ln ch rq row cs ps col V).1 = 1 ∧ ps + cs.length ≤ (rFk ln ch rq row cs ps col V).2.1))
  | [], ps, col, V, _, h0, h1, hV => by
    rw [rFk_nil]
    refine ⟨hV, Int.le_refl _, h1, Or.inr ⟨rfl, ?_⟩⟩
    show ps + ((0 : Nat) : Int) ≤ ps
    omega
  | c :: cs, ps, col, V, hc, h0, h1, hV => by
    have hcc := hc c (List.mem_cons_self ..)
    have hcs : ∀ c ∈ cs, 0 ≤ c := fun x hx => hc x (List.mem_cons_of_mem _ hx)
    rw [rFk_cons]
    rcases rP_ok (ln := ln) (ch := ch) (ps := ps) hcc with e | ⟨a1, a2, a3, a4, a5, a6⟩
    · rw [if_pos (by rw [e]), e]
      exact ⟨hV, Int.le_refl _, h1, Or.inl rfl⟩
    · rw [if_neg (by omega)]
      have hl : ((c :: cs).length : Int) = cs.length + 1 := by simp
      by_cases q : c = 35 ∨ c = 78 ∨ c = 65 ∨ c = 70 ∨ c = 64
      · rw [if_pos q]
        have ih := rFk_ok (ln := ln) (ch := ch) (rq := rq) (row := row) cs (rP ln ch ps c).2 (col + 1) (tu rq 5 V row col (rP ln ch ps c).1) hcs (by omega) a6 (tuR hV (by omega))
        refine ⟨ih.1, by omega, ih.2.2.1, ?_⟩
        rcases ih.2.2.2 with z | z
        · exact Or.inl z
        · exact Or.inr ⟨z.1, by omega⟩
      · rw [if_neg q]
        have ih := rFk_ok (ln := ln) (ch := ch) (rq := rq) (row := row) cs (rP ln ch ps c).2 col V hcs (by omega) a6 hV
        refine ⟨ih.1, by omega, ih.2.2.1, ?_⟩
        rcases ih.2.2.2 with z | z
        · exact Or.inl z
        · exact Or.inr ⟨z.1, by omega⟩
def rAk (ln : Int) (ch : Int → Int) (ap : Int) : Nat → Int → Int → (Int → Int) → Int × Int × Int × (Int → Int)
  | 0, ps, rq, V => (ps, ps, rq, V)
  | n + 1, ps, rq, V =>
    if (if ap = 0 then 6 else kO (sgn ln ch ps)) = -1 then (ps, ps, rq, V)
    else if (rFk ln ch (rq + 1) rq (frm (fk (if ap = 0 then 6 else kO (sgn ln ch ps)))) ps 1 (tu (rq + 1) 5 (zr 5 rq V) rq 0 (if ap = 0 then 6 else kO (sgn ln ch ps)))).1 = 0 then ((rFk ln ch (rq + 1) rq (frm (fk (if ap = 0 then 6 else kO (sgn ln ch ps)))) ps 1 (tu (rq + 1) 5 (zr 5 rq V) rq 0 (if ap = 0 then 6 else kO (sgn ln ch ps)))).2.1, (rFk ln ch (rq + 1) rq (frm (fk (if ap = 0 then 6 else kO (sgn ln ch ps)))) ps 1 (tu (rq + 1) 5 (zr 5 rq V) rq 0 (if ap = 0 then 6 else kO (sgn ln ch ps)))).2.1, rq + 1, (rFk ln ch (rq + 1) rq (frm (fk (if ap = 0 then 6 else kO (sgn ln ch ps)))) ps 1 (tu (rq + 1) 5 (zr 5 rq V) rq 0 (if ap = 0 then 6 else kO (sgn ln ch ps)))).2.2)
    else if ln ≤ (rFk ln ch (rq + 1) rq (frm (fk (if ap = 0 then 6 else kO (sgn ln ch ps)))) ps 1 (tu (rq + 1) 5 (zr 5 rq V) rq 0 (if ap = 0 then 6 else kO (sgn ln ch ps)))).2.1 then (-1, (rFk ln ch (rq + 1) rq (frm (fk (if ap = 0 then 6 else kO (sgn ln ch ps)))) ps 1 (tu (rq + 1) 5 (zr 5 rq V) rq 0 (if ap = 0 then 6 else kO (sgn ln ch ps)))).2.1, rq + 1, (rFk ln ch (rq + 1) rq (frm (fk (if ap = 0 then 6 else kO (sgn ln ch ps)))) ps 1 (tu (rq + 1) 5 (zr 5 rq V) rq 0 (if ap = 0 then 6 else kO (sgn ln ch ps)))).2.2)
    else if sgn ln ch (rFk ln ch (rq + 1) rq (frm (fk (if ap = 0 then 6 else kO (sgn ln ch ps)))) ps 1 (tu (rq + 1) 5 (zr 5 rq V) rq 0 (if ap = 0 then 6 else kO (sgn ln ch ps)))).2.1 = 59 then rAk ln ch ap n ((rFk ln ch (rq + 1) rq (frm (fk (if ap = 0 then 6 else kO (sgn ln ch ps)))) ps 1 (tu (rq + 1) 5 (zr 5 rq V) rq 0 (if ap = 0 then 6 else kO (sgn ln ch ps)))).2.1 + 1) (rq + 1) (rFk ln ch (rq + 1) rq (frm (fk (if ap = 0 then 6 else kO (sgn ln ch ps)))) ps 1 (tu (rq + 1) 5 (zr 5 rq V) rq 0 (if ap = 0 then 6 else kO (sgn ln ch ps)))).2.2
    else ((rFk ln ch (rq + 1) rq (frm (fk (if ap = 0 then 6 else kO (sgn ln ch ps)))) ps 1 (tu (rq + 1) 5 (zr 5 rq V) rq 0 (if ap = 0 then 6 else kO (sgn ln ch ps)))).2.1, (rFk ln ch (rq + 1) rq (frm (fk (if ap = 0 then 6 else kO (sgn ln ch ps)))) ps 1 (tu (rq + 1) 5 (zr 5 rq V) rq 0 (if ap = 0 then 6 else kO (sgn ln ch ps)))).2.1, rq + 1, (rFk ln ch (rq + 1) rq (frm (fk (if ap = 0 then 6 else kO (sgn ln ch ps)))) ps 1 (tu (rq + 1) 5 (zr 5 rq V) rq 0 (if ap = 0 then 6 else kO (sgn ln ch ps)))).2.2)
theorem rAk_succ {ln : Int} {ch : Int → Int} {ap : Int} {n : Nat} {ps rq : Int} {V : Int → Int} {kd : Int} {r : Int × Int × (Int → Int)} (h1 : kd = if ap = 0 then 6 else kO (sgn ln ch ps)) (h2 : r = rFk ln ch (rq + 1) rq (frm (fk kd)) ps 1 (tu (rq + 1) 5 (zr 5 rq V) rq 0 kd)) :
    rAk ln ch ap (n + 1) ps rq V = if kd = -1 then (ps, ps, rq, V) else if r.1 = 0 then (r.2.1, r.2.1, rq + 1, r.2.2) else if ln ≤ r.2.1 then (-1, r.2.1, rq + 1, r.2.2) else if sgn ln ch r.2.1 = 59 then rAk ln ch ap n (r.2.1 + 1) (rq + 1) r.2.2 else (r.2.1, r.2.1, rq + 1, r.2.2) := by
  subst h1
  subst h2
  rfl
theorem kO_cases (s : Int) : -1 ≤ kO s ∧ kO s ≤ 5 := by
  unfold kO
  repeat (first | omega | split)
def hdF (k : Int) : Int := ((xstr (fk k)).getD 0 0 : Nat)
section Fo
variable {d : Nat} {H K : XH} {dy nb nu np nf : Int} {B U P F : Int → Int} {nx kp : Int} {pa : Int → RT} {zr0 zs : RT} {sv lr le ln ps : Int} {ch : Int → Int} {rq : Int} {V : Int → Int} {Q : XO → XH → Prop} {i j x y z b f k t ia u p : Int}
variable {X Y : XH}
theorem p_put (hr : 0 ≤ rq ∧ rq ≤ 30) (hi : -2147483648 ≤ i ∧ i < 2147483648) (hj : -2147483648 ≤ j ∧ j < 2147483648) : Call d m_X5_put [.ref 107, .int (iI i), .int (iI j), .int (iI x)] (wp (wq X rq V) ln ps) Q = Q (.inl none) (wp (wq X rq (tu rq 5 V i j x)) ln ps) := by
  have T : TA (wp (wq X rq V) ln ps) 107 150 5 rq V := ⟨by rw [wp_n (by omega)]; exact TA_wq.1, by rw [wp_n (by omega)]; exact TA_wq.2⟩
  rw [t_put T hi hj (by omega) (by omega)]
  unfold wp
  rw [hset_comm (by omega), wq_108]
theorem p_clear : Call d m_X5_clear [.ref 107] (wp (wq X rq V) ln ps) Q = Q (.inl none) (wp (wq X 0 V) ln ps) := by
  have T : TA (wp (wq X rq V) ln ps) 107 150 5 rq V := ⟨by rw [wp_n (by omega)]; exact TA_wq.1, by rw [wp_n (by omega)]; exact TA_wq.2⟩
  rw [t_clear T]
  unfold wp
  rw [hset_comm (by omega), wq_107]
theorem p_append (hr : 0 ≤ rq ∧ rq < 30) : Call (d + 1) m_X5_append [.ref 107] (wp (wq X rq V) ln ps) Q = Q (.inl (some (.int (iI rq)))) (wp (wq X (rq + 1) (zr 5 rq V)) ln ps) := by
  have T : TA (wp (wq X rq V) ln ps) 107 150 5 rq V := ⟨by rw [wp_n (by omega)]; exact TA_wq.1, by rw [wp_n (by omega)]; exact TA_wq.2⟩
  rw [t_append T (by omega) (by omega) (by omega), if_pos (by omega)]
  unfold wp
  rw [hset_comm (q := 105) (p := 107) (by omega), wq_107, hset_comm (q := 105) (p := 108) (by omega), wq_108]
theorem p_107 : hget (wp (wq X rq V) ln ps) 107 = some (.inr (6, [.int (iI 5), .ref 108, .int (iI rq)])) := by rw [wp_n (by omega)]; exact TA_wq.1
theorem p_106 (hc : hget X 106 = some (car 60 ch)) : hget (wq X rq V) 106 = some (car 60 ch) := by
  unfold wq
  rw [hget_ne (by omega), hget_ne (by omega)]
  exact hc
theorem f_kstep {l2 : Value} (hk : 0 ≤ k ∧ k < 6) (hs : -1 ≤ x ∧ x < 65536) : EvQ (d + 1) m_X0_kindOf 2 [.int (iI x), .int (iI k), l2] [] H Q = if x = hdF k then Q (.inl (some (.int (iI k)))) H else EvQ (d + 1) m_X0_kindOf 2 [.int (iI x), .int (iI (k + 1)), .ref (1000000 + fk k)] [] H Q := by
  have hj : fk k < 7 := by
    unfold fk
    rw [if_pos (by omega)]
    omega
  have hcase : k = 0 ∨ k = 1 ∨ k = 2 ∨ k = 3 ∨ k = 4 ∨ k = 5 := by omega
  have hlen : 0 < (xstr (fk k)).length := by
    rcases hcase with e | e | e | e | e | e <;> subst e <;> decide
  have hb : 0 ≤ hdF k ∧ hdF k < 200 := by
    unfold hdF
    rcases hcase with e | e | e | e | e | e <;> subst e <;> decide
  have he : Int32.ofNat ((xstr (fk k)).getD (0 : Int32).toNatClampNeg 0) = iI (hdF k) := iI_ofNat _
  have hno : ¬ ((0 : Int32) < 0 ∨ (xstr (fk k)).length ≤ (0 : Int32).toNatClampNeg) := by
    have e0 : (0 : Int32).toNatClampNeg = 0 := by decide
    rw [e0]
    rintro (z | z)
    · exact absurd z (by decide)
    · omega
  have h6 : ¬ ((6 : Int32) ≤ iI k) := by
    rw [il_6, iI_le (by omega) (by omega)]
    omega
  rw [w_X0_kindOf_2, if_neg h6, w_X0_kindOf_8, f_formOf (by omega), bck_i, w_X0_kindOf_12 hj, w_X0_kindOf_17, if_neg (fun z => z rfl), w_X0_kindOf_20 hj, if_neg hno, he, w_X0_kindOf_25]
  by_cases c : x = hdF k
  · rw [if_pos c, if_neg (fun z => z (by rw [c])), w_X0_kindOf_29]
  · rw [if_neg c, if_pos (fun z => c (((iI_eq (by omega) (by omega)).mp z).symm)), w_X0_kindOf_31, il_1, iI_add]
theorem f_kindOf (hs : -1 ≤ x ∧ x < 65536) : Call (d + 1) m_X0_kindOf [.int (iI x)] H Q = Q (.inl (some (.int (iI (kO x))))) H := by
  have e0 : hdF 0 = 117 := rfl
  have e1 : hdF (0 + 1) = 115 := rfl
  have e2 : hdF (0 + 1 + 1) = 106 := rfl
  have e3 : hdF (0 + 1 + 1 + 1) = 99 := rfl
  have e4 : hdF (0 + 1 + 1 + 1 + 1) = 101 := rfl
  have e5 : hdF (0 + 1 + 1 + 1 + 1 + 1) = 102 := rfl
  rw [c_X0_kindOf, w_X0_kindOf_0, il_0, f_kstep (by omega) hs, e0]
  unfold kO
  by_cases c0 : x = 117
  · rw [if_pos c0, if_pos c0]
  rw [if_neg c0, if_neg c0, f_kstep (by omega) hs, e1]
  by_cases c1 : x = 115
  · rw [if_pos c1, if_pos c1]
    rfl
  rw [if_neg c1, if_neg c1, f_kstep (by omega) hs, e2]
  by_cases c2 : x = 106
  · rw [if_pos c2, if_pos c2]
    rfl
  rw [if_neg c2, if_neg c2, f_kstep (by omega) hs, e3]
  by_cases c3 : x = 99
  · rw [if_pos c3, if_pos c3]
    rfl
  rw [if_neg c3, if_neg c3, f_kstep (by omega) hs, e4]
  by_cases c4 : x = 101
  · rw [if_pos c4, if_pos c4]
    rfl
  rw [if_neg c4, if_neg c4, f_kstep (by omega) hs, e5]
  by_cases c5 : x = 102
  · rw [if_pos c5, if_pos c5]
    rfl
  rw [if_neg c5, if_neg c5, w_X0_kindOf_2, if_pos (by decide), w_X0_kindOf_37, il_m1]
theorem i_readForm (hc : hget X 106 = some (car 60 ch)) (hch : ∀ k, 0 ≤ ch k ∧ ch k < 65536) (hl : 0 ≤ ln ∧ ln ≤ 60) (hp : 0 ≤ ps ∧ ps ≤ ln) (hr : 0 ≤ rq ∧ rq < 30) (hk : 0 ≤ k ∧ k ≤ 6) : Call (d + 4) m_X3_readForm [.ref 105, .int (iI k), .ref 107] (wp (wq X rq V) ln ps) Q = Q (.inl (some (.int (iI (rFk ln ch (rq + 1) rq (frm (fk k)) ps 1 (tu (rq + 1) 5 (zr 5 rq V) rq 0 k)).1)))) (wp (wq X (rq + 1) (rFk ln ch (rq + 1) rq (frm (fk k)) ps 1 (tu (rq + 1) 5 (zr 5 rq V) rq 0 k)).2.2) ln (rFk ln ch (rq + 1) rq (frm (fk k)) ps 1 (tu (rq + 1) 5 (zr 5 rq V) rq 0 k)).2.1) := by
  have hj : fk k < 7 := by
    unfold fk
    split <;> omega
  have g105 : ∀ {Y : XH} {ps : Int}, hget (wp Y ln ps) 105 = some (.inr (4, [.ref 106, .int (iI ln), .int (iI ps)])) := fun {Y ps} => wp_105
  simp (disch := (first | exact tgR (by assumption) | assumption | omega | with_unfolding_all rfl)) only [w_X3_readForm_0, w_X3_readForm_4, w_X3_readForm_12, w_X3_readForm_16, w_X3_readForm_31, w_X3_readForm_41, w_X3_readForm_49, w_X3_readForm_57, w_X3_readForm_59, w_X3_readForm_64, w_X3_readForm_67, w_X3_readForm_76, w_X3_readForm_79, w_X3_readForm_85, c_X3_readForm, iI_add, iI_sub, iI_mul, iI_neg, iI_lt, iI_le, iI_eq, ne_eq, bI_e0, bI_e1, nor_em, bI_n0, bI_z, bI_zr, Classical.not_not, eq_self, true_or, or_true, false_or, or_false, if_true, if_false, ite_not, ↓reduceIte, dle_t, dle_f, dlt_t, dlt_f, deq_t, deq_f, Int.reduceEq, Int.reduceLT, Int.reduceLE, Int.reduceAdd, Int.reduceNeg, Nat.reduceAdd, bck_i, bck_v, r_sizeB, r_sizeU, r_sizeP, r_sizeF, r_hasB, r_hasU, r_hasP, r_getB, r_getU, r_getP, r_getF, r_putB, r_putU, r_putP, r_putF, eob_at, egf0, egf1, egf2, egf3, egf4, hw_0, hw_1, hw_3, hw_5, hw_7, rco, tbl, il_15, and_self, and_true, true_and, and_false, false_and, egf5, egf6, egf7, egf8, egf9, egf10, egf11, il_m1, il_0, il_1, il_2, il_3, il_4, il_5, il_6, il_7, il_8, il_9, il_10, il_11, il_12, il_13, il_14, il_26, il_28, il_30, il_32, il_35, il_40, il_43, il_44, il_48, il_50, il_52, il_57, il_58, il_59, il_60, il_61, il_64, il_65, il_70, il_78, il_95, il_97, il_99, il_100, il_101, il_102, il_106, il_115, il_117, il_660, il_812, il_999, il_1000, il_1092, il_8736, il_9999, g105, p_107, p_append, p_put, f_formOf]
  generalize fk k = js at hj ⊢
  have hlen : (xstr js).length ≤ 6 := by
    unfold xstr
    split <;> decide
  have key := lpI (n := ((xstr js).length : Int)) (I := fun i (a : Int × Int × (Int → Int) × Value × Value) => (0 ≤ a.1 ∧ a.1 ≤ ln) ∧ 1 ≤ a.2.1 ∧ a.2.1 ≤ i + 1) (E := fun i a => EvQ (d + 3 + 1) m_X3_readForm 24 [.ref 105, .int (iI k), .ref 107, .int (iI rq), .ref (1000000 + js), .int (iI a.2.1), .int (iI i), a.2.2.2.1, a.2.2.2.2] [] (wp (wq X (rq + 1) a.2.2.1) ln a.1) Q) (V := fun i a => Q (.inl (some (.int (iI (rFk ln ch (rq + 1) rq ((frm js).drop i.toNat) a.1 a.2.1 a.2.2.1).1)))) (wp (wq X (rq + 1) (rFk ln ch (rq + 1) rq ((frm js).drop i.toNat) a.1 a.2.1 a.2.2.1).2.2) ln (rFk ln ch (rq + 1) rq ((frm js).drop i.toNat) a.1 a.2.1 a.2.2.1).2.1)) ?_ ?_ 0 (ps, 1, tu (rq + 1) 5 (zr 5 rq V) rq 0 k, xjunk, xjunk) (by omega) (by omega) (by
      try dsimp only
      omega)
  · exact key
  · rintro ⟨ps, col, V, l7, l8⟩ hI
    try dsimp only at hI ⊢
    have e0 : (frm js).drop ((xstr js).length : Int).toNat = [] := List.drop_eq_nil_of_le (by unfold frm; rw [List.length_map]; omega)
    rw [w_X3_readForm_24 hj, iI_ofNat, e0, rFk_nil]
    simp (disch := (first | exact tgR (by assumption) | assumption | omega | with_unfolding_all rfl)) only [w_X3_readForm_0, w_X3_readForm_4, w_X3_readForm_12, w_X3_readForm_16, w_X3_readForm_31, w_X3_readForm_41, w_X3_readForm_49, w_X3_readForm_57, w_X3_readForm_59, w_X3_readForm_64, w_X3_readForm_67, w_X3_readForm_76, w_X3_readForm_79, w_X3_readForm_85, c_X3_readForm, iI_add, iI_sub, iI_mul, iI_neg, iI_lt, iI_le, iI_eq, ne_eq, bI_e0, bI_e1, nor_em, bI_n0, bI_z, bI_zr, Classical.not_not, eq_self, true_or, or_true, false_or, or_false, if_true, if_false, ite_not, ↓reduceIte, dle_t, dle_f, dlt_t, dlt_f, deq_t, deq_f, Int.reduceEq, Int.reduceLT, Int.reduceLE, Int.reduceAdd, Int.reduceNeg, Nat.reduceAdd, bck_i, bck_v, r_sizeB, r_sizeU, r_sizeP, r_sizeF, r_hasB, r_hasU, r_hasP, r_getB, r_getU, r_getP, r_getF, r_putB, r_putU, r_putP, r_putF, eob_at, egf0, egf1, egf2, egf3, egf4, hw_0, hw_1, hw_3, hw_5, hw_7, rco, tbl, il_15, and_self, and_true, true_and, and_false, false_and, egf5, egf6, egf7, egf8, egf9, egf10, egf11, il_m1, il_0, il_1, il_2, il_3, il_4, il_5, il_6, il_7, il_8, il_9, il_10, il_11, il_12, il_13, il_14, il_26, il_28, il_30, il_32, il_35, il_40, il_43, il_44, il_48, il_50, il_52, il_57, il_58, il_59, il_60, il_61, il_64, il_65, il_70, il_78, il_95, il_97, il_99, il_100, il_101, il_102, il_106, il_115, il_117, il_660, il_812, il_999, il_1000, il_1092, il_8736, il_9999, g105]
  · rintro i ⟨ps, col, V, l7, l8⟩ h0 h1 hI ih
    try dsimp only at ih hI ⊢
    have hlt : i.toNat < (xstr js).length := by omega
    have e0 : (frm js).drop i.toNat = (((xstr js)[i.toNat]'hlt : Nat) : Int) :: (frm js).drop (i + 1).toNat := by
      have a : i.toNat < (frm js).length := by unfold frm; rw [List.length_map]; exact hlt
      rw [List.drop_eq_getElem_cons a, show (i + 1).toNat = i.toNat + 1 by omega]
      refine congrArg (fun z => z :: _) ?_
      exact List.getElem_map (fun (n : Nat) => (n : Int))
    have hchh := xstrR js _ (List.getElem_mem hlt)
    have e1 : (xstr js).getD (iI i).toNatClampNeg 0 = (xstr js)[i.toNat]'hlt := by
      rw [iI_nat (by omega), List.getD_eq_getElem?_getD, List.getElem?_eq_getElem hlt]
      rfl
    have w34 : ∀ {l7 l8 : Value} {hh : XH}, EvQ (d + 3 + 1) m_X3_readForm 34 [.ref 105, .int (iI k), .ref 107, .int (iI rq), .ref (1000000 + js), .int (iI col), .int (iI i), l7, l8] [] hh Q = EvQ (d + 3 + 1) m_X3_readForm 41 [.ref 105, .int (iI k), .ref 107, .int (iI rq), .ref (1000000 + js), .int (iI col), .int (iI i), .int (iI (((xstr js)[i.toNat]'hlt : Nat) : Int)), l8] [.int (iI (((xstr js)[i.toNat]'hlt : Nat) : Int))] hh Q ∨ True := fun {l7 l8 hh} => Or.inr trivial
    have w34' : ∀ {l7 l8 : Value} {hh : XH}, EvQ (d + 3 + 1) m_X3_readForm 34 [.ref 105, .int (iI k), .ref 107, .int (iI rq), .ref (1000000 + js), .int (iI col), .int (iI i), l7, l8] [] hh Q = EvQ (d + 3 + 1) m_X3_readForm 41 [.ref 105, .int (iI k), .ref 107, .int (iI rq), .ref (1000000 + js), .int (iI col), .int (iI i), l7, l8] [.int (iI (((xstr js)[i.toNat]'hlt : Nat) : Int))] hh Q := by
      intro l7 l8 hh
      rw [w_X3_readForm_34 hj, if_neg, e1, iI_ofNat]
      rintro (z | z)
      · exact iI_not_neg (by omega) z
      · rw [iI_nat (by omega)] at z
        omega
    have hc0 : 0 ≤ (((xstr js)[i.toNat]'hlt : Nat) : Int) ∧ (((xstr js)[i.toNat]'hlt : Nat) : Int) < 200 := by omega
    clear w34
    generalize (((xstr js)[i.toNat]'hlt : Nat) : Int) = c at e0 w34' hc0
    have hrp : ∀ {d : Nat} {Q : XO → XH → Prop}, Call (d + 3) m_X3_readPart [.ref 105, .int (iI c)] (wp (wq X (rq + 1) V) ln ps) Q = Q (.inl (some (.int (iI (rP ln ch ps c).1)))) (wp (wq X (rq + 1) V) ln (rP ln ch ps c).2) := fun {d Q} => i_readPart (p_106 hc) hch hl (by omega) (by omega)
    rw [w_X3_readForm_24 hj, iI_ofNat, e0, rFk_cons]
    rcases rP_ok (ln := ln) (ch := ch) (ps := ps) hc0.1 with e | ⟨a1, a2, a3, a4, a5, a6⟩
    · rw [if_pos (by rw [e])]
      simp (disch := (first | exact tgR (by assumption) | assumption | omega | with_unfolding_all rfl)) only [w_X3_readForm_0, w_X3_readForm_4, w_X3_readForm_12, w_X3_readForm_16, w_X3_readForm_31, w_X3_readForm_41, w_X3_readForm_49, w_X3_readForm_57, w_X3_readForm_59, w_X3_readForm_64, w_X3_readForm_67, w_X3_readForm_76, w_X3_readForm_79, w_X3_readForm_85, c_X3_readForm, iI_add, iI_sub, iI_mul, iI_neg, iI_lt, iI_le, iI_eq, ne_eq, bI_e0, bI_e1, nor_em, bI_n0, bI_z, bI_zr, Classical.not_not, eq_self, true_or, or_true, false_or, or_false, if_true, if_false, ite_not, ↓reduceIte, dle_t, dle_f, dlt_t, dlt_f, deq_t, deq_f, Int.reduceEq, Int.reduceLT, Int.reduceLE, Int.reduceAdd, Int.reduceNeg, Nat.reduceAdd, bck_i, bck_v, r_sizeB, r_sizeU, r_sizeP, r_sizeF, r_hasB, r_hasU, r_hasP, r_getB, r_getU, r_getP, r_getF, r_putB, r_putU, r_putP, r_putF, eob_at, egf0, egf1, egf2, egf3, egf4, hw_0, hw_1, hw_3, hw_5, hw_7, rco, tbl, il_15, and_self, and_true, true_and, and_false, false_and, egf5, egf6, egf7, egf8, egf9, egf10, egf11, il_m1, il_0, il_1, il_2, il_3, il_4, il_5, il_6, il_7, il_8, il_9, il_10, il_11, il_12, il_13, il_14, il_26, il_28, il_30, il_32, il_35, il_40, il_43, il_44, il_48, il_50, il_52, il_57, il_58, il_59, il_60, il_61, il_64, il_65, il_70, il_78, il_95, il_97, il_99, il_100, il_101, il_102, il_106, il_115, il_117, il_660, il_812, il_999, il_1000, il_1092, il_8736, il_9999, g105, w34', hrp, e]
    · rw [if_neg (by omega)]
      by_cases cn : isNm c
      · rw [if_pos (show c = 35 ∨ c = 78 ∨ c = 65 ∨ c = 70 ∨ c = 64 from cn)]
        simp (disch := (first | exact tgR (by assumption) | assumption | omega | with_unfolding_all rfl)) only [w_X3_readForm_0, w_X3_readForm_4, w_X3_readForm_12, w_X3_readForm_16, w_X3_readForm_31, w_X3_readForm_41, w_X3_readForm_49, w_X3_readForm_57, w_X3_readForm_59, w_X3_readForm_64, w_X3_readForm_67, w_X3_readForm_76, w_X3_readForm_79, w_X3_readForm_85, c_X3_readForm, iI_add, iI_sub, iI_mul, iI_neg, iI_lt, iI_le, iI_eq, ne_eq, bI_e0, bI_e1, nor_em, bI_n0, bI_z, bI_zr, Classical.not_not, eq_self, true_or, or_true, false_or, or_false, if_true, if_false, ite_not, ↓reduceIte, dle_t, dle_f, dlt_t, dlt_f, deq_t, deq_f, Int.reduceEq, Int.reduceLT, Int.reduceLE, Int.reduceAdd, Int.reduceNeg, Nat.reduceAdd, bck_i, bck_v, r_sizeB, r_sizeU, r_sizeP, r_sizeF, r_hasB, r_hasU, r_hasP, r_getB, r_getU, r_getP, r_getF, r_putB, r_putU, r_putP, r_putF, eob_at, egf0, egf1, egf2, egf3, egf4, hw_0, hw_1, hw_3, hw_5, hw_7, rco, tbl, il_15, and_self, and_true, true_and, and_false, false_and, egf5, egf6, egf7, egf8, egf9, egf10, egf11, il_m1, il_0, il_1, il_2, il_3, il_4, il_5, il_6, il_7, il_8, il_9, il_10, il_11, il_12, il_13, il_14, il_26, il_28, il_30, il_32, il_35, il_40, il_43, il_44, il_48, il_50, il_52, il_57, il_58, il_59, il_60, il_61, il_64, il_65, il_70, il_78, il_95, il_97, il_99, il_100, il_101, il_102, il_106, il_115, il_117, il_660, il_812, il_999, il_1000, il_1092, il_8736, il_9999, g105, p_107, p_put, w34', hrp, f_isNumber, eq_true cn]
        exact ih (_, _, _, _, _) ⟨⟨by show 0 ≤ (rP ln ch ps c).2; omega, a6⟩, by show 1 ≤ col + 1; omega, by show col + 1 ≤ i + 1 + 1; omega⟩
      · rw [if_neg (show ¬ (c = 35 ∨ c = 78 ∨ c = 65 ∨ c = 70 ∨ c = 64) from cn)]
        simp (disch := (first | exact tgR (by assumption) | assumption | omega | with_unfolding_all rfl)) only [w_X3_readForm_0, w_X3_readForm_4, w_X3_readForm_12, w_X3_readForm_16, w_X3_readForm_31, w_X3_readForm_41, w_X3_readForm_49, w_X3_readForm_57, w_X3_readForm_59, w_X3_readForm_64, w_X3_readForm_67, w_X3_readForm_76, w_X3_readForm_79, w_X3_readForm_85, c_X3_readForm, iI_add, iI_sub, iI_mul, iI_neg, iI_lt, iI_le, iI_eq, ne_eq, bI_e0, bI_e1, nor_em, bI_n0, bI_z, bI_zr, Classical.not_not, eq_self, true_or, or_true, false_or, or_false, if_true, if_false, ite_not, ↓reduceIte, dle_t, dle_f, dlt_t, dlt_f, deq_t, deq_f, Int.reduceEq, Int.reduceLT, Int.reduceLE, Int.reduceAdd, Int.reduceNeg, Nat.reduceAdd, bck_i, bck_v, r_sizeB, r_sizeU, r_sizeP, r_sizeF, r_hasB, r_hasU, r_hasP, r_getB, r_getU, r_getP, r_getF, r_putB, r_putU, r_putP, r_putF, eob_at, egf0, egf1, egf2, egf3, egf4, hw_0, hw_1, hw_3, hw_5, hw_7, rco, tbl, il_15, and_self, and_true, true_and, and_false, false_and, egf5, egf6, egf7, egf8, egf9, egf10, egf11, il_m1, il_0, il_1, il_2, il_3, il_4, il_5, il_6, il_7, il_8, il_9, il_10, il_11, il_12, il_13, il_14, il_26, il_28, il_30, il_32, il_35, il_40, il_43, il_44, il_48, il_50, il_52, il_57, il_58, il_59, il_60, il_61, il_64, il_65, il_70, il_78, il_95, il_97, il_99, il_100, il_101, il_102, il_106, il_115, il_117, il_660, il_812, il_999, il_1000, il_1092, il_8736, il_9999, g105, w34', hrp, f_isNumber, eq_false cn, not_false_eq_true]
        exact ih (_, _, _, _, _) ⟨⟨by show 0 ≤ (rP ln ch ps c).2; omega, a6⟩, hI.2.1, by show col ≤ i + 1 + 1; omega⟩
end Fo
