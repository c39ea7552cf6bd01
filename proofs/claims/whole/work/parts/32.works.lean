set_option maxRecDepth 20000
/-! Works: ending and bringing units. -/
def rw11 (U : Int → Int) (n : Int) (R : Int → Int) : Int → Int := fun k => if n * 11 ≤ k ∧ k < n * 11 + 11 then R (k - n * 11) else U k
def mk (b f t e g p : Int) (a : Int → Int) : Int → Int := fun c => if c = 0 then b else if c = 1 then f else if c = 2 then t else if c = 3 then e else if c = 4 then g else if c = 5 then p else a (c - 6)
theorem iup_rw {U R : Int → Int} {n c x : Int} (h : 0 ≤ c ∧ c < 11) : iup (rw11 U n R) (n * 11 + c) x = rw11 U n (iup R c x) := by
  funext k
  unfold iup rw11
  by_cases h1 : n * 11 ≤ k ∧ k < n * 11 + 11
  · rw [if_pos h1, if_pos h1]
    dsimp only
    by_cases h2 : k = n * 11 + c
    · rw [if_pos h2, if_pos (by omega)]
    · rw [if_neg h2, if_neg (by omega)]
  · rw [if_neg h1, if_neg h1, if_neg (by omega)]
theorem rw_at {U R : Int → Int} {n c : Int} (h : 0 ≤ c ∧ c < 11) : rw11 U n R (n * 11 + c) = R c := by
  unfold rw11
  rw [if_pos (by omega), show n * 11 + c - n * 11 = c by omega]
theorem rw_ne {U R : Int → Int} {n u c : Int} (h : 0 ≤ c ∧ c < 11) (hu : u ≠ n) : rw11 U n R (u * 11 + c) = U (u * 11 + c) := by
  unfold rw11
  rw [if_neg (by omega)]
theorem rwR {U R : Int → Int} {n : Int} (hU : RU U) (hR : RU R) : RU (rw11 U n R) := by
  intro k
  unfold rw11
  split
  · exact hR _
  · exact hU k
theorem zr_rw {U : Int → Int} {n : Int} : zr 11 n U = rw11 U n (fun _ => 0) := by
  funext k
  unfold zr rw11
  rfl
theorem iup_mk4 {b f t e g p x : Int} {a : Int → Int} : iup (mk b f t e g p a) 4 x = mk b f t e x p a := by
  funext c
  unfold iup mk
  by_cases h : c = 4
  · subst h; simp
  · rw [if_neg h, if_neg h, if_neg h]
theorem iup_mka {b f t e g p x k : Int} {a : Int → Int} (hk : 0 ≤ k) : iup (mk b f t e g p a) (6 + k) x = mk b f t e g p (iup a k x) := by
  funext c
  unfold iup mk
  by_cases h : c = 6 + k
  · rw [if_pos h, if_neg (by omega), if_neg (by omega), if_neg (by omega), if_neg (by omega), if_neg (by omega), if_neg (by omega)]
    dsimp only
    rw [if_pos (by omega)]
  · rw [if_neg h]
    have : ¬ c - 6 = k := by omega
    dsimp only
    rw [if_neg this]
theorem mkR {b f t e g p : Int} {a : Int → Int} (hb : -2147483648 ≤ b ∧ b < 2147483648) (hf : -2147483648 ≤ f ∧ f < 2147483648) (ht : -2147483648 ≤ t ∧ t < 2147483648) (he : -2147483648 ≤ e ∧ e < 2147483648) (hg : -2147483648 ≤ g ∧ g < 2147483648) (hp : -2147483648 ≤ p ∧ p < 2147483648) (ha : RU a) : RU (mk b f t e g p a) := by
  intro c
  unfold mk
  repeat (first | assumption | exact ha _ | split)
theorem R0 : RU (fun _ => 0) := fun _ => show (-2147483648 : Int) ≤ 0 ∧ (0 : Int) < 2147483648 by omega
theorem uA_k {nu : Int} {U : Int → Int} {u k : Int} (hk : 0 ≤ k) : uA nu U u k = tg nu 11 U u (6 + k) := if_neg (by omega)
section Works
variable {d : Nat} {h : XH} {r : Nat} {dy nb nu np nf : Int} {B U P F : Int → Int} {Q : XO → XH → Prop} {i j x b f k t ia u p : Int}
variable {w : Nat}
theorem k_endUnit (hw : (0 ≤ nb ∧ nb ≤ 4) ∧ (0 ≤ nu ∧ nu ≤ 60) ∧ (0 ≤ np ∧ np ≤ 40) ∧ (0 ≤ nf ∧ nf ≤ 40)) (hk : hget h w = some (.inr (7, [.ref r]))) (hd : w < r ∨ r + 9 ≤ w) (hu : 0 ≤ u ∧ u < nu) (hp : -2147483648 ≤ p ∧ p < 2147483648) : Call (d + 1) m_X6_endUnit [.ref w, .int (iI u), .int (iI p)] (wr h r dy nb B nu U np P nf F) Q = Q (.inl none) (wr h r dy nb B nu (iup U (u * 11 + 3) (tg np 7 P p 6)) np P nf F) := by
  obtain ⟨⟨b1, b2⟩, ⟨u1, u2⟩, ⟨p1, p2⟩, f1, f2⟩ := id hw
  have ho : ∀ {dy nb nu np nf : Int} {B U P F : Int → Int}, hget (wr h r dy nb B nu U np P nf F) w = some (.inr (7, [.ref r])) := fun {dy nb nu np nf B U P F} => by rw [hw_n (by omega)]; exact hk
  simp (disch := (first | exact tgR (by assumption) | assumption | omega)) only [w_X6_endUnit_0, w_X6_endUnit_4, w_X6_endUnit_7, w_X6_endUnit_13, w_X6_endUnit_16, w_X6_endUnit_22, w_X6_endUnit_25, c_X6_endUnit, iI_add, iI_sub, iI_mul, iI_neg, iI_lt, iI_le, iI_eq, ne_eq, bI_e0, bI_e1, nor_em, bI_n0, bI_z, bI_zr, Classical.not_not, eq_self, true_or, or_true, false_or, or_false, if_true, if_false, ite_not, ↓reduceIte, dle_t, dle_f, dlt_t, dlt_f, deq_t, deq_f, Int.reduceEq, Int.reduceLT, Int.reduceLE, Int.reduceAdd, Int.reduceNeg, Nat.reduceAdd, bck_i, bck_v, r_sizeB, r_sizeU, r_sizeP, r_sizeF, r_hasB, r_hasU, r_hasP, r_getB, r_getU, r_getP, r_getF, r_putB, r_putU, r_putP, r_putF, eob_at, egf0, egf1, egf2, egf3, egf4, hw_0, hw_1, hw_3, hw_5, hw_7, rco, tbl, il_m1, il_0, il_1, il_2, il_3, il_4, il_5, il_6, il_7, il_8, il_9, il_10, il_11, il_12, il_13, il_14, il_26, il_28, il_30, il_32, il_35, il_40, il_43, il_44, il_48, il_50, il_52, il_57, il_58, il_59, il_60, il_61, il_64, il_65, il_70, il_78, il_95, il_97, il_99, il_100, il_101, il_102, il_106, il_115, il_117, il_660, il_812, il_999, il_1000, il_1092, il_8736, il_9999, ho]
  rw [tu_in (by omega)]
theorem k_generationOf (hw : (0 ≤ nb ∧ nb ≤ 4) ∧ (0 ≤ nu ∧ nu ≤ 60) ∧ (0 ≤ np ∧ np ≤ 40) ∧ (0 ≤ nf ∧ nf ≤ 40)) (hk : hget h w = some (.inr (7, [.ref r]))) (hd : w < r ∨ r + 9 ≤ w) (hu : -2147483648 ≤ u ∧ u < 2147483648) : Call (d + 1) m_X6_generationOf [.ref w, .int (iI u)] (wr h r dy nb B nu U np P nf F) Q = Q (.inl (some (.int (iI (tg nu 11 U u 4))))) (wr h r dy nb B nu U np P nf F) := by
  obtain ⟨⟨b1, b2⟩, ⟨u1, u2⟩, ⟨p1, p2⟩, f1, f2⟩ := id hw
  have ho : ∀ {dy nb nu np nf : Int} {B U P F : Int → Int}, hget (wr h r dy nb B nu U np P nf F) w = some (.inr (7, [.ref r])) := fun {dy nb nu np nf B U P F} => by rw [hw_n (by omega)]; exact hk
  simp (disch := (first | exact tgR (by assumption) | assumption | omega)) only [w_X6_generationOf_0, w_X6_generationOf_4, w_X6_generationOf_7, w_X6_generationOf_12, c_X6_generationOf, iI_add, iI_sub, iI_mul, iI_neg, iI_lt, iI_le, iI_eq, ne_eq, bI_e0, bI_e1, nor_em, bI_n0, bI_z, bI_zr, Classical.not_not, eq_self, true_or, or_true, false_or, or_false, if_true, if_false, ite_not, ↓reduceIte, dle_t, dle_f, dlt_t, dlt_f, deq_t, deq_f, Int.reduceEq, Int.reduceLT, Int.reduceLE, Int.reduceAdd, Int.reduceNeg, Nat.reduceAdd, bck_i, bck_v, r_sizeB, r_sizeU, r_sizeP, r_sizeF, r_hasB, r_hasU, r_hasP, r_getB, r_getU, r_getP, r_getF, r_putB, r_putU, r_putP, r_putF, eob_at, egf0, egf1, egf2, egf3, egf4, hw_0, hw_1, hw_3, hw_5, hw_7, rco, tbl, il_m1, il_0, il_1, il_2, il_3, il_4, il_5, il_6, il_7, il_8, il_9, il_10, il_11, il_12, il_13, il_14, il_26, il_28, il_30, il_32, il_35, il_40, il_43, il_44, il_48, il_50, il_52, il_57, il_58, il_59, il_60, il_61, il_64, il_65, il_70, il_78, il_95, il_97, il_99, il_100, il_101, il_102, il_106, il_115, il_117, il_660, il_812, il_999, il_1000, il_1092, il_8736, il_9999, ho]
theorem k_bringUnit (hw : (0 ≤ nb ∧ nb ≤ 4) ∧ (0 ≤ nu ∧ nu ≤ 60) ∧ (0 ≤ np ∧ np ≤ 40) ∧ (0 ≤ nf ∧ nf ≤ 40)) (hk : hget h w = some (.inr (7, [.ref r]))) (hd : w < r ∨ r + 9 ≤ w) (hn : nu < 60) (hp : -2147483648 ≤ p ∧ p < 2147483648) : Call (d + 2) m_X6_bringUnit [.ref w, .int (iI p), .int (iI b), .int (iI f)] (wr h r dy nb B nu U np P nf F) Q = Q (.inl (some (.int (iI nu)))) (wr h r dy nb B (nu + 1) (rw11 U nu (mk b f (tg np 7 P p 6) (-1) 0 p (fun _ => 0))) np P nf F) := by
  obtain ⟨⟨b1, b2⟩, ⟨u1, u2⟩, ⟨p1, p2⟩, f1, f2⟩ := id hw
  have ho : ∀ {dy nb nu np nf : Int} {B U P F : Int → Int}, hget (wr h r dy nb B nu U np P nf F) w = some (.inr (7, [.ref r])) := fun {dy nb nu np nf B U P F} => by rw [hw_n (by omega)]; exact hk
  simp (disch := (first | exact tgR (by assumption) | assumption | omega)) only [w_X6_bringUnit_0, w_X6_bringUnit_4, w_X6_bringUnit_7, w_X6_bringUnit_10, w_X6_bringUnit_16, w_X6_bringUnit_19, w_X6_bringUnit_26, w_X6_bringUnit_30, w_X6_bringUnit_33, w_X6_bringUnit_40, w_X6_bringUnit_44, w_X6_bringUnit_47, w_X6_bringUnit_54, w_X6_bringUnit_57, w_X6_bringUnit_63, w_X6_bringUnit_66, w_X6_bringUnit_70, w_X6_bringUnit_73, w_X6_bringUnit_80, w_X6_bringUnit_84, w_X6_bringUnit_87, w_X6_bringUnit_94, c_X6_bringUnit, iI_add, iI_sub, iI_mul, iI_neg, iI_lt, iI_le, iI_eq, ne_eq, bI_e0, bI_e1, nor_em, bI_n0, bI_z, bI_zr, Classical.not_not, eq_self, true_or, or_true, false_or, or_false, if_true, if_false, ite_not, ↓reduceIte, dle_t, dle_f, dlt_t, dlt_f, deq_t, deq_f, Int.reduceEq, Int.reduceLT, Int.reduceLE, Int.reduceAdd, Int.reduceNeg, Nat.reduceAdd, bck_i, bck_v, r_sizeB, r_sizeU, r_sizeP, r_sizeF, r_hasB, r_hasU, r_hasP, r_getB, r_getU, r_getP, r_getF, r_putB, r_putU, r_putP, r_putF, eob_at, egf0, egf1, egf2, egf3, egf4, hw_0, hw_1, hw_3, hw_5, hw_7, rco, tbl, il_m1, il_0, il_1, il_2, il_3, il_4, il_5, il_6, il_7, il_8, il_9, il_10, il_11, il_12, il_13, il_14, il_26, il_28, il_30, il_32, il_35, il_40, il_43, il_44, il_48, il_50, il_52, il_57, il_58, il_59, il_60, il_61, il_64, il_65, il_70, il_78, il_95, il_97, il_99, il_100, il_101, il_102, il_106, il_115, il_117, il_660, il_812, il_999, il_1000, il_1092, il_8736, il_9999, r_appendU, ho]
  refine congrArg (fun z => Q (.inl (some (.int (iI nu)))) (wr h r dy nb B (nu + 1) z np P nf F)) ?_
  rw [tu_in (by omega), tu_in (by omega), tu_in (by omega), tu_in (by omega), tu_in (by omega), zr_rw, iup_rw (by omega), iup_rw (by omega), iup_rw (by omega), iup_rw (by omega), iup_rw (by omega)]
  refine congrArg (rw11 U nu) (funext fun c => ?_)
  unfold iup mk
  by_cases e0 : c = 0
  · subst e0; rfl
  by_cases e1 : c = 1
  · subst e1; rfl
  by_cases e2 : c = 2
  · subst e2; rfl
  by_cases e3 : c = 3
  · subst e3; rfl
  by_cases e5 : c = 5
  · subst e5; rfl
  · rw [if_neg e5, if_neg e3, if_neg e2, if_neg e1, if_neg e0, if_neg e0, if_neg e1, if_neg e2, if_neg e3, if_neg e5]
    split <;> rfl
theorem tg_rw {n c : Int} (hc : 0 ≤ c ∧ c < 11) (hu : 0 ≤ u ∧ u < n) {R : Int → Int} : tg (n + 1) 11 (rw11 U n R) u c = tg n 11 U u c := by
  rw [tg_in (by omega), tg_in (by omega), rw_ne hc (by omega)]
theorem k_bringChild (hw : (0 ≤ nb ∧ nb ≤ 4) ∧ (0 ≤ nu ∧ nu ≤ 60) ∧ (0 ≤ np ∧ np ≤ 40) ∧ (0 ≤ nf ∧ nf ≤ 40)) (hk : hget h w = some (.inr (7, [.ref r]))) (hd : w < r ∨ r + 9 ≤ w) (hn : nu < 60) (hp : -2147483648 ≤ p ∧ p < 2147483648) (hu : 0 ≤ u ∧ u < nu) (hg : -1 ≤ tg nu 11 U u 4 ∧ tg nu 11 U u 4 < 1000) : Call (d + 3) m_X6_bringChild [.ref w, .int (iI u), .int (iI p)] (wr h r dy nb B nu U np P nf F) Q = Q (.inl (some (.int (iI nu)))) (wr h r dy nb B (nu + 1) (rw11 U nu (mk (tg nu 11 U u 0) (tg nu 11 U u 1) (tg np 7 P p 6) (-1) (tg nu 11 U u 4 + 1) p (fun _ => 0))) np P nf F) := by
  obtain ⟨⟨b1, b2⟩, ⟨u1, u2⟩, ⟨p1, p2⟩, f1, f2⟩ := id hw
  have ho : ∀ {dy nb nu np nf : Int} {B U P F : Int → Int}, hget (wr h r dy nb B nu U np P nf F) w = some (.inr (7, [.ref r])) := fun {dy nb nu np nf B U P F} => by rw [hw_n (by omega)]; exact hk
  simp (disch := (first | exact tgR (by assumption) | assumption | omega)) only [w_X6_bringChild_0, w_X6_bringChild_4, w_X6_bringChild_7, w_X6_bringChild_12, w_X6_bringChild_17, w_X6_bringChild_20, w_X6_bringChild_25, w_X6_bringChild_35, w_X6_bringChild_41, w_X6_bringChild_44, w_X6_bringChild_52, w_X6_bringChild_57, c_X6_bringChild, iI_add, iI_sub, iI_mul, iI_neg, iI_lt, iI_le, iI_eq, ne_eq, bI_e0, bI_e1, nor_em, bI_n0, bI_z, bI_zr, Classical.not_not, eq_self, true_or, or_true, false_or, or_false, if_true, if_false, ite_not, ↓reduceIte, dle_t, dle_f, dlt_t, dlt_f, deq_t, deq_f, Int.reduceEq, Int.reduceLT, Int.reduceLE, Int.reduceAdd, Int.reduceNeg, Nat.reduceAdd, bck_i, bck_v, r_sizeB, r_sizeU, r_sizeP, r_sizeF, r_hasB, r_hasU, r_hasP, r_getB, r_getU, r_getP, r_getF, r_putB, r_putU, r_putP, r_putF, eob_at, egf0, egf1, egf2, egf3, egf4, hw_0, hw_1, hw_3, hw_5, hw_7, rco, tbl, il_m1, il_0, il_1, il_2, il_3, il_4, il_5, il_6, il_7, il_8, il_9, il_10, il_11, il_12, il_13, il_14, il_26, il_28, il_30, il_32, il_35, il_40, il_43, il_44, il_48, il_50, il_52, il_57, il_58, il_59, il_60, il_61, il_64, il_65, il_70, il_78, il_95, il_97, il_99, il_100, il_101, il_102, il_106, il_115, il_117, il_660, il_812, il_999, il_1000, il_1092, il_8736, il_9999, k_bringUnit, k_generationOf, ho]
  rw [tg_rw (by omega) hu, tu_in (by omega), iup_rw (by omega), iup_mk4]
theorem k_addArea (hw : (0 ≤ nb ∧ nb ≤ 4) ∧ (0 ≤ nu ∧ nu ≤ 60) ∧ (0 ≤ np ∧ np ≤ 40) ∧ (0 ≤ nf ∧ nf ≤ 40)) (hk : hget h w = some (.inr (7, [.ref r]))) (hd : w < r ∨ r + 9 ≤ w) (hu : 0 ≤ u ∧ u < nu) (hj : 0 ≤ k ∧ k < 5) : Call (d + 2) m_X6_addArea [.ref w, .int (iI u), .int (iI k), .int (iI x)] (wr h r dy nb B nu U np P nf F) Q = Q (.inl none) (wr h r dy nb B nu (iup U (u * 11 + (6 + k)) (tg nu 11 U u (6 + k) + x)) np P nf F) := by
  obtain ⟨⟨b1, b2⟩, ⟨u1, u2⟩, ⟨p1, p2⟩, f1, f2⟩ := id hw
  have ho : ∀ {dy nb nu np nf : Int} {B U P F : Int → Int}, hget (wr h r dy nb B nu U np P nf F) w = some (.inr (7, [.ref r])) := fun {dy nb nu np nf B U P F} => by rw [hw_n (by omega)]; exact hk
  simp (disch := (first | exact tgR (by assumption) | assumption | omega)) only [w_X6_addArea_0, w_X6_addArea_4, w_X6_addArea_7, w_X6_addArea_16, w_X6_addArea_21, w_X6_addArea_26, c_X6_addArea, iI_add, iI_sub, iI_mul, iI_neg, iI_lt, iI_le, iI_eq, ne_eq, bI_e0, bI_e1, nor_em, bI_n0, bI_z, bI_zr, Classical.not_not, eq_self, true_or, or_true, false_or, or_false, if_true, if_false, ite_not, ↓reduceIte, dle_t, dle_f, dlt_t, dlt_f, deq_t, deq_f, Int.reduceEq, Int.reduceLT, Int.reduceLE, Int.reduceAdd, Int.reduceNeg, Nat.reduceAdd, bck_i, bck_v, r_sizeB, r_sizeU, r_sizeP, r_sizeF, r_hasB, r_hasU, r_hasP, r_getB, r_getU, r_getP, r_getF, r_putB, r_putU, r_putP, r_putF, eob_at, egf0, egf1, egf2, egf3, egf4, hw_0, hw_1, hw_3, hw_5, hw_7, rco, tbl, il_m1, il_0, il_1, il_2, il_3, il_4, il_5, il_6, il_7, il_8, il_9, il_10, il_11, il_12, il_13, il_14, il_26, il_28, il_30, il_32, il_35, il_40, il_43, il_44, il_48, il_50, il_52, il_57, il_58, il_59, il_60, il_61, il_64, il_65, il_70, il_78, il_95, il_97, il_99, il_100, il_101, il_102, il_106, il_115, il_117, il_660, il_812, il_999, il_1000, il_1092, il_8736, il_9999, r_areaOf, uA_k, ho]
  rw [tu_in (by omega)]
theorem k_addUnit (hw : (0 ≤ nb ∧ nb ≤ 4) ∧ (0 ≤ nu ∧ nu ≤ 60) ∧ (0 ≤ np ∧ np ≤ 40) ∧ (0 ≤ nf ∧ nf ≤ 40)) (hP : RU P) (hk : hget h w = some (.inr (7, [.ref r]))) (hd : w < r ∨ r + 9 ≤ w) (hn : nu < 60) (hp : -2147483648 ≤ p ∧ p < 2147483648) (h4 : 0 ≤ tg np 7 P p 4 ∧ tg np 7 P p 4 < 5) : Call (d + 3) m_X6_addUnit [.ref w, .int (iI p), .int (iI b), .int (iI f)] (wr h r dy nb B nu U np P nf F) Q = Q (.inl (some (.int (iI nu)))) (wr h r dy nb B (nu + 1) (rw11 U nu (mk b f (tg np 7 P p 6) (-1) 0 p (iup (fun _ => 0) (tg np 7 P p 4) (tg np 7 P p 3)))) np P nf F) := by
  obtain ⟨⟨b1, b2⟩, ⟨u1, u2⟩, ⟨p1, p2⟩, f1, f2⟩ := id hw
  have ho : ∀ {dy nb nu np nf : Int} {B U P F : Int → Int}, hget (wr h r dy nb B nu U np P nf F) w = some (.inr (7, [.ref r])) := fun {dy nb nu np nf B U P F} => by rw [hw_n (by omega)]; exact hk
  simp (disch := (first | exact tgR (by assumption) | assumption | omega)) only [w_X6_addUnit_0, w_X6_addUnit_7, w_X6_addUnit_16, w_X6_addUnit_19, w_X6_addUnit_24, w_X6_addUnit_28, w_X6_addUnit_31, w_X6_addUnit_36, w_X6_addUnit_39, c_X6_addUnit, iI_add, iI_sub, iI_mul, iI_neg, iI_lt, iI_le, iI_eq, ne_eq, bI_e0, bI_e1, nor_em, bI_n0, bI_z, bI_zr, Classical.not_not, eq_self, true_or, or_true, false_or, or_false, if_true, if_false, ite_not, ↓reduceIte, dle_t, dle_f, dlt_t, dlt_f, deq_t, deq_f, Int.reduceEq, Int.reduceLT, Int.reduceLE, Int.reduceAdd, Int.reduceNeg, Nat.reduceAdd, bck_i, bck_v, r_sizeB, r_sizeU, r_sizeP, r_sizeF, r_hasB, r_hasU, r_hasP, r_getB, r_getU, r_getP, r_getF, r_putB, r_putU, r_putP, r_putF, eob_at, egf0, egf1, egf2, egf3, egf4, hw_0, hw_1, hw_3, hw_5, hw_7, rco, tbl, il_m1, il_0, il_1, il_2, il_3, il_4, il_5, il_6, il_7, il_8, il_9, il_10, il_11, il_12, il_13, il_14, il_26, il_28, il_30, il_32, il_35, il_40, il_43, il_44, il_48, il_50, il_52, il_57, il_58, il_59, il_60, il_61, il_64, il_65, il_70, il_78, il_95, il_97, il_99, il_100, il_101, il_102, il_106, il_115, il_117, il_660, il_812, il_999, il_1000, il_1092, il_8736, il_9999, k_bringUnit, k_addArea, ho]
  have e : tg (nu + 1) 11 (rw11 U nu (mk b f (tg np 7 P p 6) (-1) 0 p (fun _ => 0))) nu (6 + tg np 7 P p 4) = 0 := by
    rw [tg_in (by omega), rw_at (by omega)]
    unfold mk
    rw [if_neg (by omega), if_neg (by omega), if_neg (by omega), if_neg (by omega), if_neg (by omega), if_neg (by omega)]
  rw [e, iup_rw (by omega), iup_mka (by omega), Int.zero_add]
end Works
