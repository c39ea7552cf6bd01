set_option maxRecDepth 20000
/-! Works: changing, joining, splitting. -/
def r5 (a0 a1 a2 a3 a4 : Int) : Int → Int := iup (iup (iup (iup (iup (fun _ => 0) 0 a0) 1 a1) 2 a2) 3 a3) 4 a4
theorem iup_rwo {U R : Int → Int} {n m c x : Int} (h : (0 ≤ c ∧ c < 11) ∧ (m < n ∨ n < m)) : iup (rw11 U m R) (n * 11 + c) x = rw11 (iup U (n * 11 + c) x) m R := by
  funext k
  unfold iup rw11
  by_cases h1 : m * 11 ≤ k ∧ k < m * 11 + 11
  · rw [if_pos h1, if_pos h1, if_neg (by omega)]
  · rw [if_neg h1, if_neg h1]
theorem iup_ne {a : Int → Int} {k x j : Int} (h : j < k ∨ k < j) : iup a k x j = a j := if_neg (by omega)
theorem iup_eq {a : Int → Int} {k x : Int} : iup a k x k = x := if_pos rfl
theorem cell_ne {a : Int → Int} {n c x u c' : Int} (h : (0 ≤ c ∧ c < 11) ∧ (0 ≤ c' ∧ c' < 11) ∧ (u < n ∨ n < u ∨ c < c' ∨ c' < c)) : iup a (n * 11 + c) x (u * 11 + c') = a (u * 11 + c') := if_neg (by omega)
section Mk
variable {b f t e g p x : Int} {a : Int → Int}
theorem mk_0 : mk b f t e g p a 0 = b := rfl
theorem mk_1 : mk b f t e g p a 1 = f := rfl
theorem mk_2 : mk b f t e g p a 2 = t := rfl
theorem mk_3 : mk b f t e g p a 3 = e := rfl
theorem mk_4 : mk b f t e g p a 4 = g := rfl
theorem mk_5 : mk b f t e g p a 5 = p := rfl
theorem mk_6 : mk b f t e g p a 6 = a 0 := rfl
theorem mk_7 : mk b f t e g p a 7 = a 1 := rfl
theorem mk_8 : mk b f t e g p a 8 = a 2 := rfl
theorem mk_9 : mk b f t e g p a 9 = a 3 := rfl
theorem mk_10 : mk b f t e g p a 10 = a 4 := rfl
theorem mk_k {k : Int} (h : 0 ≤ k) : mk b f t e g p a (6 + k) = a k := by
  unfold mk
  rw [if_neg (by omega), if_neg (by omega), if_neg (by omega), if_neg (by omega), if_neg (by omega), if_neg (by omega), show 6 + k - 6 = k by omega]
theorem im_6 : iup (mk b f t e g p a) 6 x = mk b f t e g p (iup a 0 x) := iup_mka (k := 0) (by omega)
theorem im_7 : iup (mk b f t e g p a) 7 x = mk b f t e g p (iup a 1 x) := iup_mka (k := 1) (by omega)
theorem im_8 : iup (mk b f t e g p a) 8 x = mk b f t e g p (iup a 2 x) := iup_mka (k := 2) (by omega)
theorem im_9 : iup (mk b f t e g p a) 9 x = mk b f t e g p (iup a 3 x) := iup_mka (k := 3) (by omega)
theorem im_10 : iup (mk b f t e g p a) 10 x = mk b f t e g p (iup a 4 x) := iup_mka (k := 4) (by omega)
end Mk
theorem uA_m1 {nu : Int} {U : Int → Int} {u : Int} : uA nu U u (-1) = uS nu U u := rfl
section Works
variable {d : Nat} {h : XH} {r : Nat} {dy nb nu np nf : Int} {B U P F : Int → Int} {Q : XO → XH → Prop} {i j x b f k t ia u p : Int}
variable {w : Nat}
theorem k_changeUnit (hw : (0 ≤ nb ∧ nb ≤ 4) ∧ (0 ≤ nu ∧ nu ≤ 60) ∧ (0 ≤ np ∧ np ≤ 40) ∧ (0 ≤ nf ∧ nf ≤ 40)) (hU : RU U) (hP : RU P) (hk : hget h w = some (.inr (7, [.ref r]))) (hd : w < r ∨ r + 9 ≤ w) (hn : nu < 60) (hp : -2147483648 ≤ p ∧ p < 2147483648) (hu : 0 ≤ u ∧ u < nu) (hg : -1 ≤ U (u * 11 + 4) ∧ U (u * 11 + 4) < 1000) (h3 : 0 ≤ tg np 7 P p 3 ∧ tg np 7 P p 3 < 5) (h4 : 0 ≤ tg np 7 P p 4 ∧ tg np 7 P p 4 < 5) : Call (d + 4) m_X6_changeUnit [.ref w, .int (iI p), .int (iI u), .int (iI x)] (wr h r dy nb B nu U np P nf F) Q = Q (.inl (some (.int (iI nu)))) (wr h r dy nb B (nu + 1) (rw11 (iup U (u * 11 + 3) (tg np 7 P p 6)) nu (mk (U (u * 11 + 0)) (U (u * 11 + 1)) (tg np 7 P p 6) (-1) (U (u * 11 + 4) + 1) p (iup (iup (r5 (U (u * 11 + 6)) (U (u * 11 + 7)) (U (u * 11 + 8)) (U (u * 11 + 9)) (U (u * 11 + 10))) (tg np 7 P p 3) (r5 (U (u * 11 + 6)) (U (u * 11 + 7)) (U (u * 11 + 8)) (U (u * 11 + 9)) (U (u * 11 + 10)) (tg np 7 P p 3) + -x)) (tg np 7 P p 4) (iup (r5 (U (u * 11 + 6)) (U (u * 11 + 7)) (U (u * 11 + 8)) (U (u * 11 + 9)) (U (u * 11 + 10))) (tg np 7 P p 3) (r5 (U (u * 11 + 6)) (U (u * 11 + 7)) (U (u * 11 + 8)) (U (u * 11 + 9)) (U (u * 11 + 10)) (tg np 7 P p 3) + -x) (tg np 7 P p 4) + x)))) np P nf F) := by
  obtain ⟨⟨b1, b2⟩, ⟨u1, u2⟩, ⟨p1, p2⟩, f1, f2⟩ := id hw
  have ho : ∀ {dy nb nu np nf : Int} {B U P F : Int → Int}, hget (wr h r dy nb B nu U np P nf F) w = some (.inr (7, [.ref r])) := fun {dy nb nu np nf B U P F} => by rw [hw_n (by omega)]; exact hk
  have hU1 : RU (iup U (u * 11 + 3) (tg np 7 P p 6)) := iupR hU (tgR hP)
  have hg1 : -1 ≤ tg nu 11 (iup U (u * 11 + 3) (tg np 7 P p 6)) u 4 ∧ tg nu 11 (iup U (u * 11 + 3) (tg np 7 P p 6)) u 4 < 1000 := by
    rw [tg_in (by omega), cell_ne (by omega)]
    exact hg
  unfold r5
  simp (disch := (first | exact tgR (by assumption) | assumption | omega)) only [w_X6_changeUnit_0, w_X6_changeUnit_6, w_X6_changeUnit_12, w_X6_changeUnit_17, w_X6_changeUnit_23, w_X6_changeUnit_32, w_X6_changeUnit_38, w_X6_changeUnit_41, w_X6_changeUnit_47, w_X6_changeUnit_54, w_X6_changeUnit_57, w_X6_changeUnit_62, w_X6_changeUnit_67, w_X6_changeUnit_74, w_X6_changeUnit_77, w_X6_changeUnit_82, w_X6_changeUnit_86, c_X6_changeUnit, iI_add, iI_sub, iI_mul, iI_neg, iI_lt, iI_le, iI_eq, ne_eq, bI_e0, bI_e1, nor_em, bI_n0, bI_z, bI_zr, Classical.not_not, eq_self, true_or, or_true, false_or, or_false, if_true, if_false, ite_not, ↓reduceIte, dle_t, dle_f, dlt_t, dlt_f, deq_t, deq_f, Int.reduceEq, Int.reduceLT, Int.reduceLE, Int.reduceAdd, Int.reduceNeg, Nat.reduceAdd, bck_i, bck_v, r_sizeB, r_sizeU, r_sizeP, r_sizeF, r_hasB, r_hasU, r_hasP, r_getB, r_getU, r_getP, r_getF, r_putB, r_putU, r_putP, r_putF, eob_at, egf0, egf1, egf2, egf3, egf4, hw_0, hw_1, hw_3, hw_5, hw_7, rco, tbl, il_m1, il_0, il_1, il_2, il_3, il_4, il_5, il_6, il_7, il_8, il_9, il_10, il_11, il_12, il_13, il_14, il_26, il_28, il_30, il_32, il_35, il_40, il_43, il_44, il_48, il_50, il_52, il_57, il_58, il_59, il_60, il_61, il_64, il_65, il_70, il_78, il_95, il_97, il_99, il_100, il_101, il_102, il_106, il_115, il_117, il_660, il_812, il_999, il_1000, il_1092, il_8736, il_9999, k_endUnit, k_bringChild, k_addArea, r_areaOf, uA_k, tg_in, rw_at, rw_ne, cell_ne, iup_rw, im_6, im_7, im_8, im_9, im_10, mk_6, mk_7, mk_8, mk_9, mk_10, mk_k, iup_mka, iup_ne, iup_eq, Int.zero_add, ho]
end Works
