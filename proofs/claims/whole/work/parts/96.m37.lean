set_option maxRecDepth 20000
section M37
variable {d : Nat} {h : XH} {G A : Int → Int} {pm : Int} {S : Int → Int} {iv : Int32} {tw ke er : Int} {I : Int → Int} {ty : Int} {ab pt rm : Int → Int} {en aa : Int} {iw : Int32} {kd n1 n2 n3 n4 : Int} {gd : Int32} {Q : XO → XH → Prop} {dy nb nu np nf : Int} {B U P F : Int → Int} {b f u p i j x y z t k : Int}
theorem m_ck (hI : ∀ k, 0 ≤ I k ∧ I k < 65536) (he : 0 ≤ en ∧ en ≤ 60) (R : MR G dy nb B nu U np P) (hw : WF dy nb B nu U np P nf F) (hA : ∀ u, 0 ≤ u → u < nu → (∀ k, 0 ≤ k → k < 5 → 0 ≤ tg nu 11 U u (6 + k)) ∧ 0 < uS nu U u ∧ uS nu U u ≤ 200000) (hT : ∀ b z, -100000000 ≤ tal nu U t b (-1) (-1) z ∧ tal nu U t b (-1) (-1) z ≤ 100000000) (ht : -2147483648 ≤ t ∧ t < 2147483648) : ∀ (n : Nat) (ps rq : Int) (V : Int → Int) (x : Int), 0 ≤ ps → ps ≤ en → en < ps + n → 0 ≤ rq → rq ≤ ps → RU V → -1 ≤ x → x ≤ 100 → ∃ (q w out th' er' : Int), ((rAk en I 0 n ps rq V).1 = -1 → w = 0 ∧ th' = tw ∧ er' = er ∧ out = zI (x = -1) (fsn (fun i => ¬ told nb nu U (rAk en I 0 n ps rq V).2.2.1 (rAk en I 0 n ps rq V).2.2.2 t i) ((rAk en I 0 n ps rq V).2.2.1 - rq).toNat rq) x) ∧ (¬ (rAk en I 0 n ps rq V).1 = -1 → th' = 1 ∧ er' = (rAk en I 0 n ps rq V).1 ∧ out = 0) ∧ ∀ {d : Nat} {Q : XO → XH → Prop} {l5 l6 l7 l8 : Value}, EvQ (d + 4) m_X8_check 55 [.ref 109, .int (iI t), .int (iI x), .int (iI rq), .int (iI 1), l5, l6, l7, l8] [] (wm h G A pm S iv tw ke er I ty ab pt rm en ps (iI 0) kd n1 n2 n3 n4 gd) Q = Q (.inl (some (.int (iI out)))) (wm h G A pm S iv th' ke er' I ty ab pt rm en q (iI w) kd n1 n2 n3 n4 gd) := by
  intro n
  induction n with
  | zero =>
    intro ps rq V x h0 h1 h2
    exfalso
    omega
  | succ n ih =>
    intro ps rq V x h0 h1 h2 hq hq2 hV hx1 hx2
    obtain ⟨r, hr⟩ : ∃ r, r = rFk en I (rq + 1) rq (frm (fk 6)) ps 1 (tu (rq + 1) 5 (zr 5 rq V) rq 0 6) := ⟨_, rfl⟩
    have hok := rFk_ok (ln := en) (ch := I) (rq := rq + 1) (row := rq) (frm (fk 6)) ps 1 (tu (rq + 1) 5 (zr 5 rq V) rq 0 6) (frmR _) h0 h1 (tuR (zrR hV) (by omega))
    rw [← hr] at hok
    obtain ⟨o1, o2, o3, o4⟩ := hok
    have hlen := frm_len 6
    have hs6 : (6 : Int) = if (0 : Int) = 0 then 6 else kO (sgn en I ps) := by rw [if_pos rfl]
    obtain ⟨w, b, c, e, hb, hrd, k⟩ := m_ckR (h := h) (G := G) (A := A) (pm := pm) (S := S) (iv := iv) (tw := tw) (ke := ke) (er := er) (I := I) (ty := ty) (ab := ab) (pt := pt) (rm := rm) (en := en) (aa := ps) (kd := kd) (n1 := n1) (n2 := n2) (n3 := n3) (n4 := n4) (gd := gd) (rq := rq) (V := V) hI he ⟨h0, h1⟩ hq
    rw [← hr] at hrd k
    rw [rAk_succ hs6 hr, if_neg (show ¬ (6 : Int) = -1 by omega)]
    have s : ∀ {d : Nat} {Q : XO → XH → Prop} {l5 l6 l7 l8 : Value}, EvQ (d + 4) m_X8_check 55 [.ref 109, .int (iI t), .int (iI x), .int (iI rq), .int (iI 1), l5, l6, l7, l8] [] (wm h G A pm S iv tw ke er I ty ab pt rm en ps (iI 0) kd n1 n2 n3 n4 gd) Q = EvQ (d + 4) m_X8_check 88 [.ref 109, .int (iI t), .int (iI x), .int (iI rq), .int (iI 1), .int (iI b), .int (iI c), l7, l8] [.int (iI e)] (wm h G A pm S iv tw ke er I ty ab pt rm en r.2.1 (iI w) kd n1 n2 n3 n4 gd) Q := by
      intro d Q l5 l6 l7 l8
      rw [w_X8_check_55]
      simp (disch := (first | exact tgR (by assumption) | assumption | omega | with_unfolding_all rfl)) only [w_X8_check_0, w_X8_check_5, w_X8_check_10, w_X8_check_13, w_X8_check_18, w_X8_check_24, w_X8_check_26, w_X8_check_29, w_X8_check_32, w_X8_check_37, w_X8_check_38, w_X8_check_43, w_X8_check_48, w_X8_check_64, w_X8_check_72, w_X8_check_76, w_X8_check_84, w_X8_check_96, w_X8_check_99, w_X8_check_108, w_X8_check_113, w_X8_check_122, w_X8_check_127, w_X8_check_131, w_X8_check_132, w_X8_check_139, w_X8_check_144, w_X8_check_148, w_X8_check_149, w_X8_check_161, w_X8_check_168, w_X8_check_173, w_X8_check_177, w_X8_check_178, w_X8_check_182, w_X8_check_185, w_X8_check_189, w_X8_check_192, w_X8_check_196, w_X8_check_200, w_X8_check_203, w_X8_check_208, w_X8_check_211, w_X8_check_216, w_X8_check_217, c_X8_check, iI_add, iI_sub, iI_mul, iI_neg, iI_lt, iI_le, iI_eq, ne_eq, bI_e0, bI_e1, nor_em, bI_n0, bI_z, bI_zr, Classical.not_not, eq_self, true_or, or_true, false_or, or_false, if_true, if_false, ite_not, ↓reduceIte, dle_t, dle_f, dlt_t, dlt_f, deq_t, deq_f, Int.reduceEq, Int.reduceLT, Int.reduceLE, Int.reduceAdd, Int.reduceNeg, Nat.reduceAdd, bck_i, bck_v, r_sizeB, r_sizeU, r_sizeP, r_sizeF, r_hasB, r_hasU, r_hasP, r_getB, r_getU, r_getP, r_getF, r_putB, r_putU, r_putP, r_putF, eob_at, egf0, egf1, egf2, egf3, egf4, hw_0, hw_1, hw_3, hw_5, hw_7, rco, tbl, xm_109, xm_110, xm_111, xm_112, xm_113, xm_114, xm_115, xm_116, pm_o, epm_2, epm_5, epm_6, epm_7, epm_9, epm_13, epm_14, epm_16, epm_17, epm_18, epm_19, epm_20, epm_4t, epm_4f, epm_4b, epm_15t, epm_15f, epm_15b, epm_21t, epm_21f, epm_21b, egf12, egf13, egf14, egf15, egf16, egf17, egf18, egf19, egf20, egf21, il_15, and_self, and_true, true_and, and_false, false_and, egf5, egf6, egf7, egf8, egf9, egf10, egf11, il_m1, il_0, il_1, il_2, il_3, il_4, il_5, il_6, il_7, il_8, il_9, il_10, il_11, il_12, il_13, il_14, il_26, il_28, il_30, il_32, il_35, il_40, il_43, il_44, il_48, il_50, il_52, il_57, il_58, il_59, il_60, il_61, il_64, il_65, il_70, il_78, il_95, il_97, il_99, il_100, il_101, il_102, il_106, il_115, il_117, il_660, il_812, il_999, il_1000, il_1092, il_8736, il_9999, k]
    obtain ⟨x', hx'⟩ : ∃ x', x' = zI (x = -1 ∧ ¬ ((0 ≤ b ∧ b < nb) ∧ tal nu U t b (-1) (-1) 0 = c ∧ tal nu U t b (-1) (-1) 1 = e)) rq x := ⟨_, rfl⟩
    have J : ∀ (d : Nat) (aa : Int) (iw : Int32) (l7 l8 : Value), _ := fun d aa iw l7 l8 => m_ckJ (d := d) (h := h) (A := A) (pm := pm) (S := S) (iv := iv) (tw := tw) (ke := ke) (er := er) (I := I) (ty := ty) (ab := ab) (pt := pt) (rm := rm) (en := en) (aa := aa) (iw := iw) (kd := kd) (n1 := n1) (n2 := n2) (n3 := n3) (n4 := n4) (gd := gd) (t := t) (x := x) (m := rq) (b := b) (k := c) (y := e) (l7 := l7) (l8 := l8) R hw hA hT ht ⟨hx1, hx2⟩ hb.1 hb.2.1 hb.2.2
    rw [← hx'] at J
    have hxb : -1 ≤ x' ∧ x' ≤ 100 := by
      rw [hx']
      by_cases z : x = -1 ∧ ¬ ((0 ≤ b ∧ b < nb) ∧ tal nu U t b (-1) (-1) 0 = c ∧ tal nu U t b (-1) (-1) 1 = e)
      · rw [zI_t z]; omega
      · rw [zI_f z]; omega
    by_cases c1 : r.1 = 0
    · rw [if_pos c1]
      refine ⟨r.2.1, 1, 0, 1, r.2.1, ?_, ?_, fun {d Q l5 l6 l7 l8} => ?_⟩
      · intro z
        exact absurd z (show ¬ r.2.1 = -1 by omega)
      · exact fun _ => ⟨rfl, rfl, rfl⟩
      · obtain ⟨v, hv, j⟩ := J d r.2.1 (iI 1) l7 l8
        have s := s (d := d) (Q := Q) (l5 := l5) (l6 := l6) (l7 := l7) (l8 := l8)
        rw [hrd.1 c1] at s
        exact s.trans (j.trans (m_ckW hv))
    · rw [if_neg c1]
      obtain ⟨hw0, ha, hbb, hc⟩ := hrd.2 c1
      rw [hw0] at s
      have o5 : ps + 2 ≤ r.2.1 := by
        rcases o4 with z | z
        · exact absurd z c1
        · omega
      have hin : ∀ (T : Int) (Y : Int → Int), rq < T → (∀ j, 0 ≤ j → j < 5 → tg T 5 Y rq j = tg (rq + 1) 5 r.2.2 rq j) → (told nb nu U T Y t rq ↔ ((0 ≤ b ∧ b < nb) ∧ tal nu U t b (-1) (-1) 0 = c ∧ tal nu U t b (-1) (-1) 1 = e)) := by
        intro T Y hT hY
        unfold told
        rw [hY 1 (by omega) (by omega), hY 2 (by omega) (by omega), hY 3 (by omega) (by omega), ← ha, ← hbb, ← hc]
      have hfs : ∀ (T : Int) (Y : Int → Int) (k : Nat), (told nb nu U T Y t rq ↔ ((0 ≤ b ∧ b < nb) ∧ tal nu U t b (-1) (-1) 0 = c ∧ tal nu U t b (-1) (-1) 1 = e)) → zI (x' = -1) (fsn (fun i => ¬ told nb nu U T Y t i) k (rq + 1)) x' = zI (x = -1) (fsn (fun i => ¬ told nb nu U T Y t i) (k + 1) rq) x := by
        intro T Y k z
        have es : fsn (fun i => ¬ told nb nu U T Y t i) (k + 1) rq = zI (¬ told nb nu U T Y t rq) rq (fsn (fun i => ¬ told nb nu U T Y t i) k (rq + 1)) := rfl
        rw [es]
        by_cases y : x = -1
        · by_cases y2 : (0 ≤ b ∧ b < nb) ∧ tal nu U t b (-1) (-1) 0 = c ∧ tal nu U t b (-1) (-1) 1 = e
          · have e' : x' = x := by rw [hx', zI_f (fun q => q.2 y2)]
            rw [e', zI_t y, zI_t y, zI_f (fun q => q (z.2 y2))]
          · have e' : x' = rq := by rw [hx', zI_t ⟨y, y2⟩]
            rw [e', zI_f (show ¬ rq = -1 by omega), zI_t y, zI_t (fun q => y2 (z.1 q))]
        · have e' : x' = x := by rw [hx', zI_f (fun q => y q.1)]
          rw [e', zI_f y, zI_f y]
      by_cases c2 : en ≤ r.2.1
      · have n59 : ¬ sgn en I r.2.1 = 59 := by
          unfold sgn
          rw [if_neg (by omega)]
          omega
        rw [if_pos c2]
        refine ⟨r.2.1, 0, x', tw, er, ?_, ?_, fun {d Q l5 l6 l7 l8} => ?_⟩
        · try dsimp only
          intro _
          refine ⟨rfl, rfl, rfl, ?_⟩
          have z := hfs (rq + 1) r.2.2 0 (hin (rq + 1) r.2.2 (by omega) (fun _ _ _ => rfl))
          rw [show (rq + 1 - rq).toNat = 0 + 1 by omega, ← z]
          unfold fsn
          by_cases y : x' = -1
          · rw [zI_t y]; exact y
          · rw [zI_f y]
        · exact fun z => absurd rfl z
        · obtain ⟨v, hv, j⟩ := J d r.2.1 (iI 0) l7 l8
          exact s.trans (j.trans (m_ckN hI he (by omega) n59 c2 hv))
      · rw [if_neg c2]
        by_cases c3 : sgn en I r.2.1 = 59
        · rw [if_pos c3]
          have hle := rAk_le (ln := en) (ch := I) (ap := 0) n (r.2.1 + 1) (rq + 1) r.2.2
          obtain ⟨q', w', out', th', er', i1, i2, i3⟩ := ih (r.2.1 + 1) (rq + 1) r.2.2 x' (by omega) (by omega) (by omega) (by omega) (by omega) o1 hxb.1 hxb.2
          refine ⟨q', w', out', th', er', ?_, i2, fun {d Q l5 l6 l7 l8} => ?_⟩
          · intro y1
            obtain ⟨j1, j2, j3, j4⟩ := i1 y1
            refine ⟨j1, j2, j3, ?_⟩
            rw [j4, show ((rAk en I 0 n (r.2.1 + 1) (rq + 1) r.2.2).2.2.1 - rq).toNat = ((rAk en I 0 n (r.2.1 + 1) (rq + 1) r.2.2).2.2.1 - (rq + 1)).toNat + 1 by omega]
            exact hfs _ _ _ (hin _ _ (by omega) (fun j j0 j1 => by
                rw [rAk_row ⟨j0, j1⟩ (by omega) _ _ _ _ (by omega), tg_in (by omega), tg_in (by omega)]))
          · obtain ⟨v, hv, j⟩ := J d r.2.1 (iI 0) l7 l8
            exact s.trans (j.trans ((m_ck59 hI he (by omega) c3 hv).trans i3))
        · rw [if_neg c3]
          refine ⟨r.2.1, 0, 0, 1, r.2.1, ?_, ?_, fun {d Q l5 l6 l7 l8} => ?_⟩
          · intro z
            exact absurd z (show ¬ r.2.1 = -1 by omega)
          · exact fun _ => ⟨rfl, rfl, rfl⟩
          · obtain ⟨v, hv, j⟩ := J d r.2.1 (iI 0) l7 l8
            exact s.trans (j.trans (m_ckE hI he (by omega) c3 (by omega) hv))
end M37
