set_option maxRecDepth 20000
section M33
variable {d : Nat} {h : XH} {G A : Int → Int} {pm : Int} {S : Int → Int} {iv : Int32} {tw ke er : Int} {I : Int → Int} {ty : Int} {ab pt rm : Int → Int} {en aa : Int} {iw : Int32} {kd n1 n2 n3 n4 : Int} {gd : Int32} {Q : XO → XH → Prop} {dy nb nu np nf : Int} {B U P F : Int → Int} {b f u p i j x y z t k : Int}
theorem m_raA (hI : ∀ k, 0 ≤ I k ∧ I k < 65536) (he : 0 ≤ en ∧ en ≤ 60) (hb6 : ∀ b, 0 ≤ tg nb 7 B b 0 ∧ tg nb 7 B b 0 ≤ 6) : ∀ (n : Nat) (ps rq : Int) (V : Int → Int) (G : Int → Int) (np : Int) (P : Int → Int) (m kd n1 n2 n3 n4 : Int), 0 ≤ ps → ps ≤ en → en < ps + n → 0 ≤ rq → RU V → MR G dy nb B nu U np P → WF dy nb B nu U np P nf F → (∀ u, 0 ≤ u → u < nu → 0 ≤ tg nu 11 U u 5 ∧ tg nu 11 U u 5 < np) → (rAk en I 1 n ps rq V).1 = -1 → (∀ i, rq ≤ i → i < (rAk en I 1 n ps rq V).2.2.1 → inRq (rAk en I 1 n ps rq V).2.2.1 (rAk en I 1 n ps rq V).2.2.2 i) → np + ((rAk en I 1 n ps rq V).2.2.1 - rq) ≤ 40 → ∃ (G' : Int → Int) (q kd' a b c e : Int), MR G' dy nb B nu U (apk dy (rAk en I 1 n ps rq V).2.2.2 ((rAk en I 1 n ps rq V).2.2.1 - rq).toNat rq (np, P)).1 (apk dy (rAk en I 1 n ps rq V).2.2.2 ((rAk en I 1 n ps rq V).2.2.1 - rq).toNat rq (np, P)).2 ∧ ∀ {d : Nat} {Q : XO → XH → Prop}, EvQ (d + 5) m_X8_readsAll 19 [.ref 109, .int (iI 1), .int (iI m), .int (iI 1)] [] (wm h G A pm S iv tw ke er I ty ab pt rm en ps (iI 0) kd n1 n2 n3 n4 (iI 1)) Q = Q (.inl (some (.int (iI (m + ((rAk en I 1 n ps rq V).2.2.1 - rq)))))) (wm h G' A pm S iv tw ke er I ty ab pt rm en q (iI 0) kd' a b c e (iI 1)) := by
  intro n
  induction n with
  | zero =>
    intro ps rq V G np P m kd n1 n2 n3 n4 h0 h1 h2
    exfalso
    omega
  | succ n ih =>
    intro ps rq V G np P m kd n1 n2 n3 n4 h0 h1 h2 hq hV R hw hup
    obtain ⟨⟨dy1, dy2⟩, ⟨b1, b2⟩, ⟨u1, u2⟩, ⟨p1, p2⟩, ⟨f1, f2⟩, hB, hU, hP, hF⟩ := id hw
    obtain ⟨kk, hkk⟩ : ∃ kk, kk = if (1 : Int) = 0 then 6 else kO (sgn en I ps) := ⟨_, rfl⟩
    obtain ⟨r, hr⟩ : ∃ r, r = rFk en I (rq + 1) rq (frm (fk kk)) ps 1 (tu (rq + 1) 5 (zr 5 rq V) rq 0 kk) := ⟨_, rfl⟩
    have hk' : kk = kO (sgn en I ps) := by rw [hkk, if_neg (by omega)]
    have hkb := kO_cases (sgn en I ps)
    rw [← hk'] at hkb
    rw [rAk_succ hkk hr]
    by_cases c0 : kk = -1
    · rw [if_pos c0]
      intro z
      exact absurd z (show ¬ ps = -1 by omega)
    · rw [if_neg c0]
      have hok := rFk_ok (ln := en) (ch := I) (rq := rq + 1) (row := rq) (frm (fk kk)) ps 1 (tu (rq + 1) 5 (zr 5 rq V) rq 0 kk) (frmR _) h0 h1 (tuR (zrR hV) (by omega))
      rw [← hr] at hok
      obtain ⟨o1, o2, o3, o4⟩ := hok
      have hlen := frm_len kk
      by_cases c1 : r.1 = 0
      · rw [if_pos c1]
        intro z
        exact absurd z (show ¬ r.2.1 = -1 by omega)
      · rw [if_neg c1]
        obtain ⟨w, a, b, c, e, hrd, k⟩ := m_rd (h := h) (G := G) (A := A) (pm := pm) (S := S) (iv := iv) (tw := tw) (ke := ke) (er := er) (I := I) (ty := ty) (ab := ab) (pt := pt) (rm := rm) (en := en) (aa := ps) (kd := kd) (n1 := n1) (n2 := n2) (n3 := n3) (n4 := n4) (gd := iI 1) (rq := rq) (V := V) hI he ⟨h0, h1⟩ hq hk' c0
        rw [← hr] at hrd k
        obtain ⟨hw0, ha, hb, hc, hee⟩ := hrd.2 c1
        rw [hw0] at k
        have s : ∀ {d : Nat} {Q : XO → XH → Prop}, EvQ (d + 5) m_X8_readsAll 19 [.ref 109, .int (iI 1), .int (iI m), .int (iI 1)] [] (wm h G A pm S iv tw ke er I ty ab pt rm en ps (iI 0) kd n1 n2 n3 n4 (iI 1)) Q = EvQ (d + 5) m_X8_readsAll 27 [.ref 109, .int (iI 1), .int (iI m), .int (iI 1)] [] (wm h G A pm S iv tw ke er I ty ab pt rm en r.2.1 (iI 0) kk a b c e (iI 1)) Q := by
          intro d Q
          rw [w_X8_readsAll_19]
          simp (disch := (first | exact tgR (by assumption) | assumption | omega | with_unfolding_all rfl)) only [w_X8_readsAll_0, w_X8_readsAll_5, w_X8_readsAll_10, w_X8_readsAll_15, w_X8_readsAll_23, w_X8_readsAll_32, w_X8_readsAll_35, w_X8_readsAll_39, w_X8_readsAll_42, w_X8_readsAll_46, w_X8_readsAll_50, w_X8_readsAll_54, w_X8_readsAll_58, w_X8_readsAll_62, w_X8_readsAll_65, w_X8_readsAll_68, w_X8_readsAll_72, w_X8_readsAll_73, w_X8_readsAll_76, w_X8_readsAll_80, w_X8_readsAll_86, w_X8_readsAll_90, w_X8_readsAll_94, w_X8_readsAll_98, w_X8_readsAll_102, w_X8_readsAll_105, w_X8_readsAll_108, w_X8_readsAll_112, w_X8_readsAll_113, w_X8_readsAll_118, w_X8_readsAll_121, w_X8_readsAll_129, w_X8_readsAll_135, w_X8_readsAll_139, w_X8_readsAll_143, w_X8_readsAll_144, w_X8_readsAll_148, w_X8_readsAll_151, w_X8_readsAll_156, w_X8_readsAll_159, w_X8_readsAll_163, w_X8_readsAll_167, w_X8_readsAll_170, w_X8_readsAll_174, w_X8_readsAll_175, w_X8_readsAll_178, c_X8_readsAll, iI_add, iI_sub, iI_mul, iI_neg, iI_lt, iI_le, iI_eq, ne_eq, bI_e0, bI_e1, nor_em, bI_n0, bI_z, bI_zr, Classical.not_not, eq_self, true_or, or_true, false_or, or_false, if_true, if_false, ite_not, ↓reduceIte, dle_t, dle_f, dlt_t, dlt_f, deq_t, deq_f, Int.reduceEq, Int.reduceLT, Int.reduceLE, Int.reduceAdd, Int.reduceNeg, Nat.reduceAdd, bck_i, bck_v, r_sizeB, r_sizeU, r_sizeP, r_sizeF, r_hasB, r_hasU, r_hasP, r_getB, r_getU, r_getP, r_getF, r_putB, r_putU, r_putP, r_putF, eob_at, egf0, egf1, egf2, egf3, egf4, hw_0, hw_1, hw_3, hw_5, hw_7, rco, tbl, xm_109, xm_110, xm_111, xm_112, xm_113, xm_114, xm_115, xm_116, pm_o, epm_2, epm_5, epm_6, epm_7, epm_9, epm_13, epm_14, epm_16, epm_17, epm_18, epm_19, epm_20, epm_4t, epm_4f, epm_4b, epm_15t, epm_15f, epm_15b, epm_21t, epm_21f, epm_21b, egf12, egf13, egf14, egf15, egf16, egf17, egf18, egf19, egf20, egf21, il_15, and_self, and_true, true_and, and_false, false_and, egf5, egf6, egf7, egf8, egf9, egf10, egf11, il_m1, il_0, il_1, il_2, il_3, il_4, il_5, il_6, il_7, il_8, il_9, il_10, il_11, il_12, il_13, il_14, il_26, il_28, il_30, il_32, il_35, il_40, il_43, il_44, il_48, il_50, il_52, il_57, il_58, il_59, il_60, il_61, il_64, il_65, il_70, il_78, il_95, il_97, il_99, il_100, il_101, il_102, il_106, il_115, il_117, il_660, il_812, il_999, il_1000, il_1092, il_8736, il_9999, k]
        have RT : ∀ j, -2147483648 ≤ tg (rq + 1) 5 r.2.2 rq j ∧ tg (rq + 1) 5 r.2.2 rq j < 2147483648 := fun j => tgR o1
        have e0 : tg (rq + 1) 5 r.2.2 rq 0 = kk := by
          rw [hr, rFk_col0 (by omega) _ _ _ _ (by omega), tg_same (by omega) (by omega)]
        have hin : ∀ (t : Int) (Y : Int → Int), rq < t → (∀ j, 0 ≤ j → j < 5 → tg t 5 Y rq j = tg (rq + 1) 5 r.2.2 rq j) → (inRq t Y rq ↔ aN kk a b c e) ∧ (Y (rq * 5 + 0) = kk ∧ Y (rq * 5 + 1) = a ∧ Y (rq * 5 + 2) = b ∧ Y (rq * 5 + 3) = c ∧ Y (rq * 5 + 4) = e) := by
          intro t Y ht hY
          refine ⟨?_, ?_⟩
          · unfold inRq
            rw [inR_aN]
            try dsimp only
            rw [hY 0 (by omega) (by omega), hY 1 (by omega) (by omega), hY 2 (by omega) (by omega), hY 3 (by omega) (by omega), hY 4 (by omega) (by omega), e0, ← ha, ← hb, ← hc, ← hee]
          · have y0 := hY 0 (by omega) (by omega)
            have y1 := hY 1 (by omega) (by omega)
            have y2 := hY 2 (by omega) (by omega)
            have y3 := hY 3 (by omega) (by omega)
            have y4 := hY 4 (by omega) (by omega)
            rw [tg_in (by omega)] at y0 y1 y2 y3 y4
            exact ⟨y0.trans e0, y1.trans ha.symm, y2.trans hb.symm, y3.trans hc.symm, y4.trans hee.symm⟩
        have hMR : np < 40 → MR (aPG G kk a b c e) dy nb B nu U (np + 1) (aP np dy P kk a b c e) := fun hn => MR_aP R ⟨b1, b2⟩ ⟨u1, u2⟩ ⟨p1, hn⟩ hb6 hup
        have s2 : ∀ {d : Nat} {Q : XO → XH → Prop}, np < 40 → aN kk a b c e → EvQ (d + 5) m_X8_readsAll 19 [.ref 109, .int (iI 1), .int (iI m), .int (iI 1)] [] (wm h G A pm S iv tw ke er I ty ab pt rm en ps (iI 0) kd n1 n2 n3 n4 (iI 1)) Q = EvQ (d + 5) m_X8_readsAll 121 [.ref 109, .int (iI 1), .int (iI (m + 1)), .int (iI 1)] [] (wm h (aPG G kk a b c e) A pm S iv tw ke er I ty ab pt rm en r.2.1 (iI 0) kk a b c e (iI 1)) Q := fun {d Q} hn hN =>
          s.trans (m_raD (d := d + 1) R hw hn (by omega) (by rw [ha]; exact RT 1) (by rw [hb]; exact RT 2) (by rw [hc]; exact RT 3) (by rw [hee]; exact RT 4) hN)
        have o5 : ps + 2 ≤ r.2.1 := by
          rcases o4 with z | z
          · exact absurd z c1
          · omega
        by_cases c2 : en ≤ r.2.1
        · have n59 : ¬ sgn en I r.2.1 = 59 := by
            unfold sgn
            rw [if_neg (by omega)]
            omega
          rw [if_pos c2]
          try dsimp only
          intro _ hi h40
          have z := hin (rq + 1) r.2.2 (by omega) (fun _ _ _ => rfl)
          have hN := z.1.1 (hi rq (by omega) (by omega))
          rw [show (rq + 1 - rq).toNat = 1 by omega, show rq + 1 - rq = 1 by omega]
          refine ⟨aPG G kk a b c e, r.2.1, kk, a, b, c, e, ?_, fun {d Q} => ?_⟩
          · show MR _ dy nb B nu U (np + 1) (aP np dy P (r.2.2 (rq * 5 + 0)) (r.2.2 (rq * 5 + 1)) (r.2.2 (rq * 5 + 2)) (r.2.2 (rq * 5 + 3)) (r.2.2 (rq * 5 + 4)))
            rw [z.2.1, z.2.2.1, z.2.2.2.1, z.2.2.2.2.1, z.2.2.2.2.2]
            exact hMR (by omega)
          · exact (s2 (by omega) hN).trans ((m_raN (d := d + 1) hI he (by omega) n59).trans (m_raT (by omega) he c2))
        · rw [if_neg c2]
          by_cases c3 : sgn en I r.2.1 = 59
          · rw [if_pos c3]
            intro y1 hi h40
            have hle := rAk_le (ln := en) (ch := I) (ap := 1) n (r.2.1 + 1) (rq + 1) r.2.2
            have z := hin _ (rAk en I 1 n (r.2.1 + 1) (rq + 1) r.2.2).2.2.2 (show rq < (rAk en I 1 n (r.2.1 + 1) (rq + 1) r.2.2).2.2.1 by omega) (fun j j0 j1 => by
                rw [rAk_row ⟨j0, j1⟩ (by omega) _ _ _ _ (by omega), tg_in (by omega), tg_in (by omega)])
            have hN := z.1.1 (hi rq (by omega) (by omega))
            have R4 := RT
            have hw' : WF dy nb B nu U (np + 1) (aP np dy P kk a b c e) nf F := ⟨⟨dy1, dy2⟩, ⟨b1, b2⟩, ⟨u1, u2⟩, ⟨by omega, by omega⟩, ⟨f1, f2⟩, hB, hU, aPR hP ⟨dy1, dy2⟩ (by omega) (by rw [ha]; exact RT 1) (by rw [hb]; exact RT 2) (by rw [hc]; exact RT 3) (by rw [hee]; exact RT 4), hF⟩
            obtain ⟨G', q', kd', a', b', c', e', i1, i2⟩ := ih (r.2.1 + 1) (rq + 1) r.2.2 (aPG G kk a b c e) (np + 1) (aP np dy P kk a b c e) (m + 1) kk a b c e (by omega) (by omega) (by omega) (by omega) o1 (hMR (by omega)) hw' (fun u u0 u1 => by
              have := hup u u0 u1
              omega) y1 (fun i i0 i1 => hi i (by omega) i1) (by omega)
            refine ⟨G', q', kd', a', b', c', e', ?_, fun {d Q} => ?_⟩
            · rw [show ((rAk en I 1 n (r.2.1 + 1) (rq + 1) r.2.2).2.2.1 - rq).toNat = ((rAk en I 1 n (r.2.1 + 1) (rq + 1) r.2.2).2.2.1 - (rq + 1)).toNat + 1 by omega]
              unfold apk
              try dsimp only
              rw [z.2.1, z.2.2.1, z.2.2.2.1, z.2.2.2.2.1, z.2.2.2.2.2]
              exact i1
            · have i3 := i2 (d := d) (Q := Q)
              rw [show m + 1 + ((rAk en I 1 n (r.2.1 + 1) (rq + 1) r.2.2).2.2.1 - (rq + 1)) = m + ((rAk en I 1 n (r.2.1 + 1) (rq + 1) r.2.2).2.2.1 - rq) by omega] at i3
              exact (s2 (by omega) hN).trans ((m_ra59 (d := d + 1) hI he (by omega) c3).trans i3)
          · rw [if_neg c3]
            intro z
            exact absurd z (show ¬ r.2.1 = -1 by omega)
end M33
