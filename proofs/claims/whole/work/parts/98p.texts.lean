/-! The steps of the law: the two that read texts. (made by src98p.py) -/
theorem rq_aN {rq : Int} {V : Int → Int} (h : ¬ am (fun i => ¬ inRq rq V i) 0 rq) : ∀ j, 0 ≤ j → j < 0 + (rq.toNat : Int) → aN (V (j * 5 + 0)) (V (j * 5 + 1)) (V (j * 5 + 2)) (V (j * 5 + 3)) (V (j * 5 + 4)) := by
  intro j a b
  have q : inRq rq V j := Classical.byContradiction fun z => h ⟨j, a, by omega, z⟩
  unfold inRq at q
  rw [inR_aN, tg_in (by omega), tg_in (by omega), tg_in (by omega), tg_in (by omega), tg_in (by omega)] at q
  exact q
section Sp
variable {H : XH} {i x1 x2 x3 x4 x5 z : Int} {l6 l7 : Value}
theorem sp_applyAll (Lr : LRx H) (hL : 0 ≤ i ∧ i + 6 ≤ (H.2.2.2.2.1 : Int) ∧ H.2.2.2.2.1 < 1000000) : ∃ (H2 : XH) (m6 m7 : Value), LRx H2 ∧ Fn H H2 ∧ ∀ Q, EvQ 13 m_L_law 759 [.ref 2000000, .ref 0, .ref 109, .ref 117, .ref 118, .int (iI i), l6, l7, xjunk] [] H Q = EvQ 13 m_L_law 28 [.ref 2000000, .ref 0, .ref 109, .ref 117, .ref 118, .int (iI (i + 6)), m6, m7, xjunk] [] H2 Q := by
  obtain ⟨dy, nb, B, nu, U, np, P, nf, F, nx, kp, pa, zr0, zs, sv, lr, le, ln, ps, ch, rq, V, G, A, S, tw, ke, ab, pt, rm, en, aa, iw, kd, n1, n2, n3, n4, gd, g, g2, C, M, h1, h2, L⟩ := Lr
  obtain ⟨I, R, hr, hs, hke, hle, hln, hch, hrq, hV⟩ := id L
  have W := I.1
  have W1 := CW_W1 C
  have hk := hr.2.1
  have hG := IV_GB I
  obtain ⟨ans, ps', rq', V', hA⟩ : ∃ a b c d, rAk ln ch 1 61 0 0 V = (a, b, c, d) := ⟨_, _, _, _, rfl⟩
  obtain ⟨p1, p2, pC, pa1, pr1, pV⟩ := b_all_pre (x := 1) C hch hln hrq hV (by omega) hA
  have e0 : (rAk ln ch 1 61 0 0 V).1 = ans := by rw [hA]
  have e2 : (rAk ln ch 1 61 0 0 V).2.2.1 = rq' := by rw [hA]
  have e3 : (rAk ln ch 1 61 0 0 V).2.2.2 = V' := by rw [hA]
  by_cases c : ans = -1
  · subst c
    by_cases c1 : am (fun i => ¬ inRq rq' V' i) 0 rq'
    · have bb := fun (Q : XO → XH → Prop) => b_applyAll2 (d := 5) (Q := Q) C hch hln hrq hV hA c1
      simp only [W1, CW_W1 pC] at bb
      obtain ⟨aa', kd', a, b, c', e, gd', mm⟩ := m_applyAll12 (h := hexc (wp (wq H rq' V') 0 ps')) (G := G) (A := A) (pm := kp) (S := S) (iv := iI sv) (tw := tw) (ke := ke) (er := le) (I := ch) (ty := ln) (ab := ab) (pt := pt) (rm := rm) (en := en) (aa := aa) (iw := iw) (kd := kd) (n1 := n1) (n2 := n2) (n3 := n3) (n4 := n4) (gd := gd) R W hch hln hV e0 (by rw [e2]; omega) (Or.inl (by rw [e2, e3]; exact c1))
      rw [e2, e3] at mm
      exact fx_applyAll_0 C M h1 h2 hL bb pC HF_wpq (fun (Q : XO → XH → Prop) => (mm (Q := Q)).trans (zP_t c1)) (LP_rq (LP_ln L (by omega)) (by omega) pV)
    · by_cases c2 : 40 < np + rq'
      · have bb := fun (Q : XO → XH → Prop) => b_applyAll3 (d := 5) (Q := Q) C W hch hln hrq hV hA c1 c2
        simp only [W1, CW_W1 pC] at bb
        obtain ⟨aa', kd', a, b, c', e, gd', mm⟩ := m_applyAll12 (h := hexc (wp (wq H rq' V') 0 ps')) (G := G) (A := A) (pm := kp) (S := S) (iv := iI sv) (tw := tw) (ke := ke) (er := le) (I := ch) (ty := ln) (ab := ab) (pt := pt) (rm := rm) (en := en) (aa := aa) (iw := iw) (kd := kd) (n1 := n1) (n2 := n2) (n3 := n3) (n4 := n4) (gd := gd) R W hch hln hV e0 (by rw [e2]; omega) (Or.inr (by rw [e2]; exact c2))
        rw [e2, e3] at mm
        exact fx_applyAll_1 C M h1 h2 hL bb pC HF_wpq (fun (Q : XO → XH → Prop) => (mm (Q := Q)).trans (zP_f c1)) (LP_rq (LP_ln L (by omega)) (by omega) pV)
      · obtain ⟨K, kc, kC, kF⟩ := b_applyAll C W hr.1 hk hch hln hrq hV hA c1 (by omega)
        have bb := fun (Q : XO → XH → Prop) => kc (d := 5) (Q := Q)
        simp only [W1] at bb
        obtain ⟨G', aa', kd', a, b, c', e, R', mm⟩ := m_applyAll (h := hset K 117 (ola (vp_updL g (iI 0).toNatClampNeg (iI rq').toInt64))) (G := G) (A := A) (pm := kp) (S := S) (iv := iI sv) (tw := tw) (ke := ke) (er := le) (I := ch) (ty := ln) (ab := ab) (pt := pt) (rm := rm) (en := en) (aa := aa) (iw := iw) (kd := kd) (n1 := n1) (n2 := n2) (n3 := n3) (n4 := n4) (gd := gd) R W hch hln hV hG.1 hk (IV_hup I) e0 (by rw [e2, e3]; exact c1) (by rw [e2]; omega)
        rw [e2, e3] at R'
        rw [e2] at mm
        exact fv_applyAll C M h1 h2 hL bb kC kF rfl (fun (Q : XO → XH → Prop) => (mm (Q := Q)).trans (by rw [pm_ring hk])) (LP_rq (LP_ln (LP_keep L (IV_apk rq'.toNat 0 np P (by omega) (rq_aN c1) I) R') (by omega)) (by omega) pV)
  · have C2 := CW_bc (sv' := sv) (lr' := lr) (le' := ans) pC
    have bb := fun (Q : XO → XH → Prop) => b_applyAll1 (d := 5) (Q := Q) C hch hln hrq hV hA c
    simp only [W1, CW_W1 C2] at bb
    obtain ⟨kd', a, b, c', e, gd', mm⟩ := m_applyAllE (h := hexc (hset (wp (wq H rq' V') 0 ps') 0 (bco sv lr ans))) (G := G) (A := A) (pm := kp) (S := S) (iv := iI sv) (tw := tw) (ke := ke) (er := le) (I := ch) (ty := ln) (ab := ab) (pt := pt) (rm := rm) (en := en) (aa := aa) (iw := iw) (kd := kd) (n1 := n1) (n2 := n2) (n3 := n3) (n4 := n4) (gd := gd) hch hln hV (by rw [e0]; exact c)
    rw [e0] at mm
    exact fx_applyAll_0 C M h1 h2 hL bb C2 (HF_trans HF_wpq (HF_set (by omega))) (fun (Q : XO → XH → Prop) => mm (Q := Q)) (LP_le (LP_rq (LP_ln L (by omega)) (by omega) pV) pa1)
theorem sp_check (Lr : LRx H) (hL : 0 ≤ i ∧ i + 6 ≤ (H.2.2.2.2.1 : Int) ∧ H.2.2.2.2.1 < 1000000) (e1 : H.2.2.2.2.2 (iI (i + 1)).toNatClampNeg = iI x1) (r1 : -2147483648 ≤ x1 ∧ x1 < 2147483648) : ∃ (H2 : XH) (m6 m7 : Value), LRx H2 ∧ Fn H H2 ∧ ∀ Q, EvQ 13 m_L_law 1557 [.ref 2000000, .ref 0, .ref 109, .ref 117, .ref 118, .int (iI i), l6, l7, xjunk] [] H Q = EvQ 13 m_L_law 28 [.ref 2000000, .ref 0, .ref 109, .ref 117, .ref 118, .int (iI (i + 6)), m6, m7, xjunk] [] H2 Q := by
  obtain ⟨dy, nb, B, nu, U, np, P, nf, F, nx, kp, pa, zr0, zs, sv, lr, le, ln, ps, ch, rq, V, G, A, S, tw, ke, ab, pt, rm, en, aa, iw, kd, n1, n2, n3, n4, gd, g, g2, C, M, h1, h2, L⟩ := Lr
  obtain ⟨I, R, hr, hs, hke, hle, hln, hch, hrq, hV⟩ := id L
  have W := I.1
  have W1 := CW_W1 C
  have hG := IV_GB I
  have hA' := IV_hA I
  have hT : ∀ b z, -100000000 ≤ tal nu U x1 b (-1) (-1) z ∧ tal nu U x1 b (-1) (-1) z ≤ 100000000 := fun b z => by
    have := IV_tal (t := x1) (b := b) (f := -1) (z := z) I
    omega
  by_cases cd : 0 ≤ x1 ∧ x1 ≤ dy
  · obtain ⟨ans, ps', rq', V', hA⟩ : ∃ a b c d, rAk ln ch 0 61 0 0 V = (a, b, c, d) := ⟨_, _, _, _, rfl⟩
    obtain ⟨p1, p2, pC, pa1, pr1, pV⟩ := b_all_pre (x := 0) C hch hln hrq hV (by omega) hA
    have e0 : (rAk ln ch 0 61 0 0 V).1 = ans := by rw [hA]
    have e2 : (rAk ln ch 0 61 0 0 V).2.2.1 = rq' := by rw [hA]
    have e3 : (rAk ln ch 0 61 0 0 V).2.2.2 = V' := by rw [hA]
    by_cases c : ans = -1
    · subst c
      have bb := fun (Q : XO → XH → Prop) => b_check (d := 5) (Q := Q) C W hch hln hrq hV cd hA (fun b => hT b 1)
      simp only [W1, CW_W1 pC] at bb
      obtain ⟨q, w, out, th', er', m1, _, mm⟩ := m_check (h := hset (wp (wq H rq' V') 0 ps') 117 (ola (vp_updL g (iI 0).toNatClampNeg (iI (fsn (fun i => ¬ told nb nu U rq' V' x1 i) rq'.toNat 0)).toInt64))) (G := G) (A := A) (pm := kp) (S := S) (iv := iI sv) (tw := tw) (ke := ke) (er := le) (I := ch) (ty := ln) (ab := ab) (pt := pt) (rm := rm) (en := en) (aa := aa) (iw := iw) (kd := kd) (n1 := n1) (n2 := n2) (n3 := n3) (n4 := n4) (gd := gd) R W hch hln hV hA' hT cd
      obtain ⟨rfl, rfl, rfl, ho⟩ := m1 e0
      rw [e2, e3] at ho
      subst ho
      exact fv_check C M h1 h2 hL e1 bb pC HF_wpq rfl (fun (Q : XO → XH → Prop) => mm (Q := Q)) (LP_rq (LP_ln L (by omega)) (by omega) pV)
    · have C2 := CW_bc (sv' := sv) (lr' := lr) (le' := ans) pC
      have bb := fun (Q : XO → XH → Prop) => b_check2 (d := 5) (Q := Q) C W hch hln hrq hV cd hA c
      simp only [W1, CW_W1 C2] at bb
      obtain ⟨q, w, out, th', er', _, m2, mm⟩ := m_check (h := hexc (hset (wp (wq H rq' V') 0 ps') 0 (bco sv lr ans))) (G := G) (A := A) (pm := kp) (S := S) (iv := iI sv) (tw := tw) (ke := ke) (er := le) (I := ch) (ty := ln) (ab := ab) (pt := pt) (rm := rm) (en := en) (aa := aa) (iw := iw) (kd := kd) (n1 := n1) (n2 := n2) (n3 := n3) (n4 := n4) (gd := gd) R W hch hln hV hA' hT cd
      obtain ⟨rfl, he, rfl⟩ := m2 (by rw [e0]; exact c)
      rw [e0] at he
      subst he
      exact fx_check_0 C M h1 h2 hL e1 bb C2 (HF_trans HF_wpq (HF_set (by omega))) (fun (Q : XO → XH → Prop) => mm (Q := Q)) (LP_le (LP_rq (LP_ln L (by omega)) (by omega) pV) pa1)
  · have C2 := CW_in (ln' := 0) (ps' := ps) C
    have bb := fun (Q : XO → XH → Prop) => b_check1 (d := 5) (Q := Q) C W r1 cd
    simp only [W1] at bb
    have W2 : wr (wp H 0 ps) 1 dy nb B nu U np P nf F = wp H 0 ps := CW_W1 C2
    simp only [W2] at bb
    exact fx_check_0 C M h1 h2 hL e1 bb C2 (HF_set (by omega)) (fun (Q : XO → XH → Prop) => m_check1 R W r1 cd) (LP_ln L (by omega))
end Sp
