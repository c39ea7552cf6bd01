/-! The steps of the law: what changes. (made by src98o.py) -/
theorem sPr_1 {np : Int} {P : Int → Int} {p s : Int} (h : ¬ (0 ≤ p ∧ p < np)) : sPr np P p s = 1 := by unfold sPr; rw [if_neg h]
theorem sPr_2 {np : Int} {P : Int → Int} {p s : Int} (h : 0 ≤ p ∧ p < np) (h2 : ¬ tg np 7 P p 5 = s) : sPr np P p s = 2 := by unfold sPr; rw [if_pos h, if_neg h2]
section So
variable {H : XH} {i x1 x2 x3 x4 x5 z : Int} {l6 l7 : Value}
theorem sp_addBuilding (Lr : LRx H) (hL : 0 ≤ i ∧ i + 6 ≤ (H.2.2.2.2.1 : Int) ∧ H.2.2.2.2.1 < 1000000) (e1 : H.2.2.2.2.2 (iI (i + 1)).toNatClampNeg = iI x1) (r1 : -2147483648 ≤ x1 ∧ x1 < 2147483648) : ∃ (H2 : XH) (m6 m7 : Value), LRx H2 ∧ Fn H H2 ∧ ∀ Q, EvQ 13 m_L_law 172 [.ref 2000000, .ref 0, .ref 109, .ref 117, .ref 118, .int (iI i), l6, l7, xjunk] [] H Q = EvQ 13 m_L_law 28 [.ref 2000000, .ref 0, .ref 109, .ref 117, .ref 118, .int (iI (i + 6)), m6, m7, xjunk] [] H2 Q := by
  obtain ⟨dy, nb, B, nu, U, np, P, nf, F, nx, kp, pa, zr0, zs, sv, lr, le, ln, ps, ch, rq, V, G, A, S, tw, ke, ab, pt, rm, en, aa, iw, kd, n1, n2, n3, n4, gd, g, g2, C, M, h1, h2, L⟩ := Lr
  obtain ⟨I, R, hr, hs, hke, hle, hln, hch, hrq, hV⟩ := id L
  have W := I.1
  have W1 := CW_W1 C
  have hk := hr.2.1
  by_cases c : 10 ≤ x1 ∧ x1 ≤ 999
  · by_cases c4 : nb = 4
    · have bb := fun (Q : XO → XH → Prop) => b_addBuilding2 (d := 8) (Q := Q) C W c c4
      simp only [W1] at bb
      exact fx_addBuilding_1 C M h1 h2 hL e1 bb C HF_refl (fun (Q : XO → XH → Prop) => m_addBuilding2 R W c c4) L
    · have c5 : nb < 4 := by have := W.2.1; omega
      obtain ⟨K, kc, kC, kF⟩ := b_addBuilding C W hr.1 hk c c5
      have bb := fun (Q : XO → XH → Prop) => kc (d := 8) (Q := Q)
      simp only [W1] at bb
      exact fv_addBuilding C M h1 h2 hL e1 bb kC kF rfl (fun (Q : XO → XH → Prop) => (m_addBuilding R W hk c c5).trans (by rw [pm_ring hk])) (LP_keep L (IV_nB I c5 c) (MR_nB R (IV_GB I).1 ⟨W.2.1.1, c5⟩ W.2.2.1 W.2.2.2.1))
  · have bb := fun (Q : XO → XH → Prop) => b_addBuilding1 (d := 8) (Q := Q) C W r1 c
    simp only [W1] at bb
    exact fx_addBuilding_0 C M h1 h2 hL e1 bb C HF_refl (fun (Q : XO → XH → Prop) => m_addBuilding1 r1 c) L
theorem sp_apply (Lr : LRx H) (hL : 0 ≤ i ∧ i + 6 ≤ (H.2.2.2.2.1 : Int) ∧ H.2.2.2.2.1 < 1000000) (e1 : H.2.2.2.2.2 (iI (i + 1)).toNatClampNeg = iI x1) (r1 : -2147483648 ≤ x1 ∧ x1 < 2147483648) (e2 : H.2.2.2.2.2 (iI (i + 2)).toNatClampNeg = iI x2) (r2 : -2147483648 ≤ x2 ∧ x2 < 2147483648) (e3 : H.2.2.2.2.2 (iI (i + 3)).toNatClampNeg = iI x3) (r3 : -2147483648 ≤ x3 ∧ x3 < 2147483648) (e4 : H.2.2.2.2.2 (iI (i + 4)).toNatClampNeg = iI x4) (r4 : -2147483648 ≤ x4 ∧ x4 < 2147483648) (e5 : H.2.2.2.2.2 (iI (i + 5)).toNatClampNeg = iI x5) (r5 : -2147483648 ≤ x5 ∧ x5 < 2147483648) : ∃ (H2 : XH) (m6 m7 : Value), LRx H2 ∧ Fn H H2 ∧ ∀ Q, EvQ 13 m_L_law 655 [.ref 2000000, .ref 0, .ref 109, .ref 117, .ref 118, .int (iI i), l6, l7, xjunk] [] H Q = EvQ 13 m_L_law 28 [.ref 2000000, .ref 0, .ref 109, .ref 117, .ref 118, .int (iI (i + 6)), m6, m7, xjunk] [] H2 Q := by
  obtain ⟨dy, nb, B, nu, U, np, P, nf, F, nx, kp, pa, zr0, zs, sv, lr, le, ln, ps, ch, rq, V, G, A, S, tw, ke, ab, pt, rm, en, aa, iw, kd, n1, n2, n3, n4, gd, g, g2, C, M, h1, h2, L⟩ := Lr
  obtain ⟨I, R, hr, hs, hke, hle, hln, hch, hrq, hV⟩ := id L
  have W := I.1
  have W1 := CW_W1 C
  have hk := hr.2.1
  have hV5 := V5R (V := V) (k := x1) (one := x2) (two := x3) (three := x4) (four := x5) hV r1 r2 r3 r4 r5
  have W2 := CW_W1 (CW_wq (rq' := 1) (V' := V5 V x1 x2 x3 x4 x5) C)
  have Fq : HF H (wq H 1 (V5 V x1 x2 x3 x4 x5)) := HF_trans (HF_set (by omega)) (HF_set (by omega))
  by_cases c : aN x1 x2 x3 x4 x5
  · by_cases c4 : np = 40
    · have bb := fun (Q : XO → XH → Prop) => b_apply2 (d := 8) (Q := Q) C W hV r1 r2 r3 r4 r5 c c4
      simp only [W1, W2] at bb
      exact fx_apply_1 C M h1 h2 hL e1 e2 e3 e4 e5 bb (CW_wq C) Fq (fun (Q : XO → XH → Prop) => m_apply2 R W r1 r2 r3 r4 r5 c c4) (LP_rq L (by omega) hV5)
    · have c5 : np < 40 := by have := W.2.2.2.1; omega
      obtain ⟨K, kc, kC, kF⟩ := b_apply C W hV r1 r2 r3 r4 r5 hr.1 hk c c5
      have bb := fun (Q : XO → XH → Prop) => kc (d := 8) (Q := Q)
      simp only [W1] at bb
      exact fv_apply C M h1 h2 hL e1 e2 e3 e4 e5 bb kC kF rfl (fun (Q : XO → XH → Prop) => (m_apply R W r1 r2 r3 r4 r5 hk c c5).trans (by rw [pm_ring hk])) (LP_rq (LP_keep L (IV_aP I c5 c) (MR_aP R W.2.1 W.2.2.1 ⟨W.2.2.2.1.1, c5⟩ (IV_GB I).1 (IV_hup I))) (by omega) hV5)
  · have bb := fun (Q : XO → XH → Prop) => b_apply1 (d := 8) (Q := Q) C W hV r1 r2 r3 r4 r5 c
    simp only [W1, W2] at bb
    exact fx_apply_0 C M h1 h2 hL e1 e2 e3 e4 e5 bb (CW_wq C) Fq (fun (Q : XO → XH → Prop) => m_apply1 r1 r2 r3 r4 r5 c) (LP_rq L (by omega) hV5)
theorem sp_grant (Lr : LRx H) (hL : 0 ≤ i ∧ i + 6 ≤ (H.2.2.2.2.1 : Int) ∧ H.2.2.2.2.1 < 1000000) (e1 : H.2.2.2.2.2 (iI (i + 1)).toNatClampNeg = iI x1) (r1 : -2147483648 ≤ x1 ∧ x1 < 2147483648) : ∃ (H2 : XH) (m6 m7 : Value), LRx H2 ∧ Fn H H2 ∧ ∀ Q, EvQ 13 m_L_law 803 [.ref 2000000, .ref 0, .ref 109, .ref 117, .ref 118, .int (iI i), l6, l7, xjunk] [] H Q = EvQ 13 m_L_law 28 [.ref 2000000, .ref 0, .ref 109, .ref 117, .ref 118, .int (iI (i + 6)), m6, m7, xjunk] [] H2 Q := by
  obtain ⟨dy, nb, B, nu, U, np, P, nf, F, nx, kp, pa, zr0, zs, sv, lr, le, ln, ps, ch, rq, V, G, A, S, tw, ke, ab, pt, rm, en, aa, iw, kd, n1, n2, n3, n4, gd, g, g2, C, M, h1, h2, L⟩ := Lr
  obtain ⟨I, R, hr, hs, hke, hle, hln, hch, hrq, hV⟩ := id L
  have W := I.1
  have W1 := CW_W1 C
  have hk := hr.2.1
  have hG := IV_GB I
  have hI := IV_hI I
  have h34 := IV_h34 I
  by_cases c : 0 ≤ x1 ∧ x1 < np
  · by_cases c0 : tg np 7 P x1 5 = 0
    · by_cases c1 : rsn dy nb B nu U np P x1 = 0
      · obtain ⟨K, kc, kC, kF⟩ := b_grant C W hG hr.1 hk c c0 c1
        have bb := fun (Q : XO → XH → Prop) => kc (d := 5) (Q := Q)
        simp only [W1] at bb
        exact fv_grant C M h1 h2 hL e1 bb kC kF rfl (fun (Q : XO → XH → Prop) => (m_grant R W hG hI h34 hk c c0 c1).trans (by rw [pm_ring hk])) (LP_keep L (IV_grant I c c0 c1) (MR_st R ⟨W.2.1.1, W.2.1.2, W.2.2.1⟩ hG.1 c))
      · have C2 := CW_bc (sv' := sv) (lr' := rsn dy nb B nu U np P x1) (le' := le) C
        have bb := fun (Q : XO → XH → Prop) => b_grant3 (d := 5) (Q := Q) C W hG c c0 c1
        simp only [W1, CW_W1 C2] at bb
        have rb := rsnR (dy := dy) (nb := nb) (B := B) (nu := nu) (U := U) (np := np) (P := P) (p := x1)
        exact fx_grant_1 C M h1 h2 hL e1 bb C2 (HF_set (by omega)) (fun (Q : XO → XH → Prop) => m_grant3 R W hG hI h34 c c0 c1) ⟨I, R, hr, hs, Or.inr ⟨rfl, by omega, by omega⟩, hle, hln, hch, hrq, hV⟩
    · have bb := fun (Q : XO → XH → Prop) => b_grant2 (d := 5) (Q := Q) C W r1 c c0
      simp only [W1] at bb
      exact fx_grant_4 C M h1 h2 hL e1 bb C HF_refl (fun (Q : XO → XH → Prop) => (m_grant1 R W r1 (by rw [sPr_2 c c0]; omega)).trans (by rw [sPr_2 c c0])) L
  · have bb := fun (Q : XO → XH → Prop) => b_grant1 (d := 5) (Q := Q) C W r1 c
    simp only [W1] at bb
    exact fx_grant_2 C M h1 h2 hL e1 bb C HF_refl (fun (Q : XO → XH → Prop) => (m_grant1 R W r1 (by rw [sPr_1 c]; omega)).trans (by rw [sPr_1 c])) L
theorem sp_refuse (Lr : LRx H) (hL : 0 ≤ i ∧ i + 6 ≤ (H.2.2.2.2.1 : Int) ∧ H.2.2.2.2.1 < 1000000) (e1 : H.2.2.2.2.2 (iI (i + 1)).toNatClampNeg = iI x1) (r1 : -2147483648 ≤ x1 ∧ x1 < 2147483648) : ∃ (H2 : XH) (m6 m7 : Value), LRx H2 ∧ Fn H H2 ∧ ∀ Q, EvQ 13 m_L_law 859 [.ref 2000000, .ref 0, .ref 109, .ref 117, .ref 118, .int (iI i), l6, l7, xjunk] [] H Q = EvQ 13 m_L_law 28 [.ref 2000000, .ref 0, .ref 109, .ref 117, .ref 118, .int (iI (i + 6)), m6, m7, xjunk] [] H2 Q := by
  obtain ⟨dy, nb, B, nu, U, np, P, nf, F, nx, kp, pa, zr0, zs, sv, lr, le, ln, ps, ch, rq, V, G, A, S, tw, ke, ab, pt, rm, en, aa, iw, kd, n1, n2, n3, n4, gd, g, g2, C, M, h1, h2, L⟩ := Lr
  obtain ⟨I, R, hr, hs, hke, hle, hln, hch, hrq, hV⟩ := id L
  have W := I.1
  have W1 := CW_W1 C
  have hk := hr.2.1
  have hG := IV_GB I
  have hI := IV_hI I
  have h34 := IV_h34 I
  by_cases c : 0 ≤ x1 ∧ x1 < np
  · by_cases c0 : tg np 7 P x1 5 = 0
    · obtain ⟨K, kc, kC, kF⟩ := b_refuse C W hG hr.1 hk c c0
      have bb := fun (Q : XO → XH → Prop) => kc (d := 5) (Q := Q)
      simp only [W1] at bb
      exact fv_refuse C M h1 h2 hL e1 bb kC kF rfl (fun (Q : XO → XH → Prop) => (m_refuse R W hG hI h34 hk c c0).trans (by rw [pm_ring hk])) (LP_keep L (IV_shut I c (by omega) (by omega)) (MR_st R ⟨W.2.1.1, W.2.1.2, W.2.2.1⟩ hG.1 c))
    · have bb := fun (Q : XO → XH → Prop) => b_refuse2 (d := 5) (Q := Q) C W r1 c c0
      simp only [W1] at bb
      exact fx_refuse_4 C M h1 h2 hL e1 bb C HF_refl (fun (Q : XO → XH → Prop) => (m_refuse1 R W r1 (by rw [sPr_2 c c0]; omega)).trans (by rw [sPr_2 c c0])) L
  · have bb := fun (Q : XO → XH → Prop) => b_refuse1 (d := 5) (Q := Q) C W r1 c
    simp only [W1] at bb
    exact fx_refuse_2 C M h1 h2 hL e1 bb C HF_refl (fun (Q : XO → XH → Prop) => (m_refuse1 R W r1 (by rw [sPr_1 c]; omega)).trans (by rw [sPr_1 c])) L
theorem sp_begin (Lr : LRx H) (hL : 0 ≤ i ∧ i + 6 ≤ (H.2.2.2.2.1 : Int) ∧ H.2.2.2.2.1 < 1000000) (e1 : H.2.2.2.2.2 (iI (i + 1)).toNatClampNeg = iI x1) (r1 : -2147483648 ≤ x1 ∧ x1 < 2147483648) : ∃ (H2 : XH) (m6 m7 : Value), LRx H2 ∧ Fn H H2 ∧ ∀ Q, EvQ 13 m_L_law 915 [.ref 2000000, .ref 0, .ref 109, .ref 117, .ref 118, .int (iI i), l6, l7, xjunk] [] H Q = EvQ 13 m_L_law 28 [.ref 2000000, .ref 0, .ref 109, .ref 117, .ref 118, .int (iI (i + 6)), m6, m7, xjunk] [] H2 Q := by
  obtain ⟨dy, nb, B, nu, U, np, P, nf, F, nx, kp, pa, zr0, zs, sv, lr, le, ln, ps, ch, rq, V, G, A, S, tw, ke, ab, pt, rm, en, aa, iw, kd, n1, n2, n3, n4, gd, g, g2, C, M, h1, h2, L⟩ := Lr
  obtain ⟨I, R, hr, hs, hke, hle, hln, hch, hrq, hV⟩ := id L
  have W := I.1
  have W1 := CW_W1 C
  have hk := hr.2.1
  have hG := IV_GB I
  by_cases c : 0 ≤ x1 ∧ x1 < np
  · by_cases c0 : tg np 7 P x1 5 = 1
    · obtain ⟨K, kc, kC, kF⟩ := b_begin C W hr.1 hk c c0
      have bb := fun (Q : XO → XH → Prop) => kc (d := 8) (Q := Q)
      simp only [W1] at bb
      exact fv_begin C M h1 h2 hL e1 bb kC kF rfl (fun (Q : XO → XH → Prop) => (m_begin R W hk c c0).trans (by rw [pm_ring hk])) (LP_keep L (IV_begin I c c0) (MR_st R ⟨W.2.1.1, W.2.1.2, W.2.2.1⟩ hG.1 c))
    · have bb := fun (Q : XO → XH → Prop) => b_begin2 (d := 8) (Q := Q) C W r1 c c0
      simp only [W1] at bb
      exact fx_begin_4 C M h1 h2 hL e1 bb C HF_refl (fun (Q : XO → XH → Prop) => (m_begin1 R W r1 (by rw [sPr_2 c c0]; omega)).trans (by rw [sPr_2 c c0])) L
  · have bb := fun (Q : XO → XH → Prop) => b_begin1 (d := 8) (Q := Q) C W r1 c
    simp only [W1] at bb
    exact fx_begin_2 C M h1 h2 hL e1 bb C HF_refl (fun (Q : XO → XH → Prop) => (m_begin1 R W r1 (by rw [sPr_1 c]; omega)).trans (by rw [sPr_1 c])) L
theorem sp_finish (Lr : LRx H) (hL : 0 ≤ i ∧ i + 6 ≤ (H.2.2.2.2.1 : Int) ∧ H.2.2.2.2.1 < 1000000) (e1 : H.2.2.2.2.2 (iI (i + 1)).toNatClampNeg = iI x1) (r1 : -2147483648 ≤ x1 ∧ x1 < 2147483648) : ∃ (H2 : XH) (m6 m7 : Value), LRx H2 ∧ Fn H H2 ∧ ∀ Q, EvQ 13 m_L_law 971 [.ref 2000000, .ref 0, .ref 109, .ref 117, .ref 118, .int (iI i), l6, l7, xjunk] [] H Q = EvQ 13 m_L_law 28 [.ref 2000000, .ref 0, .ref 109, .ref 117, .ref 118, .int (iI (i + 6)), m6, m7, xjunk] [] H2 Q := by
  obtain ⟨dy, nb, B, nu, U, np, P, nf, F, nx, kp, pa, zr0, zs, sv, lr, le, ln, ps, ch, rq, V, G, A, S, tw, ke, ab, pt, rm, en, aa, iw, kd, n1, n2, n3, n4, gd, g, g2, C, M, h1, h2, L⟩ := Lr
  obtain ⟨I, R, hr, hs, hke, hle, hln, hch, hrq, hV⟩ := id L
  have W := I.1
  have W1 := CW_W1 C
  have hk := hr.2.1
  have hG := IV_GB I
  by_cases c : 0 ≤ x1 ∧ x1 < np
  · by_cases c0 : tg np 7 P x1 5 = 2
    · have hcP := IV_cP I c c0
      have hop := open_ok I c (Or.inr c0)
      obtain ⟨K, kc, kC, kF⟩ := b_finish C W hr.1 hk c c0 (IV_nflt I c c0) hcP
      have bb := fun (Q : XO → XH → Prop) => kc (d := 5) (Q := Q)
      simp only [W1] at bb
      obtain ⟨G', X', Y', R', mm⟩ := m_finish (h := hset K 117 (ola (vp_updL g (iI 0).toNatClampNeg (iI (cR (pq np P x1 0) (pq np P x1 1) nb B nu)).toInt64))) (G := G) (A := A) (pm := kp) (S := S) (iv := iI sv) (tw := tw) (ke := ke) (er := le) (I := ch) (ty := ln) (ab := ab) (pt := pt) (rm := rm) (en := en) (aa := aa) (iw := iw) (kd := kd) (n1 := n1) (n2 := n2) (n3 := n3) (n4 := n4) (gd := gd) R W hG.1 hk c c0 hcP hop.2.2.2 hop.2.2.1
      exact fv_finish C M h1 h2 hL e1 bb kC kF rfl (fun (Q : XO → XH → Prop) => (mm (Q := Q)).trans (by rw [pm_ring hk])) (LP_keep L (IV_fin I c c0) R')
    · have bb := fun (Q : XO → XH → Prop) => b_finish2 (d := 5) (Q := Q) C W r1 c c0
      simp only [W1] at bb
      exact fx_finish_4 C M h1 h2 hL e1 bb C HF_refl (fun (Q : XO → XH → Prop) => (m_finish1 R W r1 (by rw [sPr_2 c c0]; omega)).trans (by rw [sPr_2 c c0])) L
  · have bb := fun (Q : XO → XH → Prop) => b_finish1 (d := 5) (Q := Q) C W r1 c
    simp only [W1] at bb
    exact fx_finish_2 C M h1 h2 hL e1 bb C HF_refl (fun (Q : XO → XH → Prop) => (m_finish1 R W r1 (by rw [sPr_1 c]; omega)).trans (by rw [sPr_1 c])) L
theorem sp_withdraw (Lr : LRx H) (hL : 0 ≤ i ∧ i + 6 ≤ (H.2.2.2.2.1 : Int) ∧ H.2.2.2.2.1 < 1000000) (e1 : H.2.2.2.2.2 (iI (i + 1)).toNatClampNeg = iI x1) (r1 : -2147483648 ≤ x1 ∧ x1 < 2147483648) : ∃ (H2 : XH) (m6 m7 : Value), LRx H2 ∧ Fn H H2 ∧ ∀ Q, EvQ 13 m_L_law 1027 [.ref 2000000, .ref 0, .ref 109, .ref 117, .ref 118, .int (iI i), l6, l7, xjunk] [] H Q = EvQ 13 m_L_law 28 [.ref 2000000, .ref 0, .ref 109, .ref 117, .ref 118, .int (iI (i + 6)), m6, m7, xjunk] [] H2 Q := by
  obtain ⟨dy, nb, B, nu, U, np, P, nf, F, nx, kp, pa, zr0, zs, sv, lr, le, ln, ps, ch, rq, V, G, A, S, tw, ke, ab, pt, rm, en, aa, iw, kd, n1, n2, n3, n4, gd, g, g2, C, M, h1, h2, L⟩ := Lr
  obtain ⟨I, R, hr, hs, hke, hle, hln, hch, hrq, hV⟩ := id L
  have W := I.1
  have W1 := CW_W1 C
  have hk := hr.2.1
  have hG := IV_GB I
  by_cases c : 0 ≤ x1 ∧ x1 < np
  · have s6 := (I.2.2.1 x1 c.1 c.2).2.1
    by_cases c0 : tg np 7 P x1 5 ≤ 2
    · obtain ⟨K, kc, kC, kF⟩ := b_withdraw C W hr.1 hk c ⟨s6.1, c0⟩
      have bb := fun (Q : XO → XH → Prop) => kc (d := 8) (Q := Q)
      simp only [W1] at bb
      exact fv_withdraw C M h1 h2 hL e1 bb kC kF rfl (fun (Q : XO → XH → Prop) => (m_withdraw R W hk c c0).trans (by rw [pm_ring hk])) (LP_keep L (IV_shut I c (by omega) (by omega)) (MR_st R ⟨W.2.1.1, W.2.1.2, W.2.2.1⟩ hG.1 c))
    · have bb := fun (Q : XO → XH → Prop) => b_withdraw2 (d := 8) (Q := Q) C W r1 c (by omega)
      simp only [W1] at bb
      exact fx_withdraw_4 C M h1 h2 hL e1 bb C HF_refl (fun (Q : XO → XH → Prop) => m_withdraw2 R W c (by omega)) L
  · have bb := fun (Q : XO → XH → Prop) => b_withdraw1 (d := 8) (Q := Q) C W r1 c
    simp only [W1] at bb
    exact fx_withdraw_2 C M h1 h2 hL e1 bb C HF_refl (fun (Q : XO → XH → Prop) => m_withdraw1 R W r1 c) L
theorem sp_pass (Lr : LRx H) (hL : 0 ≤ i ∧ i + 6 ≤ (H.2.2.2.2.1 : Int) ∧ H.2.2.2.2.1 < 1000000) (e1 : H.2.2.2.2.2 (iI (i + 1)).toNatClampNeg = iI x1) (r1 : -2147483648 ≤ x1 ∧ x1 < 2147483648) : ∃ (H2 : XH) (m6 m7 : Value), LRx H2 ∧ Fn H H2 ∧ ∀ Q, EvQ 13 m_L_law 1195 [.ref 2000000, .ref 0, .ref 109, .ref 117, .ref 118, .int (iI i), l6, l7, xjunk] [] H Q = EvQ 13 m_L_law 28 [.ref 2000000, .ref 0, .ref 109, .ref 117, .ref 118, .int (iI (i + 6)), m6, m7, xjunk] [] H2 Q := by
  obtain ⟨dy, nb, B, nu, U, np, P, nf, F, nx, kp, pa, zr0, zs, sv, lr, le, ln, ps, ch, rq, V, G, A, S, tw, ke, ab, pt, rm, en, aa, iw, kd, n1, n2, n3, n4, gd, g, g2, C, M, h1, h2, L⟩ := Lr
  obtain ⟨I, R, hr, hs, hke, hle, hln, hch, hrq, hV⟩ := id L
  have W := I.1
  have W1 := CW_W1 C
  have hk := hr.2.1
  have hG := IV_GB I
  have hD := hG.2.2.2.2.2.2
  by_cases c : 1 ≤ x1 ∧ x1 ≤ 99
  · by_cases c0 : dy + x1 ≤ 9999
    · obtain ⟨K, kc, kC, kF⟩ := b_pass C W hD hr.1 hk c c0
      have bb := fun (Q : XO → XH → Prop) => kc (d := 8) (Q := Q)
      have pp := pass_MR (m := x1.toNat) I R
      simp only [W1, ← pp.2] at bb
      exact fv_pass C M h1 h2 hL e1 bb kC kF rfl (fun (Q : XO → XH → Prop) => (m_pass R W hG.1 hD hk c c0).trans (by rw [pm_ring hk])) (LP_keep L (IV_psk x1.toNat dy P 0 (by omega) I) pp.1)
    · have bb := fun (Q : XO → XH → Prop) => b_pass2 (d := 8) (Q := Q) C W c (by omega)
      simp only [W1] at bb
      exact fx_pass_1 C M h1 h2 hL e1 bb C HF_refl (fun (Q : XO → XH → Prop) => m_pass2 R W c (by omega)) L
  · have bb := fun (Q : XO → XH → Prop) => b_pass1 (d := 8) (Q := Q) C W r1 c
    simp only [W1] at bb
    exact fx_pass_0 C M h1 h2 hL e1 bb C HF_refl (fun (Q : XO → XH → Prop) => m_pass1 r1 c) L
theorem sp_undo (Lr : LRx H) (hL : 0 ≤ i ∧ i + 6 ≤ (H.2.2.2.2.1 : Int) ∧ H.2.2.2.2.1 < 1000000) : ∃ (H2 : XH) (m6 m7 : Value), LRx H2 ∧ Fn H H2 ∧ ∀ Q, EvQ 13 m_L_law 1771 [.ref 2000000, .ref 0, .ref 109, .ref 117, .ref 118, .int (iI i), l6, l7, xjunk] [] H Q = EvQ 13 m_L_law 28 [.ref 2000000, .ref 0, .ref 109, .ref 117, .ref 118, .int (iI (i + 6)), m6, m7, xjunk] [] H2 Q := by
  obtain ⟨dy, nb, B, nu, U, np, P, nf, F, nx, kp, pa, zr0, zs, sv, lr, le, ln, ps, ch, rq, V, G, A, S, tw, ke, ab, pt, rm, en, aa, iw, kd, n1, n2, n3, n4, gd, g, g2, C, M, h1, h2, L⟩ := Lr
  obtain ⟨I, R, hr, hs, hke, hle, hln, hch, hrq, hV⟩ := id L
  have W := I.1
  have W1 := CW_W1 C
  have hk := hr.2.1
  by_cases c : kp = 0
  · have bb := fun (Q : XO → XH → Prop) => b_undo1 (d := 8) (Q := Q) C c
    simp only [W1] at bb
    exact fx_undo_1 C M h1 h2 hL bb C HF_refl (fun (Q : XO → XH → Prop) => m_undo1 c) L
  · have c2 : 0 < kp := by omega
    obtain ⟨K, kc, kC, kF⟩ := b_undo C hr.1 ⟨c2, hk.2⟩
    have bb := fun (Q : XO → XH → Prop) => kc (d := 8) (Q := Q)
    simp only [W1] at bb
    obtain ⟨hr', I', R'⟩ := HR_undo hr c2
    exact fv_undo C M h1 h2 hL bb kC (HF_trans kF (HF_wr (by omega))) rfl (fun (Q : XO → XH → Prop) => m_undo ⟨c2, hk.2⟩) ⟨I', R', hr', hs, hke, hle, hln, hch, hrq, hV⟩
theorem sp_save (Lr : LRx H) (hL : 0 ≤ i ∧ i + 6 ≤ (H.2.2.2.2.1 : Int) ∧ H.2.2.2.2.1 < 1000000) : ∃ (H2 : XH) (m6 m7 : Value), LRx H2 ∧ Fn H H2 ∧ ∀ Q, EvQ 13 m_L_law 1815 [.ref 2000000, .ref 0, .ref 109, .ref 117, .ref 118, .int (iI i), l6, l7, xjunk] [] H Q = EvQ 13 m_L_law 28 [.ref 2000000, .ref 0, .ref 109, .ref 117, .ref 118, .int (iI (i + 6)), m6, m7, xjunk] [] H2 Q := by
  obtain ⟨dy, nb, B, nu, U, np, P, nf, F, nx, kp, pa, zr0, zs, sv, lr, le, ln, ps, ch, rq, V, G, A, S, tw, ke, ab, pt, rm, en, aa, iw, kd, n1, n2, n3, n4, gd, g, g2, C, M, h1, h2, L⟩ := Lr
  obtain ⟨I, R, hr, hs, hke, hle, hln, hch, hrq, hV⟩ := id L
  have W := I.1
  have W1 := CW_W1 C
  obtain ⟨K, kc, kC, kF⟩ := b_save C W
  have bb := fun (Q : XO → XH → Prop) => kc (d := 8) (Q := Q)
  simp only [W1] at bb
  exact fv_save C M h1 h2 bb kC kF (fun (Q : XO → XH → Prop) => m_save R W (IV_hI I)) ⟨I, R, hr, Or.inr ⟨rfl, I, R⟩, hke, hle, hln, hch, hrq, hV⟩
theorem sp_restore (Lr : LRx H) (hL : 0 ≤ i ∧ i + 6 ≤ (H.2.2.2.2.1 : Int) ∧ H.2.2.2.2.1 < 1000000) : ∃ (H2 : XH) (m6 m7 : Value), LRx H2 ∧ Fn H H2 ∧ ∀ Q, EvQ 13 m_L_law 1828 [.ref 2000000, .ref 0, .ref 109, .ref 117, .ref 118, .int (iI i), l6, l7, xjunk] [] H Q = EvQ 13 m_L_law 28 [.ref 2000000, .ref 0, .ref 109, .ref 117, .ref 118, .int (iI (i + 6)), m6, m7, xjunk] [] H2 Q := by
  obtain ⟨dy, nb, B, nu, U, np, P, nf, F, nx, kp, pa, zr0, zs, sv, lr, le, ln, ps, ch, rq, V, G, A, S, tw, ke, ab, pt, rm, en, aa, iw, kd, n1, n2, n3, n4, gd, g, g2, C, M, h1, h2, L⟩ := Lr
  obtain ⟨I, R, hr, hs, hke, hle, hln, hch, hrq, hV⟩ := id L
  have W := I.1
  have W1 := CW_W1 C
  rcases hs with c | ⟨c, Is, Rs⟩
  · have bb := fun (Q : XO → XH → Prop) => b_restore1 (d := 7) (Q := Q) C c
    simp only [W1] at bb
    exact fx_restore_1 C M h1 h2 hL bb C HF_refl (fun (Q : XO → XH → Prop) => m_restore1 (by rw [c])) L
  · obtain ⟨dy', nb', B', nu', U', np', P', nf', F'⟩ := zs
    have Is' : IV dy' nb' B' nu' U' np' P' nf' F' := Is
    have Rs' : MR S dy' nb' B' nu' U' np' P' := Rs
    obtain ⟨K, kc, kC, kF⟩ := b_restore C c Is'.1
    have bb := fun (Q : XO → XH → Prop) => kc (d := 7) (Q := Q)
    simp only [W1] at bb
    exact fv_restore C M h1 h2 hL bb kC kF rfl (fun (Q : XO → XH → Prop) => m_restore (by rw [c]) Rs' Is'.1 (IV_hI Is')) ⟨Is', Rs', HR_0 hr.1, Or.inr ⟨c, Is, Rs⟩, hke, hle, hln, hch, hrq, hV⟩
theorem sp_feed (Lr : LRx H) (hL : 0 ≤ i ∧ i + 6 ≤ (H.2.2.2.2.1 : Int) ∧ H.2.2.2.2.1 < 1000000) (e1 : H.2.2.2.2.2 (iI (i + 1)).toNatClampNeg = iI x1) (r1 : -2147483648 ≤ x1 ∧ x1 < 2147483648) : ∃ (H2 : XH) (m6 m7 : Value), LRx H2 ∧ Fn H H2 ∧ ∀ Q, EvQ 13 m_L_law 1613 [.ref 2000000, .ref 0, .ref 109, .ref 117, .ref 118, .int (iI i), l6, l7, xjunk] [] H Q = EvQ 13 m_L_law 28 [.ref 2000000, .ref 0, .ref 109, .ref 117, .ref 118, .int (iI (i + 6)), m6, m7, xjunk] [] H2 Q := by
  obtain ⟨dy, nb, B, nu, U, np, P, nf, F, nx, kp, pa, zr0, zs, sv, lr, le, ln, ps, ch, rq, V, G, A, S, tw, ke, ab, pt, rm, en, aa, iw, kd, n1, n2, n3, n4, gd, g, g2, C, M, h1, h2, L⟩ := Lr
  obtain ⟨I, R, hr, hs, hke, hle, hln, hch, hrq, hV⟩ := id L
  have W := I.1
  have W1 := CW_W1 C
  obtain ⟨y, ey, y0, y1⟩ := ch_val (iI x1)
  by_cases c : ln = 60
  · have bb := fun (Q : XO → XH → Prop) => b_feed1 (d := 10) (Q := Q) (x := y) C c (by omega)
    simp only [W1, ← ey] at bb
    exact fx_feed_1 C M h1 h2 hL e1 bb C HF_refl (fun (Q : XO → XH → Prop) => by rw [ey]; exact m_feed1 c (by omega)) L
  · have c2 : 0 ≤ ln ∧ ln < 60 := by omega
    obtain ⟨K, kc, kC, kF⟩ := b_feed C c2 ⟨y0, y1⟩
    have bb := fun (Q : XO → XH → Prop) => kc (d := 10) (Q := Q)
    simp only [W1, ← ey] at bb
    refine fv_feed C M h1 h2 hL e1 bb kC kF rfl (fun (Q : XO → XH → Prop) => by rw [ey]; exact m_feed c2 ⟨y0, y1⟩) ⟨I, R, hr, hs, hke, hle, by omega, fun k => ?_, hrq, hV⟩
    unfold iup
    split
    · exact ⟨y0, y1⟩
    · exact hch k
end So
