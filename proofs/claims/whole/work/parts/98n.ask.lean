/-! The steps of the law: what is asked. (made by src98n.py) -/
section Sn
variable {H : XH} {i x1 x2 x3 x4 x5 z : Int} {l6 l7 : Value}
theorem sp_building (Lr : LRx H) (hL : 0 ≤ i ∧ i + 6 ≤ (H.2.2.2.2.1 : Int) ∧ H.2.2.2.2.1 < 1000000) (e1 : H.2.2.2.2.2 (iI (i + 1)).toNatClampNeg = iI x1) (r1 : -2147483648 ≤ x1 ∧ x1 < 2147483648) (e2 : H.2.2.2.2.2 (iI (i + 2)).toNatClampNeg = iI x2) (r2 : -2147483648 ≤ x2 ∧ x2 < 2147483648) : ∃ (H2 : XH) (m6 m7 : Value), LRx H2 ∧ Fn H H2 ∧ ∀ Q, EvQ 13 m_L_law 228 [.ref 2000000, .ref 0, .ref 109, .ref 117, .ref 118, .int (iI i), l6, l7, xjunk] [] H Q = EvQ 13 m_L_law 28 [.ref 2000000, .ref 0, .ref 109, .ref 117, .ref 118, .int (iI (i + 6)), m6, m7, xjunk] [] H2 Q := by
  obtain ⟨dy, nb, B, nu, U, np, P, nf, F, nx, kp, pa, zr0, zs, sv, lr, le, ln, ps, ch, rq, V, G, A, S, tw, ke, ab, pt, rm, en, aa, iw, kd, n1, n2, n3, n4, gd, g, g2, C, M, h1, h2, L⟩ := Lr
  obtain ⟨I, R, hr, hs, hke, hle, hln, hch, hrq, hV⟩ := id L
  have W := I.1
  have W1 := CW_W1 C
  have bb := fun (Q : XO → XH → Prop) => b_building (d := 7) (Q := Q) C W (IV_GB I) r1 r2
  simp only [W1] at bb
  have h6 := (IV_GB I).1
  have hI := IV_hI I
  by_cases c : 0 ≤ x1 ∧ x1 < nb
  · by_cases c0 : x2 = 0
    · exact fv_building C M h1 h2 hL e1 e2 (fun (Q : XO → XH → Prop) => (bb Q).trans ((if_pos c).trans (if_pos c0))) C HF_refl rfl (fun (Q : XO → XH → Prop) => (m_building R W h6 hI r1 r2).trans ((if_pos c).trans (if_pos c0))) L
    · by_cases c1 : x2 = 1
      · exact fv_building C M h1 h2 hL e1 e2 (fun (Q : XO → XH → Prop) => (bb Q).trans ((if_pos c).trans ((if_neg c0).trans (if_pos c1)))) C HF_refl rfl (fun (Q : XO → XH → Prop) => (m_building R W h6 hI r1 r2).trans ((if_pos c).trans ((if_neg c0).trans (if_pos c1)))) L
      · by_cases c2 : x2 = 2
        · exact fv_building C M h1 h2 hL e1 e2 (fun (Q : XO → XH → Prop) => (bb Q).trans ((if_pos c).trans ((if_neg c0).trans ((if_neg c1).trans (if_pos c2))))) C HF_refl rfl (fun (Q : XO → XH → Prop) => (m_building R W h6 hI r1 r2).trans ((if_pos c).trans ((if_neg c0).trans ((if_neg c1).trans (if_pos c2))))) L
        · by_cases c3 : x2 = 3
          · exact fv_building C M h1 h2 hL e1 e2 (fun (Q : XO → XH → Prop) => (bb Q).trans ((if_pos c).trans ((if_neg c0).trans ((if_neg c1).trans ((if_neg c2).trans (if_pos c3)))))) C HF_refl rfl (fun (Q : XO → XH → Prop) => (m_building R W h6 hI r1 r2).trans ((if_pos c).trans ((if_neg c0).trans ((if_neg c1).trans ((if_neg c2).trans (if_pos c3)))))) L
          · exact fx_building_0 C M h1 h2 hL e1 e2 (fun (Q : XO → XH → Prop) => (bb Q).trans ((if_pos c).trans ((if_neg c0).trans ((if_neg c1).trans ((if_neg c2).trans (if_neg c3)))))) C HF_refl (fun (Q : XO → XH → Prop) => (m_building R W h6 hI r1 r2).trans ((if_pos c).trans ((if_neg c0).trans ((if_neg c1).trans ((if_neg c2).trans (if_neg c3)))))) L
  · exact fx_building_2 C M h1 h2 hL e1 e2 (fun (Q : XO → XH → Prop) => (bb Q).trans (if_neg c)) C HF_refl (fun (Q : XO → XH → Prop) => (m_building R W h6 hI r1 r2).trans (if_neg c)) L
theorem sp_floor (Lr : LRx H) (hL : 0 ≤ i ∧ i + 6 ≤ (H.2.2.2.2.1 : Int) ∧ H.2.2.2.2.1 < 1000000) (e1 : H.2.2.2.2.2 (iI (i + 1)).toNatClampNeg = iI x1) (r1 : -2147483648 ≤ x1 ∧ x1 < 2147483648) (e2 : H.2.2.2.2.2 (iI (i + 2)).toNatClampNeg = iI x2) (r2 : -2147483648 ≤ x2 ∧ x2 < 2147483648) (e3 : H.2.2.2.2.2 (iI (i + 3)).toNatClampNeg = iI x3) (r3 : -2147483648 ≤ x3 ∧ x3 < 2147483648) : ∃ (H2 : XH) (m6 m7 : Value), LRx H2 ∧ Fn H H2 ∧ ∀ Q, EvQ 13 m_L_law 296 [.ref 2000000, .ref 0, .ref 109, .ref 117, .ref 118, .int (iI i), l6, l7, xjunk] [] H Q = EvQ 13 m_L_law 28 [.ref 2000000, .ref 0, .ref 109, .ref 117, .ref 118, .int (iI (i + 6)), m6, m7, xjunk] [] H2 Q := by
  obtain ⟨dy, nb, B, nu, U, np, P, nf, F, nx, kp, pa, zr0, zs, sv, lr, le, ln, ps, ch, rq, V, G, A, S, tw, ke, ab, pt, rm, en, aa, iw, kd, n1, n2, n3, n4, gd, g, g2, C, M, h1, h2, L⟩ := Lr
  obtain ⟨I, R, hr, hs, hke, hle, hln, hch, hrq, hV⟩ := id L
  have W := I.1
  have W1 := CW_W1 C
  have bb := fun (Q : XO → XH → Prop) => b_floor (d := 6) (Q := Q) C W (IV_GB I) r1 r2 r3
  simp only [W1] at bb
  have h6 := (IV_GB I).1
  have hI := IV_hI I
  by_cases c : 0 ≤ x2 ∧ x2 < tg nb 7 B x1 0
  · by_cases c0 : x3 = 0
    · exact fv_floor C M h1 h2 hL e1 e2 e3 (fun (Q : XO → XH → Prop) => (bb Q).trans ((if_pos c).trans (if_pos c0))) C HF_refl rfl (fun (Q : XO → XH → Prop) => (m_floor R W h6 hI r1 r2 r3).trans ((if_pos c).trans (if_pos c0))) L
    · by_cases c1 : x3 = 1
      · exact fv_floor C M h1 h2 hL e1 e2 e3 (fun (Q : XO → XH → Prop) => (bb Q).trans ((if_pos c).trans ((if_neg c0).trans (if_pos c1)))) C HF_refl rfl (fun (Q : XO → XH → Prop) => (m_floor R W h6 hI r1 r2 r3).trans ((if_pos c).trans ((if_neg c0).trans (if_pos c1)))) L
      · by_cases c2 : x3 = 2
        · exact fv_floor C M h1 h2 hL e1 e2 e3 (fun (Q : XO → XH → Prop) => (bb Q).trans ((if_pos c).trans ((if_neg c0).trans ((if_neg c1).trans (if_pos c2))))) C HF_refl rfl (fun (Q : XO → XH → Prop) => (m_floor R W h6 hI r1 r2 r3).trans ((if_pos c).trans ((if_neg c0).trans ((if_neg c1).trans (if_pos c2))))) L
        · by_cases c3 : x3 = 3
          · exact fv_floor C M h1 h2 hL e1 e2 e3 (fun (Q : XO → XH → Prop) => (bb Q).trans ((if_pos c).trans ((if_neg c0).trans ((if_neg c1).trans ((if_neg c2).trans (if_pos c3)))))) C HF_refl rfl (fun (Q : XO → XH → Prop) => (m_floor R W h6 hI r1 r2 r3).trans ((if_pos c).trans ((if_neg c0).trans ((if_neg c1).trans ((if_neg c2).trans (if_pos c3)))))) L
          · exact fx_floor_0 C M h1 h2 hL e1 e2 e3 (fun (Q : XO → XH → Prop) => (bb Q).trans ((if_pos c).trans ((if_neg c0).trans ((if_neg c1).trans ((if_neg c2).trans (if_neg c3)))))) C HF_refl (fun (Q : XO → XH → Prop) => (m_floor R W h6 hI r1 r2 r3).trans ((if_pos c).trans ((if_neg c0).trans ((if_neg c1).trans ((if_neg c2).trans (if_neg c3)))))) L
  · exact fx_floor_2 C M h1 h2 hL e1 e2 e3 (fun (Q : XO → XH → Prop) => (bb Q).trans (if_neg c)) C HF_refl (fun (Q : XO → XH → Prop) => (m_floor R W h6 hI r1 r2 r3).trans (if_neg c)) L
theorem sp_unit (Lr : LRx H) (hL : 0 ≤ i ∧ i + 6 ≤ (H.2.2.2.2.1 : Int) ∧ H.2.2.2.2.1 < 1000000) (e1 : H.2.2.2.2.2 (iI (i + 1)).toNatClampNeg = iI x1) (r1 : -2147483648 ≤ x1 ∧ x1 < 2147483648) (e2 : H.2.2.2.2.2 (iI (i + 2)).toNatClampNeg = iI x2) (r2 : -2147483648 ≤ x2 ∧ x2 < 2147483648) : ∃ (H2 : XH) (m6 m7 : Value), LRx H2 ∧ Fn H H2 ∧ ∀ Q, EvQ 13 m_L_law 376 [.ref 2000000, .ref 0, .ref 109, .ref 117, .ref 118, .int (iI i), l6, l7, xjunk] [] H Q = EvQ 13 m_L_law 28 [.ref 2000000, .ref 0, .ref 109, .ref 117, .ref 118, .int (iI (i + 6)), m6, m7, xjunk] [] H2 Q := by
  obtain ⟨dy, nb, B, nu, U, np, P, nf, F, nx, kp, pa, zr0, zs, sv, lr, le, ln, ps, ch, rq, V, G, A, S, tw, ke, ab, pt, rm, en, aa, iw, kd, n1, n2, n3, n4, gd, g, g2, C, M, h1, h2, L⟩ := Lr
  obtain ⟨I, R, hr, hs, hke, hle, hln, hch, hrq, hV⟩ := id L
  have W := I.1
  have W1 := CW_W1 C
  have bb := fun (Q : XO → XH → Prop) => b_unit (d := 9) (Q := Q) C W r1 r2
  simp only [W1] at bb
  have hP0 := (IV_PH I).1
  by_cases c : 0 ≤ x1 ∧ x1 < nu
  · by_cases c0 : (0 ≤ x2 ∧ x2 ≤ 7) ∨ (10 ≤ x2 ∧ x2 < 15)
    · exact fv_unit C M h1 h2 hL e1 e2 (fun (Q : XO → XH → Prop) => (bb Q).trans ((if_pos c).trans (if_pos c0))) C HF_refl rfl (fun (Q : XO → XH → Prop) => (m_unit R W hP0 r1 r2).trans ((if_pos c).trans (if_pos c0))) L
    · exact fx_unit_0 C M h1 h2 hL e1 e2 (fun (Q : XO → XH → Prop) => (bb Q).trans ((if_pos c).trans (if_neg c0))) C HF_refl (fun (Q : XO → XH → Prop) => (m_unit R W hP0 r1 r2).trans ((if_pos c).trans (if_neg c0))) L
  · exact fx_unit_2 C M h1 h2 hL e1 e2 (fun (Q : XO → XH → Prop) => (bb Q).trans (if_neg c)) C HF_refl (fun (Q : XO → XH → Prop) => (m_unit R W hP0 r1 r2).trans (if_neg c)) L
theorem sp_parent (Lr : LRx H) (hL : 0 ≤ i ∧ i + 6 ≤ (H.2.2.2.2.1 : Int) ∧ H.2.2.2.2.1 < 1000000) (e1 : H.2.2.2.2.2 (iI (i + 1)).toNatClampNeg = iI x1) (r1 : -2147483648 ≤ x1 ∧ x1 < 2147483648) (e2 : H.2.2.2.2.2 (iI (i + 2)).toNatClampNeg = iI x2) (r2 : -2147483648 ≤ x2 ∧ x2 < 2147483648) : ∃ (H2 : XH) (m6 m7 : Value), LRx H2 ∧ Fn H H2 ∧ ∀ Q, EvQ 13 m_L_law 444 [.ref 2000000, .ref 0, .ref 109, .ref 117, .ref 118, .int (iI i), l6, l7, xjunk] [] H Q = EvQ 13 m_L_law 28 [.ref 2000000, .ref 0, .ref 109, .ref 117, .ref 118, .int (iI (i + 6)), m6, m7, xjunk] [] H2 Q := by
  obtain ⟨dy, nb, B, nu, U, np, P, nf, F, nx, kp, pa, zr0, zs, sv, lr, le, ln, ps, ch, rq, V, G, A, S, tw, ke, ab, pt, rm, en, aa, iw, kd, n1, n2, n3, n4, gd, g, g2, C, M, h1, h2, L⟩ := Lr
  obtain ⟨I, R, hr, hs, hke, hle, hln, hch, hrq, hV⟩ := id L
  have W := I.1
  have W1 := CW_W1 C
  have bb := fun (Q : XO → XH → Prop) => b_parent (d := 9) (Q := Q) C W r1 r2
  simp only [W1] at bb
  have hP0 := (IV_PH I).1
  by_cases c : 0 ≤ x1 ∧ x1 < nu
  · by_cases c0 : 0 ≤ x2 ∧ x2 < pN nu U np P x1
    · exact fv_parent C M h1 h2 hL e1 e2 (fun (Q : XO → XH → Prop) => (bb Q).trans ((if_pos c).trans (if_pos c0))) C HF_refl rfl (fun (Q : XO → XH → Prop) => (m_parent R W hP0 (fun _ _ => rfl) r1 r2).trans ((if_pos c).trans (if_pos c0))) L
    · exact fx_parent_3 C M h1 h2 hL e1 e2 (fun (Q : XO → XH → Prop) => (bb Q).trans ((if_pos c).trans (if_neg c0))) C HF_refl (fun (Q : XO → XH → Prop) => (m_parent R W hP0 (fun _ _ => rfl) r1 r2).trans ((if_pos c).trans (if_neg c0))) L
  · exact fx_parent_2 C M h1 h2 hL e1 e2 (fun (Q : XO → XH → Prop) => (bb Q).trans (if_neg c)) C HF_refl (fun (Q : XO → XH → Prop) => (m_parent R W hP0 (fun _ _ => rfl) r1 r2).trans (if_neg c)) L
theorem sp_isAncestor (Lr : LRx H) (hL : 0 ≤ i ∧ i + 6 ≤ (H.2.2.2.2.1 : Int) ∧ H.2.2.2.2.1 < 1000000) (e1 : H.2.2.2.2.2 (iI (i + 1)).toNatClampNeg = iI x1) (r1 : -2147483648 ≤ x1 ∧ x1 < 2147483648) (e2 : H.2.2.2.2.2 (iI (i + 2)).toNatClampNeg = iI x2) (r2 : -2147483648 ≤ x2 ∧ x2 < 2147483648) : ∃ (H2 : XH) (m6 m7 : Value), LRx H2 ∧ Fn H H2 ∧ ∀ Q, EvQ 13 m_L_law 512 [.ref 2000000, .ref 0, .ref 109, .ref 117, .ref 118, .int (iI i), l6, l7, xjunk] [] H Q = EvQ 13 m_L_law 28 [.ref 2000000, .ref 0, .ref 109, .ref 117, .ref 118, .int (iI (i + 6)), m6, m7, xjunk] [] H2 Q := by
  obtain ⟨dy, nb, B, nu, U, np, P, nf, F, nx, kp, pa, zr0, zs, sv, lr, le, ln, ps, ch, rq, V, G, A, S, tw, ke, ab, pt, rm, en, aa, iw, kd, n1, n2, n3, n4, gd, g, g2, C, M, h1, h2, L⟩ := Lr
  obtain ⟨I, R, hr, hs, hke, hle, hln, hch, hrq, hV⟩ := id L
  have W := I.1
  have W1 := CW_W1 C
  have bb := fun (Q : XO → XH → Prop) => b_isAncestor (d := 6) (Q := Q) C W r1 r2
  simp only [W1] at bb
  have H3 := IV_PH I
  by_cases c : (0 ≤ x1 ∧ x1 < nu) ∧ (0 ≤ x2 ∧ x2 < nu)
  · have e := line_fab H3 (by have := W.2.2.1; omega) c.1 c.2
    simp only [if_pos c, e] at bb
    have mm := fun (X : XH) (Q : XO → XH → Prop) => m_isAncestor (d := 9) (h := X) (Q := Q) (G := G) (A := A) (pm := kp) (S := S) (iv := iI sv) (tw := tw) (ke := ke) (er := le) (I := ch) (ty := ln) (ab := ab) (pt := pt) (rm := rm) (en := en) (aa := aa) (iw := iw) (kd := kd) (n1 := n1) (n2 := n2) (n3 := n3) (n4 := n4) (gd := gd) R W H3 c.1 c.2
    by_cases q : fab nu U np P x2 x1 = 1
    · simp only [bI_t q] at bb mm
      exact fv_isAncestor C M h1 h2 hL e1 e2 (Or.inr rfl) bb C HF_refl rfl (fun (Q : XO → XH → Prop) => mm _ Q) L
    · simp only [bI_f q] at bb mm
      exact fv_isAncestor C M h1 h2 hL e1 e2 (Or.inl rfl) bb C HF_refl rfl (fun (Q : XO → XH → Prop) => mm _ Q) L
  · exact fx_isAncestor_2 C M h1 h2 hL e1 e2 (Or.inl rfl) (fun (Q : XO → XH → Prop) => (bb Q).trans (if_neg c)) C HF_refl (fun (Q : XO → XH → Prop) => m_isAncestor1 R W r1 r2 c) L
theorem sp_became (Lr : LRx H) (hL : 0 ≤ i ∧ i + 6 ≤ (H.2.2.2.2.1 : Int) ∧ H.2.2.2.2.1 < 1000000) (e1 : H.2.2.2.2.2 (iI (i + 1)).toNatClampNeg = iI x1) (r1 : -2147483648 ≤ x1 ∧ x1 < 2147483648) (e2 : H.2.2.2.2.2 (iI (i + 2)).toNatClampNeg = iI x2) (r2 : -2147483648 ≤ x2 ∧ x2 < 2147483648) : ∃ (H2 : XH) (m6 m7 : Value), LRx H2 ∧ Fn H H2 ∧ ∀ Q, EvQ 13 m_L_law 587 [.ref 2000000, .ref 0, .ref 109, .ref 117, .ref 118, .int (iI i), l6, l7, xjunk] [] H Q = EvQ 13 m_L_law 28 [.ref 2000000, .ref 0, .ref 109, .ref 117, .ref 118, .int (iI (i + 6)), m6, m7, xjunk] [] H2 Q := by
  obtain ⟨dy, nb, B, nu, U, np, P, nf, F, nx, kp, pa, zr0, zs, sv, lr, le, ln, ps, ch, rq, V, G, A, S, tw, ke, ab, pt, rm, en, aa, iw, kd, n1, n2, n3, n4, gd, g, g2, C, M, h1, h2, L⟩ := Lr
  obtain ⟨I, R, hr, hs, hke, hle, hln, hch, hrq, hV⟩ := id L
  have W := I.1
  have W1 := CW_W1 C
  have bb := fun (Q : XO → XH → Prop) => b_became (d := 6) (Q := Q) C W r1 r2
  simp only [W1] at bb
  have H3 := IV_PH I
  by_cases c : 0 ≤ x1 ∧ x1 < nu
  · have e := heir_eq (j := x2) H3 (by have := W.2.2.1; omega) c
    have mm := fun (X : XH) (Q : XO → XH → Prop) => m_became (d := 9) (h := X) (Q := Q) (G := G) (A := A) (pm := kp) (S := S) (iv := iI sv) (tw := tw) (ke := ke) (er := le) (I := ch) (ty := ln) (ab := ab) (pt := pt) (rm := rm) (en := en) (aa := aa) (iw := iw) (kd := kd) (n1 := n1) (n2 := n2) (n3 := n3) (n4 := n4) (gd := gd) R W H3 r2 c
    rw [e] at mm
    by_cases q : nth (hrP nu U np P x1) x2 (nu - x1).toNat x1 0 = -1
    · obtain ⟨Y, mY⟩ := call_det (fun Q => by
        obtain ⟨Y, y⟩ := mm (hexc H) Q
        exact ⟨Y, y.trans (if_pos q)⟩)
      exact fx_became_3 C M h1 h2 hL e1 e2 (fun (Q : XO → XH → Prop) => (bb Q).trans ((if_pos c).trans (if_pos q))) C HF_refl mY L
    · obtain ⟨Y, mY⟩ := call_det (fun Q => by
        obtain ⟨Y, y⟩ := mm (hset H 117 (ola (vp_updL g (iI 0).toNatClampNeg (iI (nth (hrP nu U np P x1) x2 (nu - x1).toNat x1 0)).toInt64))) Q
        exact ⟨Y, y.trans (if_neg q)⟩)
      exact fv_became C M h1 h2 hL e1 e2 (fun (Q : XO → XH → Prop) => (bb Q).trans ((if_pos c).trans (if_neg q))) C HF_refl rfl mY L
  · exact fx_became_2 C M h1 h2 hL e1 e2 (fun (Q : XO → XH → Prop) => (bb Q).trans (if_neg c)) C HF_refl (fun (Q : XO → XH → Prop) => m_became1 R W r1 r2 c) L
theorem sp_permit (Lr : LRx H) (hL : 0 ≤ i ∧ i + 6 ≤ (H.2.2.2.2.1 : Int) ∧ H.2.2.2.2.1 < 1000000) (e1 : H.2.2.2.2.2 (iI (i + 1)).toNatClampNeg = iI x1) (r1 : -2147483648 ≤ x1 ∧ x1 < 2147483648) (e2 : H.2.2.2.2.2 (iI (i + 2)).toNatClampNeg = iI x2) (r2 : -2147483648 ≤ x2 ∧ x2 < 2147483648) : ∃ (H2 : XH) (m6 m7 : Value), LRx H2 ∧ Fn H H2 ∧ ∀ Q, EvQ 13 m_L_law 1083 [.ref 2000000, .ref 0, .ref 109, .ref 117, .ref 118, .int (iI i), l6, l7, xjunk] [] H Q = EvQ 13 m_L_law 28 [.ref 2000000, .ref 0, .ref 109, .ref 117, .ref 118, .int (iI (i + 6)), m6, m7, xjunk] [] H2 Q := by
  obtain ⟨dy, nb, B, nu, U, np, P, nf, F, nx, kp, pa, zr0, zs, sv, lr, le, ln, ps, ch, rq, V, G, A, S, tw, ke, ab, pt, rm, en, aa, iw, kd, n1, n2, n3, n4, gd, g, g2, C, M, h1, h2, L⟩ := Lr
  obtain ⟨I, R, hr, hs, hke, hle, hln, hch, hrq, hV⟩ := id L
  have W := I.1
  have W1 := CW_W1 C
  have bb := fun (Q : XO → XH → Prop) => b_permit (d := 5) (Q := Q) C W (IV_GB I) r1 r2
  simp only [W1] at bb
  have hG := IV_GB I
  have hI := IV_hI I
  have h34 := IV_h34 I
  by_cases c : 0 ≤ x1 ∧ x1 < np
  · by_cases c0 : 0 ≤ x2 ∧ x2 < 7
    · exact fv_permit C M h1 h2 hL e1 e2 (fun (Q : XO → XH → Prop) => (bb Q).trans ((if_pos c).trans (if_pos c0))) C HF_refl rfl (fun (Q : XO → XH → Prop) => (m_permit R W hG hI h34 r1 r2).trans ((if_pos c).trans (if_pos c0))) L
    · by_cases c1 : x2 = 7
      · by_cases c2 : tg np 7 P x1 5 = 0
        · exact fv_permit C M h1 h2 hL e1 e2 (fun (Q : XO → XH → Prop) => (bb Q).trans ((if_pos c).trans ((if_neg c0).trans ((if_pos c1).trans (if_pos c2))))) C HF_refl rfl (fun (Q : XO → XH → Prop) => (m_permit R W hG hI h34 r1 r2).trans ((if_pos c).trans ((if_neg c0).trans ((if_pos c1).trans (if_pos c2))))) L
        · exact fv_permit C M h1 h2 hL e1 e2 (fun (Q : XO → XH → Prop) => (bb Q).trans ((if_pos c).trans ((if_neg c0).trans ((if_pos c1).trans (if_neg c2))))) C HF_refl rfl (fun (Q : XO → XH → Prop) => (m_permit R W hG hI h34 r1 r2).trans ((if_pos c).trans ((if_neg c0).trans ((if_pos c1).trans (if_neg c2))))) L
      · exact fx_permit_0 C M h1 h2 hL e1 e2 (fun (Q : XO → XH → Prop) => (bb Q).trans ((if_pos c).trans ((if_neg c0).trans (if_neg c1)))) C HF_refl (fun (Q : XO → XH → Prop) => (m_permit R W hG hI h34 r1 r2).trans ((if_pos c).trans ((if_neg c0).trans (if_neg c1)))) L
  · exact fx_permit_2 C M h1 h2 hL e1 e2 (fun (Q : XO → XH → Prop) => (bb Q).trans (if_neg c)) C HF_refl (fun (Q : XO → XH → Prop) => (m_permit R W hG hI h34 r1 r2).trans (if_neg c)) L
theorem sp_reason (Lr : LRx H) (hL : 0 ≤ i ∧ i + 6 ≤ (H.2.2.2.2.1 : Int) ∧ H.2.2.2.2.1 < 1000000) : ∃ (H2 : XH) (m6 m7 : Value), LRx H2 ∧ Fn H H2 ∧ ∀ Q, EvQ 13 m_L_law 1151 [.ref 2000000, .ref 0, .ref 109, .ref 117, .ref 118, .int (iI i), l6, l7, xjunk] [] H Q = EvQ 13 m_L_law 28 [.ref 2000000, .ref 0, .ref 109, .ref 117, .ref 118, .int (iI (i + 6)), m6, m7, xjunk] [] H2 Q := by
  obtain ⟨dy, nb, B, nu, U, np, P, nf, F, nx, kp, pa, zr0, zs, sv, lr, le, ln, ps, ch, rq, V, G, A, S, tw, ke, ab, pt, rm, en, aa, iw, kd, n1, n2, n3, n4, gd, g, g2, C, M, h1, h2, L⟩ := Lr
  obtain ⟨I, R, hr, hs, hke, hle, hln, hch, hrq, hV⟩ := id L
  have W := I.1
  have W1 := CW_W1 C
  have bb := fun (Q : XO → XH → Prop) => b_reason (d := 11) (Q := Q) C (by omega)
  simp only [W1] at bb
  rcases hke with ⟨k1, k2⟩ | ⟨k1, k2⟩
  · exact fx_reason_3 C M h1 h2 hL (fun (Q : XO → XH → Prop) => (bb Q).trans (if_pos k1)) C HF_refl (fun (Q : XO → XH → Prop) => (m_reason (by omega)).trans (if_pos k2)) L
  · subst k1
    exact fv_reason C M h1 h2 hL (fun (Q : XO → XH → Prop) => (bb Q).trans (if_neg (by omega))) C HF_refl rfl (fun (Q : XO → XH → Prop) => (m_reason (by omega)).trans (if_neg (by omega))) L
theorem sp_count (Lr : LRx H) (hL : 0 ≤ i ∧ i + 6 ≤ (H.2.2.2.2.1 : Int) ∧ H.2.2.2.2.1 < 1000000) (e1 : H.2.2.2.2.2 (iI (i + 1)).toNatClampNeg = iI x1) (r1 : -2147483648 ≤ x1 ∧ x1 < 2147483648) (e2 : H.2.2.2.2.2 (iI (i + 2)).toNatClampNeg = iI x2) (r2 : -2147483648 ≤ x2 ∧ x2 < 2147483648) (e3 : H.2.2.2.2.2 (iI (i + 3)).toNatClampNeg = iI x3) (r3 : -2147483648 ≤ x3 ∧ x3 < 2147483648) (e4 : H.2.2.2.2.2 (iI (i + 4)).toNatClampNeg = iI x4) (r4 : -2147483648 ≤ x4 ∧ x4 < 2147483648) (hz : (x4 = 0 ∧ z = 0) ∨ ((iI x4 = iI 0) = False ∧ z = 1)) : ∃ (H2 : XH) (m6 m7 : Value), LRx H2 ∧ Fn H H2 ∧ ∀ Q, EvQ 13 m_L_law 1251 [.ref 2000000, .ref 0, .ref 109, .ref 117, .ref 118, .int (iI i), l6, l7, xjunk] [] H Q = EvQ 13 m_L_law 28 [.ref 2000000, .ref 0, .ref 109, .ref 117, .ref 118, .int (iI (i + 6)), m6, m7, xjunk] [] H2 Q := by
  obtain ⟨dy, nb, B, nu, U, np, P, nf, F, nx, kp, pa, zr0, zs, sv, lr, le, ln, ps, ch, rq, V, G, A, S, tw, ke, ab, pt, rm, en, aa, iw, kd, n1, n2, n3, n4, gd, g, g2, C, M, h1, h2, L⟩ := Lr
  obtain ⟨I, R, hr, hs, hke, hle, hln, hch, hrq, hV⟩ := id L
  have W := I.1
  have W1 := CW_W1 C
  have rz : -2147483648 ≤ z ∧ z < 2147483648 := by omega
  have bb := fun (Q : XO → XH → Prop) => b_count (d := 8) (Q := Q) C W r1 r2 r3 rz
  simp only [W1] at bb
  have hA := IV_hA I
  by_cases c : (x2 = -1 ∨ (0 ≤ x2 ∧ x2 < nb)) ∧ -1 ≤ x3 ∧ x3 < 5
  · by_cases c0 : 0 ≤ x1 ∧ x1 ≤ dy
    · exact fv_count C M h1 h2 hL e1 e2 e3 e4 hz (fun (Q : XO → XH → Prop) => (bb Q).trans ((if_pos c).trans (if_pos c0))) C HF_refl rfl (fun (Q : XO → XH → Prop) => (m_count R W hA r1 r2 r3 rz).trans ((if_pos c).trans (if_pos c0))) L
    · exact fx_count_0 C M h1 h2 hL e1 e2 e3 e4 hz (fun (Q : XO → XH → Prop) => (bb Q).trans ((if_pos c).trans (if_neg c0))) C HF_refl (fun (Q : XO → XH → Prop) => (m_count R W hA r1 r2 r3 rz).trans ((if_pos c).trans (if_neg c0))) L
  · exact fx_count_2 C M h1 h2 hL e1 e2 e3 e4 hz (fun (Q : XO → XH → Prop) => (bb Q).trans (if_neg c)) C HF_refl (fun (Q : XO → XH → Prop) => (m_count R W hA r1 r2 r3 rz).trans (if_neg c)) L
theorem sp_replayed (Lr : LRx H) (hL : 0 ≤ i ∧ i + 6 ≤ (H.2.2.2.2.1 : Int) ∧ H.2.2.2.2.1 < 1000000) (e1 : H.2.2.2.2.2 (iI (i + 1)).toNatClampNeg = iI x1) (r1 : -2147483648 ≤ x1 ∧ x1 < 2147483648) (e2 : H.2.2.2.2.2 (iI (i + 2)).toNatClampNeg = iI x2) (r2 : -2147483648 ≤ x2 ∧ x2 < 2147483648) (e3 : H.2.2.2.2.2 (iI (i + 3)).toNatClampNeg = iI x3) (r3 : -2147483648 ≤ x3 ∧ x3 < 2147483648) (e4 : H.2.2.2.2.2 (iI (i + 4)).toNatClampNeg = iI x4) (r4 : -2147483648 ≤ x4 ∧ x4 < 2147483648) (hz : (x4 = 0 ∧ z = 0) ∨ ((iI x4 = iI 0) = False ∧ z = 1)) : ∃ (H2 : XH) (m6 m7 : Value), LRx H2 ∧ Fn H H2 ∧ ∀ Q, EvQ 13 m_L_law 1359 [.ref 2000000, .ref 0, .ref 109, .ref 117, .ref 118, .int (iI i), l6, l7, xjunk] [] H Q = EvQ 13 m_L_law 28 [.ref 2000000, .ref 0, .ref 109, .ref 117, .ref 118, .int (iI (i + 6)), m6, m7, xjunk] [] H2 Q := by
  obtain ⟨dy, nb, B, nu, U, np, P, nf, F, nx, kp, pa, zr0, zs, sv, lr, le, ln, ps, ch, rq, V, G, A, S, tw, ke, ab, pt, rm, en, aa, iw, kd, n1, n2, n3, n4, gd, g, g2, C, M, h1, h2, L⟩ := Lr
  obtain ⟨I, R, hr, hs, hke, hle, hln, hch, hrq, hV⟩ := id L
  have W := I.1
  have W1 := CW_W1 C
  have rz : -2147483648 ≤ z ∧ z < 2147483648 := by omega
  have hA := IV_hA I
  by_cases c : (x2 = -1 ∨ (0 ≤ x2 ∧ x2 < nb)) ∧ -1 ≤ x3 ∧ x3 < 5
  · by_cases c0 : 0 ≤ x1 ∧ x1 ≤ dy
    · obtain ⟨n, Vg, g0, g1, gg2, g3⟩ := rp_ghost I
      obtain ⟨K, z0, kc, kC, kF⟩ := b_replayed (t := x1) (b := x2) (u := x3) (z := z) (J := rpJ dy nb np P nf F n Vg x1) C W r2 rz c c0 (rp_0 I g0) (fun i s a d J => rp_s I g1 ⟨a, d⟩ J) (fun s J => J.1)
      have bb := fun (Q : XO → XH → Prop) => kc (d := 4) (Q := Q)
      simp only [W1, rp_tal I g0 g1 gg2 g3 c0.1 c.2] at bb
      exact fv_replayed C M h1 h2 hL e1 e2 e3 e4 hz bb kC kF rfl (fun (Q : XO → XH → Prop) => (m_replayed R W hA r1 r2 r3 rz).trans ((if_pos c).trans (if_pos c0))) L
    · have bb := fun (Q : XO → XH → Prop) => b_replayed2 (d := 4) (Q := Q) C W r1 r2 r3 rz c c0
      simp only [W1] at bb
      exact fx_replayed_0 C M h1 h2 hL e1 e2 e3 e4 hz bb C HF_refl (fun (Q : XO → XH → Prop) => (m_replayed R W hA r1 r2 r3 rz).trans ((if_pos c).trans (if_neg c0))) L
  · have bb := fun (Q : XO → XH → Prop) => b_replayed1 (d := 4) (Q := Q) C W r1 r2 r3 rz c
    simp only [W1] at bb
    exact fx_replayed_2 C M h1 h2 hL e1 e2 e3 e4 hz bb C HF_refl (fun (Q : XO → XH → Prop) => (m_replayed R W hA r1 r2 r3 rz).trans (if_neg c)) L
theorem sp_meanArea (Lr : LRx H) (hL : 0 ≤ i ∧ i + 6 ≤ (H.2.2.2.2.1 : Int) ∧ H.2.2.2.2.1 < 1000000) (e1 : H.2.2.2.2.2 (iI (i + 1)).toNatClampNeg = iI x1) (r1 : -2147483648 ≤ x1 ∧ x1 < 2147483648) : ∃ (H2 : XH) (m6 m7 : Value), LRx H2 ∧ Fn H H2 ∧ ∀ Q, EvQ 13 m_L_law 1467 [.ref 2000000, .ref 0, .ref 109, .ref 117, .ref 118, .int (iI i), l6, l7, xjunk] [] H Q = EvQ 13 m_L_law 28 [.ref 2000000, .ref 0, .ref 109, .ref 117, .ref 118, .int (iI (i + 6)), m6, m7, xjunk] [] H2 Q := by
  obtain ⟨dy, nb, B, nu, U, np, P, nf, F, nx, kp, pa, zr0, zs, sv, lr, le, ln, ps, ch, rq, V, G, A, S, tw, ke, ab, pt, rm, en, aa, iw, kd, n1, n2, n3, n4, gd, g, g2, C, M, h1, h2, L⟩ := Lr
  obtain ⟨I, R, hr, hs, hke, hle, hln, hch, hrq, hV⟩ := id L
  have W := I.1
  have W1 := CW_W1 C
  have hA := IV_hA I
  have hn : ¬ tal nu U x1 (-1) (-1) (-1) 0 ≤ 0 → FP.ddiv (FP.i2d (iI (tal nu U x1 (-1) (-1) (-1) 1))) (FP.i2d (iI (tal nu U x1 (-1) (-1) (-1) 0))) &&& 0x7fffffffffffffff ≤ 0x7ff0000000000000 := by
    intro q
    have := IV_tal (t := x1) (b := -1) (f := -1) (z := 0) I
    exact mean_nn (by omega)
  have bb := fun (Q : XO → XH → Prop) => b_meanArea (d := 8) (Q := Q) C W r1 hn
  simp only [W1] at bb
  by_cases c : 0 ≤ x1 ∧ x1 ≤ dy
  · by_cases c0 : tal nu U x1 (-1) (-1) (-1) 0 ≤ 0
    · exact fx_meanArea_5 C M h1 h2 hL e1 (fun (Q : XO → XH → Prop) => (bb Q).trans ((if_pos c).trans (if_pos c0))) C HF_refl (fun (Q : XO → XH → Prop) => (m_meanArea R W hA r1 hn).trans ((if_pos c).trans (if_pos c0))) L
    · exact fv_meanArea C M h1 h2 hL e1 (fun (Q : XO → XH → Prop) => (bb Q).trans ((if_pos c).trans (if_neg c0))) C HF_refl rfl (fun (Q : XO → XH → Prop) => (m_meanArea R W hA r1 hn).trans ((if_pos c).trans (if_neg c0))) L
  · exact fx_meanArea_0 C M h1 h2 hL e1 (fun (Q : XO → XH → Prop) => (bb Q).trans (if_neg c)) C HF_refl (fun (Q : XO → XH → Prop) => (m_meanArea R W hA r1 hn).trans (if_neg c)) L
theorem sp_fullestDay (Lr : LRx H) (hL : 0 ≤ i ∧ i + 6 ≤ (H.2.2.2.2.1 : Int) ∧ H.2.2.2.2.1 < 1000000) : ∃ (H2 : XH) (m6 m7 : Value), LRx H2 ∧ Fn H H2 ∧ ∀ Q, EvQ 13 m_L_law 1544 [.ref 2000000, .ref 0, .ref 109, .ref 117, .ref 118, .int (iI i), l6, l7, xjunk] [] H Q = EvQ 13 m_L_law 28 [.ref 2000000, .ref 0, .ref 109, .ref 117, .ref 118, .int (iI (i + 6)), m6, m7, xjunk] [] H2 Q := by
  obtain ⟨dy, nb, B, nu, U, np, P, nf, F, nx, kp, pa, zr0, zs, sv, lr, le, ln, ps, ch, rq, V, G, A, S, tw, ke, ab, pt, rm, en, aa, iw, kd, n1, n2, n3, n4, gd, g, g2, C, M, h1, h2, L⟩ := Lr
  obtain ⟨I, R, hr, hs, hke, hle, hln, hch, hrq, hV⟩ := id L
  have W := I.1
  have W1 := CW_W1 C
  have bb := fun (Q : XO → XH → Prop) => b_fullestDay (d := 9) (Q := Q) C W
  simp only [W1] at bb
  exact fv_fullestDay C M h1 h2 bb C HF_refl (fun (Q : XO → XH → Prop) => m_fullestDay R W (IV_hA I) (IV_hmo I) (IV_hc0 I)) L
theorem sp_errorPosition (Lr : LRx H) (hL : 0 ≤ i ∧ i + 6 ≤ (H.2.2.2.2.1 : Int) ∧ H.2.2.2.2.1 < 1000000) : ∃ (H2 : XH) (m6 m7 : Value), LRx H2 ∧ Fn H H2 ∧ ∀ Q, EvQ 13 m_L_law 1671 [.ref 2000000, .ref 0, .ref 109, .ref 117, .ref 118, .int (iI i), l6, l7, xjunk] [] H Q = EvQ 13 m_L_law 28 [.ref 2000000, .ref 0, .ref 109, .ref 117, .ref 118, .int (iI (i + 6)), m6, m7, xjunk] [] H2 Q := by
  obtain ⟨dy, nb, B, nu, U, np, P, nf, F, nx, kp, pa, zr0, zs, sv, lr, le, ln, ps, ch, rq, V, G, A, S, tw, ke, ab, pt, rm, en, aa, iw, kd, n1, n2, n3, n4, gd, g, g2, C, M, h1, h2, L⟩ := Lr
  obtain ⟨I, R, hr, hs, hke, hle, hln, hch, hrq, hV⟩ := id L
  have W := I.1
  have W1 := CW_W1 C
  have bb := fun (Q : XO → XH → Prop) => b_error (d := 11) (Q := Q) C hle
  simp only [W1] at bb
  by_cases c : le = -1
  · exact fx_errorPosition_3 C M h1 h2 hL (fun (Q : XO → XH → Prop) => (bb Q).trans (if_pos c)) C HF_refl (fun (Q : XO → XH → Prop) => (m_error hle).trans (if_pos c)) L
  · exact fv_errorPosition C M h1 h2 hL (fun (Q : XO → XH → Prop) => (bb Q).trans (if_neg c)) C HF_refl rfl (fun (Q : XO → XH → Prop) => (m_error hle).trans (if_neg c)) L
theorem sp_total (Lr : LRx H) (hL : 0 ≤ i ∧ i + 6 ≤ (H.2.2.2.2.1 : Int) ∧ H.2.2.2.2.1 < 1000000) (e1 : H.2.2.2.2.2 (iI (i + 1)).toNatClampNeg = iI x1) (r1 : -2147483648 ≤ x1 ∧ x1 < 2147483648) : ∃ (H2 : XH) (m6 m7 : Value), LRx H2 ∧ Fn H H2 ∧ ∀ Q, EvQ 13 m_L_law 1715 [.ref 2000000, .ref 0, .ref 109, .ref 117, .ref 118, .int (iI i), l6, l7, xjunk] [] H Q = EvQ 13 m_L_law 28 [.ref 2000000, .ref 0, .ref 109, .ref 117, .ref 118, .int (iI (i + 6)), m6, m7, xjunk] [] H2 Q := by
  obtain ⟨dy, nb, B, nu, U, np, P, nf, F, nx, kp, pa, zr0, zs, sv, lr, le, ln, ps, ch, rq, V, G, A, S, tw, ke, ab, pt, rm, en, aa, iw, kd, n1, n2, n3, n4, gd, g, g2, C, M, h1, h2, L⟩ := Lr
  obtain ⟨I, R, hr, hs, hke, hle, hln, hch, hrq, hV⟩ := id L
  have W := I.1
  have W1 := CW_W1 C
  have bb := fun (Q : XO → XH → Prop) => b_total (d := 7) (Q := Q) C W r1
  simp only [W1] at bb
  have hI := IV_hI I
  have hf := IV_fin3 I
  by_cases c : 0 ≤ x1 ∧ x1 ≤ 8
  · exact fv_total C M h1 h2 hL e1 (fun (Q : XO → XH → Prop) => (bb Q).trans (if_pos c)) C HF_refl rfl (fun (Q : XO → XH → Prop) => (m_total R W hI hf r1).trans (if_pos c)) L
  · exact fx_total_0 C M h1 h2 hL e1 (fun (Q : XO → XH → Prop) => (bb Q).trans (if_neg c)) C HF_refl (fun (Q : XO → XH → Prop) => (m_total R W hI hf r1).trans (if_neg c)) L
end Sn
