/-! The law's cases, out of both sides. (made by gen98l.py) -/
section Lf
variable {H K X : XH} {dy nb : Int} {B : Int → Int} {nu : Int} {U : Int → Int} {np : Int} {P : Int → Int} {nf : Int} {F : Int → Int} {nx kp : Int} {pa : Int → RT} {zr0 zs : RT} {sv lr le ln ps : Int} {ch : Int → Int} {rq : Int} {V G A S : Int → Int} {tw ke : Int} {ab pt rm : Int → Int} {en aa : Int} {iw : Int32} {kd n1 n2 n3 n4 : Int} {gd : Int32}
variable {dy' nb' : Int} {B' : Int → Int} {nu' : Int} {U' : Int → Int} {np' : Int} {P' : Int → Int} {nf' : Int} {F' : Int → Int} {nx' kp' : Int} {pa' : Int → RT} {zr0' zs' : RT} {sv' lr' le' ln' ps' : Int} {ch' : Int → Int} {rq' : Int} {V' G' A' S' : Int → Int} {ke' : Int} {ab' pt' rm' : Int → Int} {en' aa' : Int} {iw' : Int32} {kd' n1' n2' n3' n4' : Int} {gd' : Int32}
variable {g : Nat → Int64} {g2 : Nat → UInt64} {w : UInt64} {i x1 x2 x3 x4 x5 v z b : Int} {l6 l7 : Value}
theorem fv_addBuilding (C : CW H dy nb B nu U np P nf F nx kp pa zr0 zs sv lr le ln ps ch rq V) (M : MWo H G A kp S (iI sv) tw ke le ch ln ab pt rm en aa iw kd n1 n2 n3 n4 gd) (h1 : hget H 117 = some (ola g)) (h2 : hget H 118 = some (oda g2)) (hL : 0 ≤ i ∧ i + 6 ≤ (H.2.2.2.2.1 : Int) ∧ H.2.2.2.2.1 < 1000000) (e1 : H.2.2.2.2.2 (iI (i + 1)).toNatClampNeg = iI x1) (hC : ∀ Q, Call 11 m_X7_addBuilding [.ref 0, .int (iI x1)] H Q = Q (.inl (some (.int (iI v)))) K) (CK : CW K dy' nb' B' nu' U' np' P' nf' F' nx' kp' pa' zr0' zs' sv' lr' le' ln' ps' ch' rq' V') (FK : HF H K) (hX : X = hset K 117 (ola (vp_updL g (iI 0).toNatClampNeg (iI v).toInt64))) (hM : ∀ Q, Call 12 m_X8_addBuilding [.ref 109, .int (iI x1)] (wm X G A kp S (iI sv) tw ke le ch ln ab pt rm en aa iw kd n1 n2 n3 n4 gd) Q = Q (.inl (some (.int (iI v)))) (wm X G' A' kp' S' (iI sv') 0 ke' le' ch' ln' ab' pt' rm' en' aa' iw' kd' n1' n2' n3' n4' gd')) (L : LPx dy' nb' B' nu' U' np' P' nf' F' nx' kp' pa' zs' sv' lr' le' ln' ch' rq' V' G' A' S' ke') : ∃ (H2 : XH) (m6 m7 : Value), LRx H2 ∧ Fn H H2 ∧ ∀ Q, EvQ 13 m_L_law 172 [.ref 2000000, .ref 0, .ref 109, .ref 117, .ref 118, .int (iI i), l6, l7, xjunk] [] H Q = EvQ 13 m_L_law 28 [.ref 2000000, .ref 0, .ref 109, .ref 117, .ref 118, .int (iI (i + 6)), m6, m7, xjunk] [] H2 Q := by
  have hK : hget K 117 = some (ola g) := by rw [FK.1 117 (by omega)]; exact h1
  have M1 : MWo X G A kp S (iI sv) tw ke le ch ln ab pt rm en aa iw kd n1 n2 n3 n4 gd := by rw [hX]; exact mo_out (mo_hf M FK)
  have C1 : CW X dy' nb' B' nu' U' np' P' nf' F' nx' kp' pa' zr0' zs' sv' lr' le' ln' ps' ch' rq' V' := by rw [hX]; exact st_out CK
  have hH := lo_addBuilding C.2.1 hK hC
  rw [← hX] at hH
  obtain ⟨fs1, h9⟩ := mo_h9 M1
  have M2 : MWo (wm X G' A' kp' S' (iI sv') 0 ke' le' ch' ln' ab' pt' rm' en' aa' iw' kd' n1' n2' n3' n4' gd') G' A' kp' S' (iI sv') 0 ke' le' ch' ln' ab' pt' rm' en' aa' iw' kd' n1' n2' n3' n4' gd' := MWo_wm
  obtain ⟨fs2, h9'⟩ := mo_h9 M2
  have hM' : ∀ Q, Call 12 m_X8_addBuilding [.ref 109, .int (iI x1)] X Q = Q (.inl (some (.int (iI v)))) (wm X G' A' kp' S' (iI sv') 0 ke' le' ch' ln' ab' pt' rm' en' aa' iw' kd' n1' n2' n3' n4' gd') := fun Q => by
    have := hM Q
    rw [show wm X G A kp S (iI sv) tw ke le ch ln ab pt rm en aa iw kd n1 n2 n3 n4 gd = X from M1] at this
    exact this
  have e1' : X.2 = H.2 := by rw [hX]; exact FK.2
  have e2' : (wm X G' A' kp' S' (iI sv') 0 ke' le' ch' ln' ab' pt' rm' en' aa' iw' kd' n1' n2' n3' n4' gd').2 = H.2 := e1'
  exact ⟨wm X G' A' kp' S' (iI sv') 0 ke' le' ch' ln' ab' pt' rm' en' aa' iw' kd' n1' n2' n3' n4' gd', .int (iI 0), .int (iI v), LRx_mk (st_wm C1) M2 (g := vp_updL g (iI 0).toNatClampNeg (iI v).toInt64) (g2 := g2) (by rw [xmm_n (by omega), hX, hget_set]) (by rw [xmm_n (by omega), hX, hget_ne (by omega), FK.1 118 (by omega)]; exact h2) L, ⟨by rw [e2'], by rw [e2']; omega, by rw [e2']; omega⟩, fun Q => lc_addBuilding hL e1 hH (by rw [e1']) h9 hM' h9' (fun Q => mo_tw Q) (Or.inl ⟨rfl, by rw [xmm_n (by omega), hX, hget_set], updL_at⟩)⟩
theorem fx_addBuilding_0 (C : CW H dy nb B nu U np P nf F nx kp pa zr0 zs sv lr le ln ps ch rq V) (M : MWo H G A kp S (iI sv) tw ke le ch ln ab pt rm en aa iw kd n1 n2 n3 n4 gd) (h1 : hget H 117 = some (ola g)) (h2 : hget H 118 = some (oda g2)) (hL : 0 ≤ i ∧ i + 6 ≤ (H.2.2.2.2.1 : Int) ∧ H.2.2.2.2.1 < 1000000) (e1 : H.2.2.2.2.2 (iI (i + 1)).toNatClampNeg = iI x1) (hC : ∀ Q, Call 11 m_X7_addBuilding [.ref 0, .int (iI x1)] H Q = Q (.inr 0) (hexc K)) (CK : CW K dy' nb' B' nu' U' np' P' nf' F' nx' kp' pa' zr0' zs' sv' lr' le' ln' ps' ch' rq' V') (FK : HF H K) (hM : ∀ Q, Call 12 m_X8_addBuilding [.ref 109, .int (iI x1)] (wm (hexc K) G A kp S (iI sv) tw ke le ch ln ab pt rm en aa iw kd n1 n2 n3 n4 gd) Q = Q (.inl (some (.int (iI b)))) (wm (hexc K) G' A' kp' S' (iI sv') 1 ke' le' ch' ln' ab' pt' rm' en' aa' iw' kd' n1' n2' n3' n4' gd')) (L : LPx dy' nb' B' nu' U' np' P' nf' F' nx' kp' pa' zs' sv' lr' le' ln' ch' rq' V' G' A' S' ke') : ∃ (H2 : XH) (m6 m7 : Value), LRx H2 ∧ Fn H H2 ∧ ∀ Q, EvQ 13 m_L_law 172 [.ref 2000000, .ref 0, .ref 109, .ref 117, .ref 118, .int (iI i), l6, l7, xjunk] [] H Q = EvQ 13 m_L_law 28 [.ref 2000000, .ref 0, .ref 109, .ref 117, .ref 118, .int (iI (i + 6)), m6, m7, xjunk] [] H2 Q := by
  have M1 : MWo (hexc K) G A kp S (iI sv) tw ke le ch ln ab pt rm en aa iw kd n1 n2 n3 n4 gd := mo_exc (mo_hf M FK)
  have C1 : CW (hexc K) dy' nb' B' nu' U' np' P' nf' F' nx' kp' pa' zr0' zs' sv' lr' le' ln' ps' ch' rq' V' := st_exc CK
  have hH := lx_addBuilding_0 C.2.1 hC
  obtain ⟨fs1, h9⟩ := mo_h9 M1
  have M2 : MWo (wm (hexc K) G' A' kp' S' (iI sv') 1 ke' le' ch' ln' ab' pt' rm' en' aa' iw' kd' n1' n2' n3' n4' gd') G' A' kp' S' (iI sv') 1 ke' le' ch' ln' ab' pt' rm' en' aa' iw' kd' n1' n2' n3' n4' gd' := MWo_wm
  obtain ⟨fs2, h9'⟩ := mo_h9 M2
  have hM' : ∀ Q, Call 12 m_X8_addBuilding [.ref 109, .int (iI x1)] (hexc K) Q = Q (.inl (some (.int (iI b)))) (wm (hexc K) G' A' kp' S' (iI sv') 1 ke' le' ch' ln' ab' pt' rm' en' aa' iw' kd' n1' n2' n3' n4' gd') := fun Q => by
    have := hM Q
    rw [show wm (hexc K) G A kp S (iI sv) tw ke le ch ln ab pt rm en aa iw kd n1 n2 n3 n4 gd = hexc K from M1] at this
    exact this
  have k2 := FK.2
  have e1' : (hexc K).2.2.2.2 = H.2.2.2.2 := by rw [← k2]; rfl
  have e2' : (hexc K).2.2.1 = H.2.2.1 + 1 := by rw [← k2]; rfl
  have e3' : (hexc K).2.2.2.1 = H.2.2.2.1 + 6 := by rw [← k2]; rfl
  refine ⟨wm (hexc K) G' A' kp' S' (iI sv') 1 ke' le' ch' ln' ab' pt' rm' en' aa' iw' kd' n1' n2' n3' n4' gd', .int (iI 1), .int (iI b), LRx_mk (st_wm C1) M2 (g := g) (g2 := g2) (by rw [xmm_n (by omega), hexc_get, FK.1 117 (by omega)]; exact h1) (by rw [xmm_n (by omega), hexc_get, FK.1 118 (by omega)]; exact h2) L, ⟨e1', ?_, ?_⟩, fun Q => lc_addBuilding (g := g) hL e1 hH e1' h9 hM' h9' (fun Q => mo_tw Q) (Or.inr (by omega))⟩
  · show (hexc K).2.2.1 ≤ _
    omega
  · show (hexc K).2.2.2.1 ≤ _
    omega
theorem fx_addBuilding_1 (C : CW H dy nb B nu U np P nf F nx kp pa zr0 zs sv lr le ln ps ch rq V) (M : MWo H G A kp S (iI sv) tw ke le ch ln ab pt rm en aa iw kd n1 n2 n3 n4 gd) (h1 : hget H 117 = some (ola g)) (h2 : hget H 118 = some (oda g2)) (hL : 0 ≤ i ∧ i + 6 ≤ (H.2.2.2.2.1 : Int) ∧ H.2.2.2.2.1 < 1000000) (e1 : H.2.2.2.2.2 (iI (i + 1)).toNatClampNeg = iI x1) (hC : ∀ Q, Call 11 m_X7_addBuilding [.ref 0, .int (iI x1)] H Q = Q (.inr 1) (hexc K)) (CK : CW K dy' nb' B' nu' U' np' P' nf' F' nx' kp' pa' zr0' zs' sv' lr' le' ln' ps' ch' rq' V') (FK : HF H K) (hM : ∀ Q, Call 12 m_X8_addBuilding [.ref 109, .int (iI x1)] (wm (hexc K) G A kp S (iI sv) tw ke le ch ln ab pt rm en aa iw kd n1 n2 n3 n4 gd) Q = Q (.inl (some (.int (iI b)))) (wm (hexc K) G' A' kp' S' (iI sv') 2 ke' le' ch' ln' ab' pt' rm' en' aa' iw' kd' n1' n2' n3' n4' gd')) (L : LPx dy' nb' B' nu' U' np' P' nf' F' nx' kp' pa' zs' sv' lr' le' ln' ch' rq' V' G' A' S' ke') : ∃ (H2 : XH) (m6 m7 : Value), LRx H2 ∧ Fn H H2 ∧ ∀ Q, EvQ 13 m_L_law 172 [.ref 2000000, .ref 0, .ref 109, .ref 117, .ref 118, .int (iI i), l6, l7, xjunk] [] H Q = EvQ 13 m_L_law 28 [.ref 2000000, .ref 0, .ref 109, .ref 117, .ref 118, .int (iI (i + 6)), m6, m7, xjunk] [] H2 Q := by
  have M1 : MWo (hexc K) G A kp S (iI sv) tw ke le ch ln ab pt rm en aa iw kd n1 n2 n3 n4 gd := mo_exc (mo_hf M FK)
  have C1 : CW (hexc K) dy' nb' B' nu' U' np' P' nf' F' nx' kp' pa' zr0' zs' sv' lr' le' ln' ps' ch' rq' V' := st_exc CK
  have hH := lx_addBuilding_1 C.2.1 hC
  obtain ⟨fs1, h9⟩ := mo_h9 M1
  have M2 : MWo (wm (hexc K) G' A' kp' S' (iI sv') 2 ke' le' ch' ln' ab' pt' rm' en' aa' iw' kd' n1' n2' n3' n4' gd') G' A' kp' S' (iI sv') 2 ke' le' ch' ln' ab' pt' rm' en' aa' iw' kd' n1' n2' n3' n4' gd' := MWo_wm
  obtain ⟨fs2, h9'⟩ := mo_h9 M2
  have hM' : ∀ Q, Call 12 m_X8_addBuilding [.ref 109, .int (iI x1)] (hexc K) Q = Q (.inl (some (.int (iI b)))) (wm (hexc K) G' A' kp' S' (iI sv') 2 ke' le' ch' ln' ab' pt' rm' en' aa' iw' kd' n1' n2' n3' n4' gd') := fun Q => by
    have := hM Q
    rw [show wm (hexc K) G A kp S (iI sv) tw ke le ch ln ab pt rm en aa iw kd n1 n2 n3 n4 gd = hexc K from M1] at this
    exact this
  have k2 := FK.2
  have e1' : (hexc K).2.2.2.2 = H.2.2.2.2 := by rw [← k2]; rfl
  have e2' : (hexc K).2.2.1 = H.2.2.1 + 1 := by rw [← k2]; rfl
  have e3' : (hexc K).2.2.2.1 = H.2.2.2.1 + 6 := by rw [← k2]; rfl
  refine ⟨wm (hexc K) G' A' kp' S' (iI sv') 2 ke' le' ch' ln' ab' pt' rm' en' aa' iw' kd' n1' n2' n3' n4' gd', .int (iI 2), .int (iI b), LRx_mk (st_wm C1) M2 (g := g) (g2 := g2) (by rw [xmm_n (by omega), hexc_get, FK.1 117 (by omega)]; exact h1) (by rw [xmm_n (by omega), hexc_get, FK.1 118 (by omega)]; exact h2) L, ⟨e1', ?_, ?_⟩, fun Q => lc_addBuilding (g := g) hL e1 hH e1' h9 hM' h9' (fun Q => mo_tw Q) (Or.inr (by omega))⟩
  · show (hexc K).2.2.1 ≤ _
    omega
  · show (hexc K).2.2.2.1 ≤ _
    omega
theorem fv_building (C : CW H dy nb B nu U np P nf F nx kp pa zr0 zs sv lr le ln ps ch rq V) (M : MWo H G A kp S (iI sv) tw ke le ch ln ab pt rm en aa iw kd n1 n2 n3 n4 gd) (h1 : hget H 117 = some (ola g)) (h2 : hget H 118 = some (oda g2)) (hL : 0 ≤ i ∧ i + 6 ≤ (H.2.2.2.2.1 : Int) ∧ H.2.2.2.2.1 < 1000000) (e1 : H.2.2.2.2.2 (iI (i + 1)).toNatClampNeg = iI x1) (e2 : H.2.2.2.2.2 (iI (i + 2)).toNatClampNeg = iI x2) (hC : ∀ Q, Call 11 m_X7_building [.ref 0, .int (iI x1), .int (iI x2)] H Q = Q (.inl (some (.int (iI v)))) K) (CK : CW K dy' nb' B' nu' U' np' P' nf' F' nx' kp' pa' zr0' zs' sv' lr' le' ln' ps' ch' rq' V') (FK : HF H K) (hX : X = hset K 117 (ola (vp_updL g (iI 0).toNatClampNeg (iI v).toInt64))) (hM : ∀ Q, Call 12 m_X8_building [.ref 109, .int (iI x1), .int (iI x2)] (wm X G A kp S (iI sv) tw ke le ch ln ab pt rm en aa iw kd n1 n2 n3 n4 gd) Q = Q (.inl (some (.int (iI v)))) (wm X G' A' kp' S' (iI sv') 0 ke' le' ch' ln' ab' pt' rm' en' aa' iw' kd' n1' n2' n3' n4' gd')) (L : LPx dy' nb' B' nu' U' np' P' nf' F' nx' kp' pa' zs' sv' lr' le' ln' ch' rq' V' G' A' S' ke') : ∃ (H2 : XH) (m6 m7 : Value), LRx H2 ∧ Fn H H2 ∧ ∀ Q, EvQ 13 m_L_law 228 [.ref 2000000, .ref 0, .ref 109, .ref 117, .ref 118, .int (iI i), l6, l7, xjunk] [] H Q = EvQ 13 m_L_law 28 [.ref 2000000, .ref 0, .ref 109, .ref 117, .ref 118, .int (iI (i + 6)), m6, m7, xjunk] [] H2 Q := by
  have hK : hget K 117 = some (ola g) := by rw [FK.1 117 (by omega)]; exact h1
  have M1 : MWo X G A kp S (iI sv) tw ke le ch ln ab pt rm en aa iw kd n1 n2 n3 n4 gd := by rw [hX]; exact mo_out (mo_hf M FK)
  have C1 : CW X dy' nb' B' nu' U' np' P' nf' F' nx' kp' pa' zr0' zs' sv' lr' le' ln' ps' ch' rq' V' := by rw [hX]; exact st_out CK
  have hH := lo_building C.2.1 hK hC
  rw [← hX] at hH
  obtain ⟨fs1, h9⟩ := mo_h9 M1
  have M2 : MWo (wm X G' A' kp' S' (iI sv') 0 ke' le' ch' ln' ab' pt' rm' en' aa' iw' kd' n1' n2' n3' n4' gd') G' A' kp' S' (iI sv') 0 ke' le' ch' ln' ab' pt' rm' en' aa' iw' kd' n1' n2' n3' n4' gd' := MWo_wm
  obtain ⟨fs2, h9'⟩ := mo_h9 M2
  have hM' : ∀ Q, Call 12 m_X8_building [.ref 109, .int (iI x1), .int (iI x2)] X Q = Q (.inl (some (.int (iI v)))) (wm X G' A' kp' S' (iI sv') 0 ke' le' ch' ln' ab' pt' rm' en' aa' iw' kd' n1' n2' n3' n4' gd') := fun Q => by
    have := hM Q
    rw [show wm X G A kp S (iI sv) tw ke le ch ln ab pt rm en aa iw kd n1 n2 n3 n4 gd = X from M1] at this
    exact this
  have e1' : X.2 = H.2 := by rw [hX]; exact FK.2
  have e2' : (wm X G' A' kp' S' (iI sv') 0 ke' le' ch' ln' ab' pt' rm' en' aa' iw' kd' n1' n2' n3' n4' gd').2 = H.2 := e1'
  exact ⟨wm X G' A' kp' S' (iI sv') 0 ke' le' ch' ln' ab' pt' rm' en' aa' iw' kd' n1' n2' n3' n4' gd', .int (iI 0), .int (iI v), LRx_mk (st_wm C1) M2 (g := vp_updL g (iI 0).toNatClampNeg (iI v).toInt64) (g2 := g2) (by rw [xmm_n (by omega), hX, hget_set]) (by rw [xmm_n (by omega), hX, hget_ne (by omega), FK.1 118 (by omega)]; exact h2) L, ⟨by rw [e2'], by rw [e2']; omega, by rw [e2']; omega⟩, fun Q => lc_building hL e1 e2 hH (by rw [e1']) h9 hM' h9' (fun Q => mo_tw Q) (Or.inl ⟨rfl, by rw [xmm_n (by omega), hX, hget_set], updL_at⟩)⟩
theorem fx_building_2 (C : CW H dy nb B nu U np P nf F nx kp pa zr0 zs sv lr le ln ps ch rq V) (M : MWo H G A kp S (iI sv) tw ke le ch ln ab pt rm en aa iw kd n1 n2 n3 n4 gd) (h1 : hget H 117 = some (ola g)) (h2 : hget H 118 = some (oda g2)) (hL : 0 ≤ i ∧ i + 6 ≤ (H.2.2.2.2.1 : Int) ∧ H.2.2.2.2.1 < 1000000) (e1 : H.2.2.2.2.2 (iI (i + 1)).toNatClampNeg = iI x1) (e2 : H.2.2.2.2.2 (iI (i + 2)).toNatClampNeg = iI x2) (hC : ∀ Q, Call 11 m_X7_building [.ref 0, .int (iI x1), .int (iI x2)] H Q = Q (.inr 2) (hexc K)) (CK : CW K dy' nb' B' nu' U' np' P' nf' F' nx' kp' pa' zr0' zs' sv' lr' le' ln' ps' ch' rq' V') (FK : HF H K) (hM : ∀ Q, Call 12 m_X8_building [.ref 109, .int (iI x1), .int (iI x2)] (wm (hexc K) G A kp S (iI sv) tw ke le ch ln ab pt rm en aa iw kd n1 n2 n3 n4 gd) Q = Q (.inl (some (.int (iI b)))) (wm (hexc K) G' A' kp' S' (iI sv') 1 ke' le' ch' ln' ab' pt' rm' en' aa' iw' kd' n1' n2' n3' n4' gd')) (L : LPx dy' nb' B' nu' U' np' P' nf' F' nx' kp' pa' zs' sv' lr' le' ln' ch' rq' V' G' A' S' ke') : ∃ (H2 : XH) (m6 m7 : Value), LRx H2 ∧ Fn H H2 ∧ ∀ Q, EvQ 13 m_L_law 228 [.ref 2000000, .ref 0, .ref 109, .ref 117, .ref 118, .int (iI i), l6, l7, xjunk] [] H Q = EvQ 13 m_L_law 28 [.ref 2000000, .ref 0, .ref 109, .ref 117, .ref 118, .int (iI (i + 6)), m6, m7, xjunk] [] H2 Q := by
  have M1 : MWo (hexc K) G A kp S (iI sv) tw ke le ch ln ab pt rm en aa iw kd n1 n2 n3 n4 gd := mo_exc (mo_hf M FK)
  have C1 : CW (hexc K) dy' nb' B' nu' U' np' P' nf' F' nx' kp' pa' zr0' zs' sv' lr' le' ln' ps' ch' rq' V' := st_exc CK
  have hH := lx_building_2 C.2.1 hC
  obtain ⟨fs1, h9⟩ := mo_h9 M1
  have M2 : MWo (wm (hexc K) G' A' kp' S' (iI sv') 1 ke' le' ch' ln' ab' pt' rm' en' aa' iw' kd' n1' n2' n3' n4' gd') G' A' kp' S' (iI sv') 1 ke' le' ch' ln' ab' pt' rm' en' aa' iw' kd' n1' n2' n3' n4' gd' := MWo_wm
  obtain ⟨fs2, h9'⟩ := mo_h9 M2
  have hM' : ∀ Q, Call 12 m_X8_building [.ref 109, .int (iI x1), .int (iI x2)] (hexc K) Q = Q (.inl (some (.int (iI b)))) (wm (hexc K) G' A' kp' S' (iI sv') 1 ke' le' ch' ln' ab' pt' rm' en' aa' iw' kd' n1' n2' n3' n4' gd') := fun Q => by
    have := hM Q
    rw [show wm (hexc K) G A kp S (iI sv) tw ke le ch ln ab pt rm en aa iw kd n1 n2 n3 n4 gd = hexc K from M1] at this
    exact this
  have k2 := FK.2
  have e1' : (hexc K).2.2.2.2 = H.2.2.2.2 := by rw [← k2]; rfl
  have e2' : (hexc K).2.2.1 = H.2.2.1 + 1 := by rw [← k2]; rfl
  have e3' : (hexc K).2.2.2.1 = H.2.2.2.1 + 6 := by rw [← k2]; rfl
  refine ⟨wm (hexc K) G' A' kp' S' (iI sv') 1 ke' le' ch' ln' ab' pt' rm' en' aa' iw' kd' n1' n2' n3' n4' gd', .int (iI 1), .int (iI b), LRx_mk (st_wm C1) M2 (g := g) (g2 := g2) (by rw [xmm_n (by omega), hexc_get, FK.1 117 (by omega)]; exact h1) (by rw [xmm_n (by omega), hexc_get, FK.1 118 (by omega)]; exact h2) L, ⟨e1', ?_, ?_⟩, fun Q => lc_building (g := g) hL e1 e2 hH e1' h9 hM' h9' (fun Q => mo_tw Q) (Or.inr (by omega))⟩
  · show (hexc K).2.2.1 ≤ _
    omega
  · show (hexc K).2.2.2.1 ≤ _
    omega
theorem fx_building_0 (C : CW H dy nb B nu U np P nf F nx kp pa zr0 zs sv lr le ln ps ch rq V) (M : MWo H G A kp S (iI sv) tw ke le ch ln ab pt rm en aa iw kd n1 n2 n3 n4 gd) (h1 : hget H 117 = some (ola g)) (h2 : hget H 118 = some (oda g2)) (hL : 0 ≤ i ∧ i + 6 ≤ (H.2.2.2.2.1 : Int) ∧ H.2.2.2.2.1 < 1000000) (e1 : H.2.2.2.2.2 (iI (i + 1)).toNatClampNeg = iI x1) (e2 : H.2.2.2.2.2 (iI (i + 2)).toNatClampNeg = iI x2) (hC : ∀ Q, Call 11 m_X7_building [.ref 0, .int (iI x1), .int (iI x2)] H Q = Q (.inr 0) (hexc K)) (CK : CW K dy' nb' B' nu' U' np' P' nf' F' nx' kp' pa' zr0' zs' sv' lr' le' ln' ps' ch' rq' V') (FK : HF H K) (hM : ∀ Q, Call 12 m_X8_building [.ref 109, .int (iI x1), .int (iI x2)] (wm (hexc K) G A kp S (iI sv) tw ke le ch ln ab pt rm en aa iw kd n1 n2 n3 n4 gd) Q = Q (.inl (some (.int (iI b)))) (wm (hexc K) G' A' kp' S' (iI sv') 2 ke' le' ch' ln' ab' pt' rm' en' aa' iw' kd' n1' n2' n3' n4' gd')) (L : LPx dy' nb' B' nu' U' np' P' nf' F' nx' kp' pa' zs' sv' lr' le' ln' ch' rq' V' G' A' S' ke') : ∃ (H2 : XH) (m6 m7 : Value), LRx H2 ∧ Fn H H2 ∧ ∀ Q, EvQ 13 m_L_law 228 [.ref 2000000, .ref 0, .ref 109, .ref 117, .ref 118, .int (iI i), l6, l7, xjunk] [] H Q = EvQ 13 m_L_law 28 [.ref 2000000, .ref 0, .ref 109, .ref 117, .ref 118, .int (iI (i + 6)), m6, m7, xjunk] [] H2 Q := by
  have M1 : MWo (hexc K) G A kp S (iI sv) tw ke le ch ln ab pt rm en aa iw kd n1 n2 n3 n4 gd := mo_exc (mo_hf M FK)
  have C1 : CW (hexc K) dy' nb' B' nu' U' np' P' nf' F' nx' kp' pa' zr0' zs' sv' lr' le' ln' ps' ch' rq' V' := st_exc CK
  have hH := lx_building_0 C.2.1 hC
  obtain ⟨fs1, h9⟩ := mo_h9 M1
  have M2 : MWo (wm (hexc K) G' A' kp' S' (iI sv') 2 ke' le' ch' ln' ab' pt' rm' en' aa' iw' kd' n1' n2' n3' n4' gd') G' A' kp' S' (iI sv') 2 ke' le' ch' ln' ab' pt' rm' en' aa' iw' kd' n1' n2' n3' n4' gd' := MWo_wm
  obtain ⟨fs2, h9'⟩ := mo_h9 M2
  have hM' : ∀ Q, Call 12 m_X8_building [.ref 109, .int (iI x1), .int (iI x2)] (hexc K) Q = Q (.inl (some (.int (iI b)))) (wm (hexc K) G' A' kp' S' (iI sv') 2 ke' le' ch' ln' ab' pt' rm' en' aa' iw' kd' n1' n2' n3' n4' gd') := fun Q => by
    have := hM Q
    rw [show wm (hexc K) G A kp S (iI sv) tw ke le ch ln ab pt rm en aa iw kd n1 n2 n3 n4 gd = hexc K from M1] at this
    exact this
  have k2 := FK.2
  have e1' : (hexc K).2.2.2.2 = H.2.2.2.2 := by rw [← k2]; rfl
  have e2' : (hexc K).2.2.1 = H.2.2.1 + 1 := by rw [← k2]; rfl
  have e3' : (hexc K).2.2.2.1 = H.2.2.2.1 + 6 := by rw [← k2]; rfl
  refine ⟨wm (hexc K) G' A' kp' S' (iI sv') 2 ke' le' ch' ln' ab' pt' rm' en' aa' iw' kd' n1' n2' n3' n4' gd', .int (iI 2), .int (iI b), LRx_mk (st_wm C1) M2 (g := g) (g2 := g2) (by rw [xmm_n (by omega), hexc_get, FK.1 117 (by omega)]; exact h1) (by rw [xmm_n (by omega), hexc_get, FK.1 118 (by omega)]; exact h2) L, ⟨e1', ?_, ?_⟩, fun Q => lc_building (g := g) hL e1 e2 hH e1' h9 hM' h9' (fun Q => mo_tw Q) (Or.inr (by omega))⟩
  · show (hexc K).2.2.1 ≤ _
    omega
  · show (hexc K).2.2.2.1 ≤ _
    omega
theorem fv_floor (C : CW H dy nb B nu U np P nf F nx kp pa zr0 zs sv lr le ln ps ch rq V) (M : MWo H G A kp S (iI sv) tw ke le ch ln ab pt rm en aa iw kd n1 n2 n3 n4 gd) (h1 : hget H 117 = some (ola g)) (h2 : hget H 118 = some (oda g2)) (hL : 0 ≤ i ∧ i + 6 ≤ (H.2.2.2.2.1 : Int) ∧ H.2.2.2.2.1 < 1000000) (e1 : H.2.2.2.2.2 (iI (i + 1)).toNatClampNeg = iI x1) (e2 : H.2.2.2.2.2 (iI (i + 2)).toNatClampNeg = iI x2) (e3 : H.2.2.2.2.2 (iI (i + 3)).toNatClampNeg = iI x3) (hC : ∀ Q, Call 11 m_X7_floor [.ref 0, .int (iI x1), .int (iI x2), .int (iI x3)] H Q = Q (.inl (some (.int (iI v)))) K) (CK : CW K dy' nb' B' nu' U' np' P' nf' F' nx' kp' pa' zr0' zs' sv' lr' le' ln' ps' ch' rq' V') (FK : HF H K) (hX : X = hset K 117 (ola (vp_updL g (iI 0).toNatClampNeg (iI v).toInt64))) (hM : ∀ Q, Call 12 m_X8_floor [.ref 109, .int (iI x1), .int (iI x2), .int (iI x3)] (wm X G A kp S (iI sv) tw ke le ch ln ab pt rm en aa iw kd n1 n2 n3 n4 gd) Q = Q (.inl (some (.int (iI v)))) (wm X G' A' kp' S' (iI sv') 0 ke' le' ch' ln' ab' pt' rm' en' aa' iw' kd' n1' n2' n3' n4' gd')) (L : LPx dy' nb' B' nu' U' np' P' nf' F' nx' kp' pa' zs' sv' lr' le' ln' ch' rq' V' G' A' S' ke') : ∃ (H2 : XH) (m6 m7 : Value), LRx H2 ∧ Fn H H2 ∧ ∀ Q, EvQ 13 m_L_law 296 [.ref 2000000, .ref 0, .ref 109, .ref 117, .ref 118, .int (iI i), l6, l7, xjunk] [] H Q = EvQ 13 m_L_law 28 [.ref 2000000, .ref 0, .ref 109, .ref 117, .ref 118, .int (iI (i + 6)), m6, m7, xjunk] [] H2 Q := by
  have hK : hget K 117 = some (ola g) := by rw [FK.1 117 (by omega)]; exact h1
  have M1 : MWo X G A kp S (iI sv) tw ke le ch ln ab pt rm en aa iw kd n1 n2 n3 n4 gd := by rw [hX]; exact mo_out (mo_hf M FK)
  have C1 : CW X dy' nb' B' nu' U' np' P' nf' F' nx' kp' pa' zr0' zs' sv' lr' le' ln' ps' ch' rq' V' := by rw [hX]; exact st_out CK
  have hH := lo_floor C.2.1 hK hC
  rw [← hX] at hH
  obtain ⟨fs1, h9⟩ := mo_h9 M1
  have M2 : MWo (wm X G' A' kp' S' (iI sv') 0 ke' le' ch' ln' ab' pt' rm' en' aa' iw' kd' n1' n2' n3' n4' gd') G' A' kp' S' (iI sv') 0 ke' le' ch' ln' ab' pt' rm' en' aa' iw' kd' n1' n2' n3' n4' gd' := MWo_wm
  obtain ⟨fs2, h9'⟩ := mo_h9 M2
  have hM' : ∀ Q, Call 12 m_X8_floor [.ref 109, .int (iI x1), .int (iI x2), .int (iI x3)] X Q = Q (.inl (some (.int (iI v)))) (wm X G' A' kp' S' (iI sv') 0 ke' le' ch' ln' ab' pt' rm' en' aa' iw' kd' n1' n2' n3' n4' gd') := fun Q => by
    have := hM Q
    rw [show wm X G A kp S (iI sv) tw ke le ch ln ab pt rm en aa iw kd n1 n2 n3 n4 gd = X from M1] at this
    exact this
  have e1' : X.2 = H.2 := by rw [hX]; exact FK.2
  have e2' : (wm X G' A' kp' S' (iI sv') 0 ke' le' ch' ln' ab' pt' rm' en' aa' iw' kd' n1' n2' n3' n4' gd').2 = H.2 := e1'
  exact ⟨wm X G' A' kp' S' (iI sv') 0 ke' le' ch' ln' ab' pt' rm' en' aa' iw' kd' n1' n2' n3' n4' gd', .int (iI 0), .int (iI v), LRx_mk (st_wm C1) M2 (g := vp_updL g (iI 0).toNatClampNeg (iI v).toInt64) (g2 := g2) (by rw [xmm_n (by omega), hX, hget_set]) (by rw [xmm_n (by omega), hX, hget_ne (by omega), FK.1 118 (by omega)]; exact h2) L, ⟨by rw [e2'], by rw [e2']; omega, by rw [e2']; omega⟩, fun Q => lc_floor hL e1 e2 e3 hH (by rw [e1']) h9 hM' h9' (fun Q => mo_tw Q) (Or.inl ⟨rfl, by rw [xmm_n (by omega), hX, hget_set], updL_at⟩)⟩
theorem fx_floor_2 (C : CW H dy nb B nu U np P nf F nx kp pa zr0 zs sv lr le ln ps ch rq V) (M : MWo H G A kp S (iI sv) tw ke le ch ln ab pt rm en aa iw kd n1 n2 n3 n4 gd) (h1 : hget H 117 = some (ola g)) (h2 : hget H 118 = some (oda g2)) (hL : 0 ≤ i ∧ i + 6 ≤ (H.2.2.2.2.1 : Int) ∧ H.2.2.2.2.1 < 1000000) (e1 : H.2.2.2.2.2 (iI (i + 1)).toNatClampNeg = iI x1) (e2 : H.2.2.2.2.2 (iI (i + 2)).toNatClampNeg = iI x2) (e3 : H.2.2.2.2.2 (iI (i + 3)).toNatClampNeg = iI x3) (hC : ∀ Q, Call 11 m_X7_floor [.ref 0, .int (iI x1), .int (iI x2), .int (iI x3)] H Q = Q (.inr 2) (hexc K)) (CK : CW K dy' nb' B' nu' U' np' P' nf' F' nx' kp' pa' zr0' zs' sv' lr' le' ln' ps' ch' rq' V') (FK : HF H K) (hM : ∀ Q, Call 12 m_X8_floor [.ref 109, .int (iI x1), .int (iI x2), .int (iI x3)] (wm (hexc K) G A kp S (iI sv) tw ke le ch ln ab pt rm en aa iw kd n1 n2 n3 n4 gd) Q = Q (.inl (some (.int (iI b)))) (wm (hexc K) G' A' kp' S' (iI sv') 1 ke' le' ch' ln' ab' pt' rm' en' aa' iw' kd' n1' n2' n3' n4' gd')) (L : LPx dy' nb' B' nu' U' np' P' nf' F' nx' kp' pa' zs' sv' lr' le' ln' ch' rq' V' G' A' S' ke') : ∃ (H2 : XH) (m6 m7 : Value), LRx H2 ∧ Fn H H2 ∧ ∀ Q, EvQ 13 m_L_law 296 [.ref 2000000, .ref 0, .ref 109, .ref 117, .ref 118, .int (iI i), l6, l7, xjunk] [] H Q = EvQ 13 m_L_law 28 [.ref 2000000, .ref 0, .ref 109, .ref 117, .ref 118, .int (iI (i + 6)), m6, m7, xjunk] [] H2 Q := by
  have M1 : MWo (hexc K) G A kp S (iI sv) tw ke le ch ln ab pt rm en aa iw kd n1 n2 n3 n4 gd := mo_exc (mo_hf M FK)
  have C1 : CW (hexc K) dy' nb' B' nu' U' np' P' nf' F' nx' kp' pa' zr0' zs' sv' lr' le' ln' ps' ch' rq' V' := st_exc CK
  have hH := lx_floor_2 C.2.1 hC
  obtain ⟨fs1, h9⟩ := mo_h9 M1
  have M2 : MWo (wm (hexc K) G' A' kp' S' (iI sv') 1 ke' le' ch' ln' ab' pt' rm' en' aa' iw' kd' n1' n2' n3' n4' gd') G' A' kp' S' (iI sv') 1 ke' le' ch' ln' ab' pt' rm' en' aa' iw' kd' n1' n2' n3' n4' gd' := MWo_wm
  obtain ⟨fs2, h9'⟩ := mo_h9 M2
  have hM' : ∀ Q, Call 12 m_X8_floor [.ref 109, .int (iI x1), .int (iI x2), .int (iI x3)] (hexc K) Q = Q (.inl (some (.int (iI b)))) (wm (hexc K) G' A' kp' S' (iI sv') 1 ke' le' ch' ln' ab' pt' rm' en' aa' iw' kd' n1' n2' n3' n4' gd') := fun Q => by
    have := hM Q
    rw [show wm (hexc K) G A kp S (iI sv) tw ke le ch ln ab pt rm en aa iw kd n1 n2 n3 n4 gd = hexc K from M1] at this
    exact this
  have k2 := FK.2
  have e1' : (hexc K).2.2.2.2 = H.2.2.2.2 := by rw [← k2]; rfl
  have e2' : (hexc K).2.2.1 = H.2.2.1 + 1 := by rw [← k2]; rfl
  have e3' : (hexc K).2.2.2.1 = H.2.2.2.1 + 6 := by rw [← k2]; rfl
  refine ⟨wm (hexc K) G' A' kp' S' (iI sv') 1 ke' le' ch' ln' ab' pt' rm' en' aa' iw' kd' n1' n2' n3' n4' gd', .int (iI 1), .int (iI b), LRx_mk (st_wm C1) M2 (g := g) (g2 := g2) (by rw [xmm_n (by omega), hexc_get, FK.1 117 (by omega)]; exact h1) (by rw [xmm_n (by omega), hexc_get, FK.1 118 (by omega)]; exact h2) L, ⟨e1', ?_, ?_⟩, fun Q => lc_floor (g := g) hL e1 e2 e3 hH e1' h9 hM' h9' (fun Q => mo_tw Q) (Or.inr (by omega))⟩
  · show (hexc K).2.2.1 ≤ _
    omega
  · show (hexc K).2.2.2.1 ≤ _
    omega
theorem fx_floor_0 (C : CW H dy nb B nu U np P nf F nx kp pa zr0 zs sv lr le ln ps ch rq V) (M : MWo H G A kp S (iI sv) tw ke le ch ln ab pt rm en aa iw kd n1 n2 n3 n4 gd) (h1 : hget H 117 = some (ola g)) (h2 : hget H 118 = some (oda g2)) (hL : 0 ≤ i ∧ i + 6 ≤ (H.2.2.2.2.1 : Int) ∧ H.2.2.2.2.1 < 1000000) (e1 : H.2.2.2.2.2 (iI (i + 1)).toNatClampNeg = iI x1) (e2 : H.2.2.2.2.2 (iI (i + 2)).toNatClampNeg = iI x2) (e3 : H.2.2.2.2.2 (iI (i + 3)).toNatClampNeg = iI x3) (hC : ∀ Q, Call 11 m_X7_floor [.ref 0, .int (iI x1), .int (iI x2), .int (iI x3)] H Q = Q (.inr 0) (hexc K)) (CK : CW K dy' nb' B' nu' U' np' P' nf' F' nx' kp' pa' zr0' zs' sv' lr' le' ln' ps' ch' rq' V') (FK : HF H K) (hM : ∀ Q, Call 12 m_X8_floor [.ref 109, .int (iI x1), .int (iI x2), .int (iI x3)] (wm (hexc K) G A kp S (iI sv) tw ke le ch ln ab pt rm en aa iw kd n1 n2 n3 n4 gd) Q = Q (.inl (some (.int (iI b)))) (wm (hexc K) G' A' kp' S' (iI sv') 2 ke' le' ch' ln' ab' pt' rm' en' aa' iw' kd' n1' n2' n3' n4' gd')) (L : LPx dy' nb' B' nu' U' np' P' nf' F' nx' kp' pa' zs' sv' lr' le' ln' ch' rq' V' G' A' S' ke') : ∃ (H2 : XH) (m6 m7 : Value), LRx H2 ∧ Fn H H2 ∧ ∀ Q, EvQ 13 m_L_law 296 [.ref 2000000, .ref 0, .ref 109, .ref 117, .ref 118, .int (iI i), l6, l7, xjunk] [] H Q = EvQ 13 m_L_law 28 [.ref 2000000, .ref 0, .ref 109, .ref 117, .ref 118, .int (iI (i + 6)), m6, m7, xjunk] [] H2 Q := by
  have M1 : MWo (hexc K) G A kp S (iI sv) tw ke le ch ln ab pt rm en aa iw kd n1 n2 n3 n4 gd := mo_exc (mo_hf M FK)
  have C1 : CW (hexc K) dy' nb' B' nu' U' np' P' nf' F' nx' kp' pa' zr0' zs' sv' lr' le' ln' ps' ch' rq' V' := st_exc CK
  have hH := lx_floor_0 C.2.1 hC
  obtain ⟨fs1, h9⟩ := mo_h9 M1
  have M2 : MWo (wm (hexc K) G' A' kp' S' (iI sv') 2 ke' le' ch' ln' ab' pt' rm' en' aa' iw' kd' n1' n2' n3' n4' gd') G' A' kp' S' (iI sv') 2 ke' le' ch' ln' ab' pt' rm' en' aa' iw' kd' n1' n2' n3' n4' gd' := MWo_wm
  obtain ⟨fs2, h9'⟩ := mo_h9 M2
  have hM' : ∀ Q, Call 12 m_X8_floor [.ref 109, .int (iI x1), .int (iI x2), .int (iI x3)] (hexc K) Q = Q (.inl (some (.int (iI b)))) (wm (hexc K) G' A' kp' S' (iI sv') 2 ke' le' ch' ln' ab' pt' rm' en' aa' iw' kd' n1' n2' n3' n4' gd') := fun Q => by
    have := hM Q
    rw [show wm (hexc K) G A kp S (iI sv) tw ke le ch ln ab pt rm en aa iw kd n1 n2 n3 n4 gd = hexc K from M1] at this
    exact this
  have k2 := FK.2
  have e1' : (hexc K).2.2.2.2 = H.2.2.2.2 := by rw [← k2]; rfl
  have e2' : (hexc K).2.2.1 = H.2.2.1 + 1 := by rw [← k2]; rfl
  have e3' : (hexc K).2.2.2.1 = H.2.2.2.1 + 6 := by rw [← k2]; rfl
  refine ⟨wm (hexc K) G' A' kp' S' (iI sv') 2 ke' le' ch' ln' ab' pt' rm' en' aa' iw' kd' n1' n2' n3' n4' gd', .int (iI 2), .int (iI b), LRx_mk (st_wm C1) M2 (g := g) (g2 := g2) (by rw [xmm_n (by omega), hexc_get, FK.1 117 (by omega)]; exact h1) (by rw [xmm_n (by omega), hexc_get, FK.1 118 (by omega)]; exact h2) L, ⟨e1', ?_, ?_⟩, fun Q => lc_floor (g := g) hL e1 e2 e3 hH e1' h9 hM' h9' (fun Q => mo_tw Q) (Or.inr (by omega))⟩
  · show (hexc K).2.2.1 ≤ _
    omega
  · show (hexc K).2.2.2.1 ≤ _
    omega
theorem fv_unit (C : CW H dy nb B nu U np P nf F nx kp pa zr0 zs sv lr le ln ps ch rq V) (M : MWo H G A kp S (iI sv) tw ke le ch ln ab pt rm en aa iw kd n1 n2 n3 n4 gd) (h1 : hget H 117 = some (ola g)) (h2 : hget H 118 = some (oda g2)) (hL : 0 ≤ i ∧ i + 6 ≤ (H.2.2.2.2.1 : Int) ∧ H.2.2.2.2.1 < 1000000) (e1 : H.2.2.2.2.2 (iI (i + 1)).toNatClampNeg = iI x1) (e2 : H.2.2.2.2.2 (iI (i + 2)).toNatClampNeg = iI x2) (hC : ∀ Q, Call 11 m_X7_unit [.ref 0, .int (iI x1), .int (iI x2)] H Q = Q (.inl (some (.int (iI v)))) K) (CK : CW K dy' nb' B' nu' U' np' P' nf' F' nx' kp' pa' zr0' zs' sv' lr' le' ln' ps' ch' rq' V') (FK : HF H K) (hX : X = hset K 117 (ola (vp_updL g (iI 0).toNatClampNeg (iI v).toInt64))) (hM : ∀ Q, Call 12 m_X8_unit [.ref 109, .int (iI x1), .int (iI x2)] (wm X G A kp S (iI sv) tw ke le ch ln ab pt rm en aa iw kd n1 n2 n3 n4 gd) Q = Q (.inl (some (.int (iI v)))) (wm X G' A' kp' S' (iI sv') 0 ke' le' ch' ln' ab' pt' rm' en' aa' iw' kd' n1' n2' n3' n4' gd')) (L : LPx dy' nb' B' nu' U' np' P' nf' F' nx' kp' pa' zs' sv' lr' le' ln' ch' rq' V' G' A' S' ke') : ∃ (H2 : XH) (m6 m7 : Value), LRx H2 ∧ Fn H H2 ∧ ∀ Q, EvQ 13 m_L_law 376 [.ref 2000000, .ref 0, .ref 109, .ref 117, .ref 118, .int (iI i), l6, l7, xjunk] [] H Q = EvQ 13 m_L_law 28 [.ref 2000000, .ref 0, .ref 109, .ref 117, .ref 118, .int (iI (i + 6)), m6, m7, xjunk] [] H2 Q := by
  have hK : hget K 117 = some (ola g) := by rw [FK.1 117 (by omega)]; exact h1
  have M1 : MWo X G A kp S (iI sv) tw ke le ch ln ab pt rm en aa iw kd n1 n2 n3 n4 gd := by rw [hX]; exact mo_out (mo_hf M FK)
  have C1 : CW X dy' nb' B' nu' U' np' P' nf' F' nx' kp' pa' zr0' zs' sv' lr' le' ln' ps' ch' rq' V' := by rw [hX]; exact st_out CK
  have hH := lo_unit C.2.1 hK hC
  rw [← hX] at hH
  obtain ⟨fs1, h9⟩ := mo_h9 M1
  have M2 : MWo (wm X G' A' kp' S' (iI sv') 0 ke' le' ch' ln' ab' pt' rm' en' aa' iw' kd' n1' n2' n3' n4' gd') G' A' kp' S' (iI sv') 0 ke' le' ch' ln' ab' pt' rm' en' aa' iw' kd' n1' n2' n3' n4' gd' := MWo_wm
  obtain ⟨fs2, h9'⟩ := mo_h9 M2
  have hM' : ∀ Q, Call 12 m_X8_unit [.ref 109, .int (iI x1), .int (iI x2)] X Q = Q (.inl (some (.int (iI v)))) (wm X G' A' kp' S' (iI sv') 0 ke' le' ch' ln' ab' pt' rm' en' aa' iw' kd' n1' n2' n3' n4' gd') := fun Q => by
    have := hM Q
    rw [show wm X G A kp S (iI sv) tw ke le ch ln ab pt rm en aa iw kd n1 n2 n3 n4 gd = X from M1] at this
    exact this
  have e1' : X.2 = H.2 := by rw [hX]; exact FK.2
  have e2' : (wm X G' A' kp' S' (iI sv') 0 ke' le' ch' ln' ab' pt' rm' en' aa' iw' kd' n1' n2' n3' n4' gd').2 = H.2 := e1'
  exact ⟨wm X G' A' kp' S' (iI sv') 0 ke' le' ch' ln' ab' pt' rm' en' aa' iw' kd' n1' n2' n3' n4' gd', .int (iI 0), .int (iI v), LRx_mk (st_wm C1) M2 (g := vp_updL g (iI 0).toNatClampNeg (iI v).toInt64) (g2 := g2) (by rw [xmm_n (by omega), hX, hget_set]) (by rw [xmm_n (by omega), hX, hget_ne (by omega), FK.1 118 (by omega)]; exact h2) L, ⟨by rw [e2'], by rw [e2']; omega, by rw [e2']; omega⟩, fun Q => lc_unit hL e1 e2 hH (by rw [e1']) h9 hM' h9' (fun Q => mo_tw Q) (Or.inl ⟨rfl, by rw [xmm_n (by omega), hX, hget_set], updL_at⟩)⟩
theorem fx_unit_2 (C : CW H dy nb B nu U np P nf F nx kp pa zr0 zs sv lr le ln ps ch rq V) (M : MWo H G A kp S (iI sv) tw ke le ch ln ab pt rm en aa iw kd n1 n2 n3 n4 gd) (h1 : hget H 117 = some (ola g)) (h2 : hget H 118 = some (oda g2)) (hL : 0 ≤ i ∧ i + 6 ≤ (H.2.2.2.2.1 : Int) ∧ H.2.2.2.2.1 < 1000000) (e1 : H.2.2.2.2.2 (iI (i + 1)).toNatClampNeg = iI x1) (e2 : H.2.2.2.2.2 (iI (i + 2)).toNatClampNeg = iI x2) (hC : ∀ Q, Call 11 m_X7_unit [.ref 0, .int (iI x1), .int (iI x2)] H Q = Q (.inr 2) (hexc K)) (CK : CW K dy' nb' B' nu' U' np' P' nf' F' nx' kp' pa' zr0' zs' sv' lr' le' ln' ps' ch' rq' V') (FK : HF H K) (hM : ∀ Q, Call 12 m_X8_unit [.ref 109, .int (iI x1), .int (iI x2)] (wm (hexc K) G A kp S (iI sv) tw ke le ch ln ab pt rm en aa iw kd n1 n2 n3 n4 gd) Q = Q (.inl (some (.int (iI b)))) (wm (hexc K) G' A' kp' S' (iI sv') 1 ke' le' ch' ln' ab' pt' rm' en' aa' iw' kd' n1' n2' n3' n4' gd')) (L : LPx dy' nb' B' nu' U' np' P' nf' F' nx' kp' pa' zs' sv' lr' le' ln' ch' rq' V' G' A' S' ke') : ∃ (H2 : XH) (m6 m7 : Value), LRx H2 ∧ Fn H H2 ∧ ∀ Q, EvQ 13 m_L_law 376 [.ref 2000000, .ref 0, .ref 109, .ref 117, .ref 118, .int (iI i), l6, l7, xjunk] [] H Q = EvQ 13 m_L_law 28 [.ref 2000000, .ref 0, .ref 109, .ref 117, .ref 118, .int (iI (i + 6)), m6, m7, xjunk] [] H2 Q := by
  have M1 : MWo (hexc K) G A kp S (iI sv) tw ke le ch ln ab pt rm en aa iw kd n1 n2 n3 n4 gd := mo_exc (mo_hf M FK)
  have C1 : CW (hexc K) dy' nb' B' nu' U' np' P' nf' F' nx' kp' pa' zr0' zs' sv' lr' le' ln' ps' ch' rq' V' := st_exc CK
  have hH := lx_unit_2 C.2.1 hC
  obtain ⟨fs1, h9⟩ := mo_h9 M1
  have M2 : MWo (wm (hexc K) G' A' kp' S' (iI sv') 1 ke' le' ch' ln' ab' pt' rm' en' aa' iw' kd' n1' n2' n3' n4' gd') G' A' kp' S' (iI sv') 1 ke' le' ch' ln' ab' pt' rm' en' aa' iw' kd' n1' n2' n3' n4' gd' := MWo_wm
  obtain ⟨fs2, h9'⟩ := mo_h9 M2
  have hM' : ∀ Q, Call 12 m_X8_unit [.ref 109, .int (iI x1), .int (iI x2)] (hexc K) Q = Q (.inl (some (.int (iI b)))) (wm (hexc K) G' A' kp' S' (iI sv') 1 ke' le' ch' ln' ab' pt' rm' en' aa' iw' kd' n1' n2' n3' n4' gd') := fun Q => by
    have := hM Q
    rw [show wm (hexc K) G A kp S (iI sv) tw ke le ch ln ab pt rm en aa iw kd n1 n2 n3 n4 gd = hexc K from M1] at this
    exact this
  have k2 := FK.2
  have e1' : (hexc K).2.2.2.2 = H.2.2.2.2 := by rw [← k2]; rfl
  have e2' : (hexc K).2.2.1 = H.2.2.1 + 1 := by rw [← k2]; rfl
  have e3' : (hexc K).2.2.2.1 = H.2.2.2.1 + 6 := by rw [← k2]; rfl
  refine ⟨wm (hexc K) G' A' kp' S' (iI sv') 1 ke' le' ch' ln' ab' pt' rm' en' aa' iw' kd' n1' n2' n3' n4' gd', .int (iI 1), .int (iI b), LRx_mk (st_wm C1) M2 (g := g) (g2 := g2) (by rw [xmm_n (by omega), hexc_get, FK.1 117 (by omega)]; exact h1) (by rw [xmm_n (by omega), hexc_get, FK.1 118 (by omega)]; exact h2) L, ⟨e1', ?_, ?_⟩, fun Q => lc_unit (g := g) hL e1 e2 hH e1' h9 hM' h9' (fun Q => mo_tw Q) (Or.inr (by omega))⟩
  · show (hexc K).2.2.1 ≤ _
    omega
  · show (hexc K).2.2.2.1 ≤ _
    omega
theorem fx_unit_0 (C : CW H dy nb B nu U np P nf F nx kp pa zr0 zs sv lr le ln ps ch rq V) (M : MWo H G A kp S (iI sv) tw ke le ch ln ab pt rm en aa iw kd n1 n2 n3 n4 gd) (h1 : hget H 117 = some (ola g)) (h2 : hget H 118 = some (oda g2)) (hL : 0 ≤ i ∧ i + 6 ≤ (H.2.2.2.2.1 : Int) ∧ H.2.2.2.2.1 < 1000000) (e1 : H.2.2.2.2.2 (iI (i + 1)).toNatClampNeg = iI x1) (e2 : H.2.2.2.2.2 (iI (i + 2)).toNatClampNeg = iI x2) (hC : ∀ Q, Call 11 m_X7_unit [.ref 0, .int (iI x1), .int (iI x2)] H Q = Q (.inr 0) (hexc K)) (CK : CW K dy' nb' B' nu' U' np' P' nf' F' nx' kp' pa' zr0' zs' sv' lr' le' ln' ps' ch' rq' V') (FK : HF H K) (hM : ∀ Q, Call 12 m_X8_unit [.ref 109, .int (iI x1), .int (iI x2)] (wm (hexc K) G A kp S (iI sv) tw ke le ch ln ab pt rm en aa iw kd n1 n2 n3 n4 gd) Q = Q (.inl (some (.int (iI b)))) (wm (hexc K) G' A' kp' S' (iI sv') 2 ke' le' ch' ln' ab' pt' rm' en' aa' iw' kd' n1' n2' n3' n4' gd')) (L : LPx dy' nb' B' nu' U' np' P' nf' F' nx' kp' pa' zs' sv' lr' le' ln' ch' rq' V' G' A' S' ke') : ∃ (H2 : XH) (m6 m7 : Value), LRx H2 ∧ Fn H H2 ∧ ∀ Q, EvQ 13 m_L_law 376 [.ref 2000000, .ref 0, .ref 109, .ref 117, .ref 118, .int (iI i), l6, l7, xjunk] [] H Q = EvQ 13 m_L_law 28 [.ref 2000000, .ref 0, .ref 109, .ref 117, .ref 118, .int (iI (i + 6)), m6, m7, xjunk] [] H2 Q := by
  have M1 : MWo (hexc K) G A kp S (iI sv) tw ke le ch ln ab pt rm en aa iw kd n1 n2 n3 n4 gd := mo_exc (mo_hf M FK)
  have C1 : CW (hexc K) dy' nb' B' nu' U' np' P' nf' F' nx' kp' pa' zr0' zs' sv' lr' le' ln' ps' ch' rq' V' := st_exc CK
  have hH := lx_unit_0 C.2.1 hC
  obtain ⟨fs1, h9⟩ := mo_h9 M1
  have M2 : MWo (wm (hexc K) G' A' kp' S' (iI sv') 2 ke' le' ch' ln' ab' pt' rm' en' aa' iw' kd' n1' n2' n3' n4' gd') G' A' kp' S' (iI sv') 2 ke' le' ch' ln' ab' pt' rm' en' aa' iw' kd' n1' n2' n3' n4' gd' := MWo_wm
  obtain ⟨fs2, h9'⟩ := mo_h9 M2
  have hM' : ∀ Q, Call 12 m_X8_unit [.ref 109, .int (iI x1), .int (iI x2)] (hexc K) Q = Q (.inl (some (.int (iI b)))) (wm (hexc K) G' A' kp' S' (iI sv') 2 ke' le' ch' ln' ab' pt' rm' en' aa' iw' kd' n1' n2' n3' n4' gd') := fun Q => by
    have := hM Q
    rw [show wm (hexc K) G A kp S (iI sv) tw ke le ch ln ab pt rm en aa iw kd n1 n2 n3 n4 gd = hexc K from M1] at this
    exact this
  have k2 := FK.2
  have e1' : (hexc K).2.2.2.2 = H.2.2.2.2 := by rw [← k2]; rfl
  have e2' : (hexc K).2.2.1 = H.2.2.1 + 1 := by rw [← k2]; rfl
  have e3' : (hexc K).2.2.2.1 = H.2.2.2.1 + 6 := by rw [← k2]; rfl
  refine ⟨wm (hexc K) G' A' kp' S' (iI sv') 2 ke' le' ch' ln' ab' pt' rm' en' aa' iw' kd' n1' n2' n3' n4' gd', .int (iI 2), .int (iI b), LRx_mk (st_wm C1) M2 (g := g) (g2 := g2) (by rw [xmm_n (by omega), hexc_get, FK.1 117 (by omega)]; exact h1) (by rw [xmm_n (by omega), hexc_get, FK.1 118 (by omega)]; exact h2) L, ⟨e1', ?_, ?_⟩, fun Q => lc_unit (g := g) hL e1 e2 hH e1' h9 hM' h9' (fun Q => mo_tw Q) (Or.inr (by omega))⟩
  · show (hexc K).2.2.1 ≤ _
    omega
  · show (hexc K).2.2.2.1 ≤ _
    omega
theorem fv_parent (C : CW H dy nb B nu U np P nf F nx kp pa zr0 zs sv lr le ln ps ch rq V) (M : MWo H G A kp S (iI sv) tw ke le ch ln ab pt rm en aa iw kd n1 n2 n3 n4 gd) (h1 : hget H 117 = some (ola g)) (h2 : hget H 118 = some (oda g2)) (hL : 0 ≤ i ∧ i + 6 ≤ (H.2.2.2.2.1 : Int) ∧ H.2.2.2.2.1 < 1000000) (e1 : H.2.2.2.2.2 (iI (i + 1)).toNatClampNeg = iI x1) (e2 : H.2.2.2.2.2 (iI (i + 2)).toNatClampNeg = iI x2) (hC : ∀ Q, Call 11 m_X7_parent [.ref 0, .int (iI x1), .int (iI x2)] H Q = Q (.inl (some (.int (iI v)))) K) (CK : CW K dy' nb' B' nu' U' np' P' nf' F' nx' kp' pa' zr0' zs' sv' lr' le' ln' ps' ch' rq' V') (FK : HF H K) (hX : X = hset K 117 (ola (vp_updL g (iI 0).toNatClampNeg (iI v).toInt64))) (hM : ∀ Q, Call 12 m_X8_parent [.ref 109, .int (iI x1), .int (iI x2)] (wm X G A kp S (iI sv) tw ke le ch ln ab pt rm en aa iw kd n1 n2 n3 n4 gd) Q = Q (.inl (some (.int (iI v)))) (wm X G' A' kp' S' (iI sv') 0 ke' le' ch' ln' ab' pt' rm' en' aa' iw' kd' n1' n2' n3' n4' gd')) (L : LPx dy' nb' B' nu' U' np' P' nf' F' nx' kp' pa' zs' sv' lr' le' ln' ch' rq' V' G' A' S' ke') : ∃ (H2 : XH) (m6 m7 : Value), LRx H2 ∧ Fn H H2 ∧ ∀ Q, EvQ 13 m_L_law 444 [.ref 2000000, .ref 0, .ref 109, .ref 117, .ref 118, .int (iI i), l6, l7, xjunk] [] H Q = EvQ 13 m_L_law 28 [.ref 2000000, .ref 0, .ref 109, .ref 117, .ref 118, .int (iI (i + 6)), m6, m7, xjunk] [] H2 Q := by
  have hK : hget K 117 = some (ola g) := by rw [FK.1 117 (by omega)]; exact h1
  have M1 : MWo X G A kp S (iI sv) tw ke le ch ln ab pt rm en aa iw kd n1 n2 n3 n4 gd := by rw [hX]; exact mo_out (mo_hf M FK)
  have C1 : CW X dy' nb' B' nu' U' np' P' nf' F' nx' kp' pa' zr0' zs' sv' lr' le' ln' ps' ch' rq' V' := by rw [hX]; exact st_out CK
  have hH := lo_parent C.2.1 hK hC
  rw [← hX] at hH
  obtain ⟨fs1, h9⟩ := mo_h9 M1
  have M2 : MWo (wm X G' A' kp' S' (iI sv') 0 ke' le' ch' ln' ab' pt' rm' en' aa' iw' kd' n1' n2' n3' n4' gd') G' A' kp' S' (iI sv') 0 ke' le' ch' ln' ab' pt' rm' en' aa' iw' kd' n1' n2' n3' n4' gd' := MWo_wm
  obtain ⟨fs2, h9'⟩ := mo_h9 M2
  have hM' : ∀ Q, Call 12 m_X8_parent [.ref 109, .int (iI x1), .int (iI x2)] X Q = Q (.inl (some (.int (iI v)))) (wm X G' A' kp' S' (iI sv') 0 ke' le' ch' ln' ab' pt' rm' en' aa' iw' kd' n1' n2' n3' n4' gd') := fun Q => by
    have := hM Q
    rw [show wm X G A kp S (iI sv) tw ke le ch ln ab pt rm en aa iw kd n1 n2 n3 n4 gd = X from M1] at this
    exact this
  have e1' : X.2 = H.2 := by rw [hX]; exact FK.2
  have e2' : (wm X G' A' kp' S' (iI sv') 0 ke' le' ch' ln' ab' pt' rm' en' aa' iw' kd' n1' n2' n3' n4' gd').2 = H.2 := e1'
  exact ⟨wm X G' A' kp' S' (iI sv') 0 ke' le' ch' ln' ab' pt' rm' en' aa' iw' kd' n1' n2' n3' n4' gd', .int (iI 0), .int (iI v), LRx_mk (st_wm C1) M2 (g := vp_updL g (iI 0).toNatClampNeg (iI v).toInt64) (g2 := g2) (by rw [xmm_n (by omega), hX, hget_set]) (by rw [xmm_n (by omega), hX, hget_ne (by omega), FK.1 118 (by omega)]; exact h2) L, ⟨by rw [e2'], by rw [e2']; omega, by rw [e2']; omega⟩, fun Q => lc_parent hL e1 e2 hH (by rw [e1']) h9 hM' h9' (fun Q => mo_tw Q) (Or.inl ⟨rfl, by rw [xmm_n (by omega), hX, hget_set], updL_at⟩)⟩
theorem fx_parent_2 (C : CW H dy nb B nu U np P nf F nx kp pa zr0 zs sv lr le ln ps ch rq V) (M : MWo H G A kp S (iI sv) tw ke le ch ln ab pt rm en aa iw kd n1 n2 n3 n4 gd) (h1 : hget H 117 = some (ola g)) (h2 : hget H 118 = some (oda g2)) (hL : 0 ≤ i ∧ i + 6 ≤ (H.2.2.2.2.1 : Int) ∧ H.2.2.2.2.1 < 1000000) (e1 : H.2.2.2.2.2 (iI (i + 1)).toNatClampNeg = iI x1) (e2 : H.2.2.2.2.2 (iI (i + 2)).toNatClampNeg = iI x2) (hC : ∀ Q, Call 11 m_X7_parent [.ref 0, .int (iI x1), .int (iI x2)] H Q = Q (.inr 2) (hexc K)) (CK : CW K dy' nb' B' nu' U' np' P' nf' F' nx' kp' pa' zr0' zs' sv' lr' le' ln' ps' ch' rq' V') (FK : HF H K) (hM : ∀ Q, Call 12 m_X8_parent [.ref 109, .int (iI x1), .int (iI x2)] (wm (hexc K) G A kp S (iI sv) tw ke le ch ln ab pt rm en aa iw kd n1 n2 n3 n4 gd) Q = Q (.inl (some (.int (iI b)))) (wm (hexc K) G' A' kp' S' (iI sv') 1 ke' le' ch' ln' ab' pt' rm' en' aa' iw' kd' n1' n2' n3' n4' gd')) (L : LPx dy' nb' B' nu' U' np' P' nf' F' nx' kp' pa' zs' sv' lr' le' ln' ch' rq' V' G' A' S' ke') : ∃ (H2 : XH) (m6 m7 : Value), LRx H2 ∧ Fn H H2 ∧ ∀ Q, EvQ 13 m_L_law 444 [.ref 2000000, .ref 0, .ref 109, .ref 117, .ref 118, .int (iI i), l6, l7, xjunk] [] H Q = EvQ 13 m_L_law 28 [.ref 2000000, .ref 0, .ref 109, .ref 117, .ref 118, .int (iI (i + 6)), m6, m7, xjunk] [] H2 Q := by
  have M1 : MWo (hexc K) G A kp S (iI sv) tw ke le ch ln ab pt rm en aa iw kd n1 n2 n3 n4 gd := mo_exc (mo_hf M FK)
  have C1 : CW (hexc K) dy' nb' B' nu' U' np' P' nf' F' nx' kp' pa' zr0' zs' sv' lr' le' ln' ps' ch' rq' V' := st_exc CK
  have hH := lx_parent_2 C.2.1 hC
  obtain ⟨fs1, h9⟩ := mo_h9 M1
  have M2 : MWo (wm (hexc K) G' A' kp' S' (iI sv') 1 ke' le' ch' ln' ab' pt' rm' en' aa' iw' kd' n1' n2' n3' n4' gd') G' A' kp' S' (iI sv') 1 ke' le' ch' ln' ab' pt' rm' en' aa' iw' kd' n1' n2' n3' n4' gd' := MWo_wm
  obtain ⟨fs2, h9'⟩ := mo_h9 M2
  have hM' : ∀ Q, Call 12 m_X8_parent [.ref 109, .int (iI x1), .int (iI x2)] (hexc K) Q = Q (.inl (some (.int (iI b)))) (wm (hexc K) G' A' kp' S' (iI sv') 1 ke' le' ch' ln' ab' pt' rm' en' aa' iw' kd' n1' n2' n3' n4' gd') := fun Q => by
    have := hM Q
    rw [show wm (hexc K) G A kp S (iI sv) tw ke le ch ln ab pt rm en aa iw kd n1 n2 n3 n4 gd = hexc K from M1] at this
    exact this
  have k2 := FK.2
  have e1' : (hexc K).2.2.2.2 = H.2.2.2.2 := by rw [← k2]; rfl
  have e2' : (hexc K).2.2.1 = H.2.2.1 + 1 := by rw [← k2]; rfl
  have e3' : (hexc K).2.2.2.1 = H.2.2.2.1 + 6 := by rw [← k2]; rfl
  refine ⟨wm (hexc K) G' A' kp' S' (iI sv') 1 ke' le' ch' ln' ab' pt' rm' en' aa' iw' kd' n1' n2' n3' n4' gd', .int (iI 1), .int (iI b), LRx_mk (st_wm C1) M2 (g := g) (g2 := g2) (by rw [xmm_n (by omega), hexc_get, FK.1 117 (by omega)]; exact h1) (by rw [xmm_n (by omega), hexc_get, FK.1 118 (by omega)]; exact h2) L, ⟨e1', ?_, ?_⟩, fun Q => lc_parent (g := g) hL e1 e2 hH e1' h9 hM' h9' (fun Q => mo_tw Q) (Or.inr (by omega))⟩
  · show (hexc K).2.2.1 ≤ _
    omega
  · show (hexc K).2.2.2.1 ≤ _
    omega
theorem fx_parent_3 (C : CW H dy nb B nu U np P nf F nx kp pa zr0 zs sv lr le ln ps ch rq V) (M : MWo H G A kp S (iI sv) tw ke le ch ln ab pt rm en aa iw kd n1 n2 n3 n4 gd) (h1 : hget H 117 = some (ola g)) (h2 : hget H 118 = some (oda g2)) (hL : 0 ≤ i ∧ i + 6 ≤ (H.2.2.2.2.1 : Int) ∧ H.2.2.2.2.1 < 1000000) (e1 : H.2.2.2.2.2 (iI (i + 1)).toNatClampNeg = iI x1) (e2 : H.2.2.2.2.2 (iI (i + 2)).toNatClampNeg = iI x2) (hC : ∀ Q, Call 11 m_X7_parent [.ref 0, .int (iI x1), .int (iI x2)] H Q = Q (.inr 3) (hexc K)) (CK : CW K dy' nb' B' nu' U' np' P' nf' F' nx' kp' pa' zr0' zs' sv' lr' le' ln' ps' ch' rq' V') (FK : HF H K) (hM : ∀ Q, Call 12 m_X8_parent [.ref 109, .int (iI x1), .int (iI x2)] (wm (hexc K) G A kp S (iI sv) tw ke le ch ln ab pt rm en aa iw kd n1 n2 n3 n4 gd) Q = Q (.inl (some (.int (iI b)))) (wm (hexc K) G' A' kp' S' (iI sv') 2 ke' le' ch' ln' ab' pt' rm' en' aa' iw' kd' n1' n2' n3' n4' gd')) (L : LPx dy' nb' B' nu' U' np' P' nf' F' nx' kp' pa' zs' sv' lr' le' ln' ch' rq' V' G' A' S' ke') : ∃ (H2 : XH) (m6 m7 : Value), LRx H2 ∧ Fn H H2 ∧ ∀ Q, EvQ 13 m_L_law 444 [.ref 2000000, .ref 0, .ref 109, .ref 117, .ref 118, .int (iI i), l6, l7, xjunk] [] H Q = EvQ 13 m_L_law 28 [.ref 2000000, .ref 0, .ref 109, .ref 117, .ref 118, .int (iI (i + 6)), m6, m7, xjunk] [] H2 Q := by
  have M1 : MWo (hexc K) G A kp S (iI sv) tw ke le ch ln ab pt rm en aa iw kd n1 n2 n3 n4 gd := mo_exc (mo_hf M FK)
  have C1 : CW (hexc K) dy' nb' B' nu' U' np' P' nf' F' nx' kp' pa' zr0' zs' sv' lr' le' ln' ps' ch' rq' V' := st_exc CK
  have hH := lx_parent_3 C.2.1 hC
  obtain ⟨fs1, h9⟩ := mo_h9 M1
  have M2 : MWo (wm (hexc K) G' A' kp' S' (iI sv') 2 ke' le' ch' ln' ab' pt' rm' en' aa' iw' kd' n1' n2' n3' n4' gd') G' A' kp' S' (iI sv') 2 ke' le' ch' ln' ab' pt' rm' en' aa' iw' kd' n1' n2' n3' n4' gd' := MWo_wm
  obtain ⟨fs2, h9'⟩ := mo_h9 M2
  have hM' : ∀ Q, Call 12 m_X8_parent [.ref 109, .int (iI x1), .int (iI x2)] (hexc K) Q = Q (.inl (some (.int (iI b)))) (wm (hexc K) G' A' kp' S' (iI sv') 2 ke' le' ch' ln' ab' pt' rm' en' aa' iw' kd' n1' n2' n3' n4' gd') := fun Q => by
    have := hM Q
    rw [show wm (hexc K) G A kp S (iI sv) tw ke le ch ln ab pt rm en aa iw kd n1 n2 n3 n4 gd = hexc K from M1] at this
    exact this
  have k2 := FK.2
  have e1' : (hexc K).2.2.2.2 = H.2.2.2.2 := by rw [← k2]; rfl
  have e2' : (hexc K).2.2.1 = H.2.2.1 + 1 := by rw [← k2]; rfl
  have e3' : (hexc K).2.2.2.1 = H.2.2.2.1 + 6 := by rw [← k2]; rfl
  refine ⟨wm (hexc K) G' A' kp' S' (iI sv') 2 ke' le' ch' ln' ab' pt' rm' en' aa' iw' kd' n1' n2' n3' n4' gd', .int (iI 2), .int (iI b), LRx_mk (st_wm C1) M2 (g := g) (g2 := g2) (by rw [xmm_n (by omega), hexc_get, FK.1 117 (by omega)]; exact h1) (by rw [xmm_n (by omega), hexc_get, FK.1 118 (by omega)]; exact h2) L, ⟨e1', ?_, ?_⟩, fun Q => lc_parent (g := g) hL e1 e2 hH e1' h9 hM' h9' (fun Q => mo_tw Q) (Or.inr (by omega))⟩
  · show (hexc K).2.2.1 ≤ _
    omega
  · show (hexc K).2.2.2.1 ≤ _
    omega
theorem fv_isAncestor (C : CW H dy nb B nu U np P nf F nx kp pa zr0 zs sv lr le ln ps ch rq V) (M : MWo H G A kp S (iI sv) tw ke le ch ln ab pt rm en aa iw kd n1 n2 n3 n4 gd) (h1 : hget H 117 = some (ola g)) (h2 : hget H 118 = some (oda g2)) (hL : 0 ≤ i ∧ i + 6 ≤ (H.2.2.2.2.1 : Int) ∧ H.2.2.2.2.1 < 1000000) (e1 : H.2.2.2.2.2 (iI (i + 1)).toNatClampNeg = iI x1) (e2 : H.2.2.2.2.2 (iI (i + 2)).toNatClampNeg = iI x2) (hv : v = 0 ∨ v = 1) (hC : ∀ Q, Call 11 m_X7_isAncestor [.ref 0, .int (iI x1), .int (iI x2)] H Q = Q (.inl (some (.int (iI v)))) K) (CK : CW K dy' nb' B' nu' U' np' P' nf' F' nx' kp' pa' zr0' zs' sv' lr' le' ln' ps' ch' rq' V') (FK : HF H K) (hX : X = hset K 117 (ola (vp_updL g (iI 0).toNatClampNeg (iI v).toInt64))) (hM : ∀ Q, Call 12 m_X8_isAncestor [.ref 109, .int (iI x1), .int (iI x2)] (wm X G A kp S (iI sv) tw ke le ch ln ab pt rm en aa iw kd n1 n2 n3 n4 gd) Q = Q (.inl (some (.int (iI v)))) (wm X G' A' kp' S' (iI sv') 0 ke' le' ch' ln' ab' pt' rm' en' aa' iw' kd' n1' n2' n3' n4' gd')) (L : LPx dy' nb' B' nu' U' np' P' nf' F' nx' kp' pa' zs' sv' lr' le' ln' ch' rq' V' G' A' S' ke') : ∃ (H2 : XH) (m6 m7 : Value), LRx H2 ∧ Fn H H2 ∧ ∀ Q, EvQ 13 m_L_law 512 [.ref 2000000, .ref 0, .ref 109, .ref 117, .ref 118, .int (iI i), l6, l7, xjunk] [] H Q = EvQ 13 m_L_law 28 [.ref 2000000, .ref 0, .ref 109, .ref 117, .ref 118, .int (iI (i + 6)), m6, m7, xjunk] [] H2 Q := by
  have hK : hget K 117 = some (ola g) := by rw [FK.1 117 (by omega)]; exact h1
  have M1 : MWo X G A kp S (iI sv) tw ke le ch ln ab pt rm en aa iw kd n1 n2 n3 n4 gd := by rw [hX]; exact mo_out (mo_hf M FK)
  have C1 : CW X dy' nb' B' nu' U' np' P' nf' F' nx' kp' pa' zr0' zs' sv' lr' le' ln' ps' ch' rq' V' := by rw [hX]; exact st_out CK
  have hH := lo_isAncestor hv C.2.1 hK hC
  rw [← hX] at hH
  obtain ⟨fs1, h9⟩ := mo_h9 M1
  have M2 : MWo (wm X G' A' kp' S' (iI sv') 0 ke' le' ch' ln' ab' pt' rm' en' aa' iw' kd' n1' n2' n3' n4' gd') G' A' kp' S' (iI sv') 0 ke' le' ch' ln' ab' pt' rm' en' aa' iw' kd' n1' n2' n3' n4' gd' := MWo_wm
  obtain ⟨fs2, h9'⟩ := mo_h9 M2
  have hM' : ∀ Q, Call 12 m_X8_isAncestor [.ref 109, .int (iI x1), .int (iI x2)] X Q = Q (.inl (some (.int (iI v)))) (wm X G' A' kp' S' (iI sv') 0 ke' le' ch' ln' ab' pt' rm' en' aa' iw' kd' n1' n2' n3' n4' gd') := fun Q => by
    have := hM Q
    rw [show wm X G A kp S (iI sv) tw ke le ch ln ab pt rm en aa iw kd n1 n2 n3 n4 gd = X from M1] at this
    exact this
  have e1' : X.2 = H.2 := by rw [hX]; exact FK.2
  have e2' : (wm X G' A' kp' S' (iI sv') 0 ke' le' ch' ln' ab' pt' rm' en' aa' iw' kd' n1' n2' n3' n4' gd').2 = H.2 := e1'
  exact ⟨wm X G' A' kp' S' (iI sv') 0 ke' le' ch' ln' ab' pt' rm' en' aa' iw' kd' n1' n2' n3' n4' gd', .int (iI 0), .int (iI v), LRx_mk (st_wm C1) M2 (g := vp_updL g (iI 0).toNatClampNeg (iI v).toInt64) (g2 := g2) (by rw [xmm_n (by omega), hX, hget_set]) (by rw [xmm_n (by omega), hX, hget_ne (by omega), FK.1 118 (by omega)]; exact h2) L, ⟨by rw [e2'], by rw [e2']; omega, by rw [e2']; omega⟩, fun Q => lc_isAncestor hL e1 e2 hv hH (by rw [e1']) h9 hM' h9' (fun Q => mo_tw Q) (Or.inl ⟨rfl, by rw [xmm_n (by omega), hX, hget_set], updL_at⟩)⟩
theorem fx_isAncestor_2 (C : CW H dy nb B nu U np P nf F nx kp pa zr0 zs sv lr le ln ps ch rq V) (M : MWo H G A kp S (iI sv) tw ke le ch ln ab pt rm en aa iw kd n1 n2 n3 n4 gd) (h1 : hget H 117 = some (ola g)) (h2 : hget H 118 = some (oda g2)) (hL : 0 ≤ i ∧ i + 6 ≤ (H.2.2.2.2.1 : Int) ∧ H.2.2.2.2.1 < 1000000) (e1 : H.2.2.2.2.2 (iI (i + 1)).toNatClampNeg = iI x1) (e2 : H.2.2.2.2.2 (iI (i + 2)).toNatClampNeg = iI x2) (hv : b = 0 ∨ b = 1) (hC : ∀ Q, Call 11 m_X7_isAncestor [.ref 0, .int (iI x1), .int (iI x2)] H Q = Q (.inr 2) (hexc K)) (CK : CW K dy' nb' B' nu' U' np' P' nf' F' nx' kp' pa' zr0' zs' sv' lr' le' ln' ps' ch' rq' V') (FK : HF H K) (hM : ∀ Q, Call 12 m_X8_isAncestor [.ref 109, .int (iI x1), .int (iI x2)] (wm (hexc K) G A kp S (iI sv) tw ke le ch ln ab pt rm en aa iw kd n1 n2 n3 n4 gd) Q = Q (.inl (some (.int (iI b)))) (wm (hexc K) G' A' kp' S' (iI sv') 1 ke' le' ch' ln' ab' pt' rm' en' aa' iw' kd' n1' n2' n3' n4' gd')) (L : LPx dy' nb' B' nu' U' np' P' nf' F' nx' kp' pa' zs' sv' lr' le' ln' ch' rq' V' G' A' S' ke') : ∃ (H2 : XH) (m6 m7 : Value), LRx H2 ∧ Fn H H2 ∧ ∀ Q, EvQ 13 m_L_law 512 [.ref 2000000, .ref 0, .ref 109, .ref 117, .ref 118, .int (iI i), l6, l7, xjunk] [] H Q = EvQ 13 m_L_law 28 [.ref 2000000, .ref 0, .ref 109, .ref 117, .ref 118, .int (iI (i + 6)), m6, m7, xjunk] [] H2 Q := by
  have M1 : MWo (hexc K) G A kp S (iI sv) tw ke le ch ln ab pt rm en aa iw kd n1 n2 n3 n4 gd := mo_exc (mo_hf M FK)
  have C1 : CW (hexc K) dy' nb' B' nu' U' np' P' nf' F' nx' kp' pa' zr0' zs' sv' lr' le' ln' ps' ch' rq' V' := st_exc CK
  have hH := lx_isAncestor_2 C.2.1 hC
  obtain ⟨fs1, h9⟩ := mo_h9 M1
  have M2 : MWo (wm (hexc K) G' A' kp' S' (iI sv') 1 ke' le' ch' ln' ab' pt' rm' en' aa' iw' kd' n1' n2' n3' n4' gd') G' A' kp' S' (iI sv') 1 ke' le' ch' ln' ab' pt' rm' en' aa' iw' kd' n1' n2' n3' n4' gd' := MWo_wm
  obtain ⟨fs2, h9'⟩ := mo_h9 M2
  have hM' : ∀ Q, Call 12 m_X8_isAncestor [.ref 109, .int (iI x1), .int (iI x2)] (hexc K) Q = Q (.inl (some (.int (iI b)))) (wm (hexc K) G' A' kp' S' (iI sv') 1 ke' le' ch' ln' ab' pt' rm' en' aa' iw' kd' n1' n2' n3' n4' gd') := fun Q => by
    have := hM Q
    rw [show wm (hexc K) G A kp S (iI sv) tw ke le ch ln ab pt rm en aa iw kd n1 n2 n3 n4 gd = hexc K from M1] at this
    exact this
  have k2 := FK.2
  have e1' : (hexc K).2.2.2.2 = H.2.2.2.2 := by rw [← k2]; rfl
  have e2' : (hexc K).2.2.1 = H.2.2.1 + 1 := by rw [← k2]; rfl
  have e3' : (hexc K).2.2.2.1 = H.2.2.2.1 + 6 := by rw [← k2]; rfl
  refine ⟨wm (hexc K) G' A' kp' S' (iI sv') 1 ke' le' ch' ln' ab' pt' rm' en' aa' iw' kd' n1' n2' n3' n4' gd', .int (iI 1), .int (iI b), LRx_mk (st_wm C1) M2 (g := g) (g2 := g2) (by rw [xmm_n (by omega), hexc_get, FK.1 117 (by omega)]; exact h1) (by rw [xmm_n (by omega), hexc_get, FK.1 118 (by omega)]; exact h2) L, ⟨e1', ?_, ?_⟩, fun Q => lc_isAncestor (g := g) hL e1 e2 hv hH e1' h9 hM' h9' (fun Q => mo_tw Q) (Or.inr (by omega))⟩
  · show (hexc K).2.2.1 ≤ _
    omega
  · show (hexc K).2.2.2.1 ≤ _
    omega
theorem fv_became (C : CW H dy nb B nu U np P nf F nx kp pa zr0 zs sv lr le ln ps ch rq V) (M : MWo H G A kp S (iI sv) tw ke le ch ln ab pt rm en aa iw kd n1 n2 n3 n4 gd) (h1 : hget H 117 = some (ola g)) (h2 : hget H 118 = some (oda g2)) (hL : 0 ≤ i ∧ i + 6 ≤ (H.2.2.2.2.1 : Int) ∧ H.2.2.2.2.1 < 1000000) (e1 : H.2.2.2.2.2 (iI (i + 1)).toNatClampNeg = iI x1) (e2 : H.2.2.2.2.2 (iI (i + 2)).toNatClampNeg = iI x2) (hC : ∀ Q, Call 11 m_X7_became [.ref 0, .int (iI x1), .int (iI x2)] H Q = Q (.inl (some (.int (iI v)))) K) (CK : CW K dy' nb' B' nu' U' np' P' nf' F' nx' kp' pa' zr0' zs' sv' lr' le' ln' ps' ch' rq' V') (FK : HF H K) (hX : X = hset K 117 (ola (vp_updL g (iI 0).toNatClampNeg (iI v).toInt64))) (hM : ∀ Q, Call 12 m_X8_became [.ref 109, .int (iI x1), .int (iI x2)] (wm X G A kp S (iI sv) tw ke le ch ln ab pt rm en aa iw kd n1 n2 n3 n4 gd) Q = Q (.inl (some (.int (iI v)))) (wm X G' A' kp' S' (iI sv') 0 ke' le' ch' ln' ab' pt' rm' en' aa' iw' kd' n1' n2' n3' n4' gd')) (L : LPx dy' nb' B' nu' U' np' P' nf' F' nx' kp' pa' zs' sv' lr' le' ln' ch' rq' V' G' A' S' ke') : ∃ (H2 : XH) (m6 m7 : Value), LRx H2 ∧ Fn H H2 ∧ ∀ Q, EvQ 13 m_L_law 587 [.ref 2000000, .ref 0, .ref 109, .ref 117, .ref 118, .int (iI i), l6, l7, xjunk] [] H Q = EvQ 13 m_L_law 28 [.ref 2000000, .ref 0, .ref 109, .ref 117, .ref 118, .int (iI (i + 6)), m6, m7, xjunk] [] H2 Q := by
  have hK : hget K 117 = some (ola g) := by rw [FK.1 117 (by omega)]; exact h1
  have M1 : MWo X G A kp S (iI sv) tw ke le ch ln ab pt rm en aa iw kd n1 n2 n3 n4 gd := by rw [hX]; exact mo_out (mo_hf M FK)
  have C1 : CW X dy' nb' B' nu' U' np' P' nf' F' nx' kp' pa' zr0' zs' sv' lr' le' ln' ps' ch' rq' V' := by rw [hX]; exact st_out CK
  have hH := lo_became C.2.1 hK hC
  rw [← hX] at hH
  obtain ⟨fs1, h9⟩ := mo_h9 M1
  have M2 : MWo (wm X G' A' kp' S' (iI sv') 0 ke' le' ch' ln' ab' pt' rm' en' aa' iw' kd' n1' n2' n3' n4' gd') G' A' kp' S' (iI sv') 0 ke' le' ch' ln' ab' pt' rm' en' aa' iw' kd' n1' n2' n3' n4' gd' := MWo_wm
  obtain ⟨fs2, h9'⟩ := mo_h9 M2
  have hM' : ∀ Q, Call 12 m_X8_became [.ref 109, .int (iI x1), .int (iI x2)] X Q = Q (.inl (some (.int (iI v)))) (wm X G' A' kp' S' (iI sv') 0 ke' le' ch' ln' ab' pt' rm' en' aa' iw' kd' n1' n2' n3' n4' gd') := fun Q => by
    have := hM Q
    rw [show wm X G A kp S (iI sv) tw ke le ch ln ab pt rm en aa iw kd n1 n2 n3 n4 gd = X from M1] at this
    exact this
  have e1' : X.2 = H.2 := by rw [hX]; exact FK.2
  have e2' : (wm X G' A' kp' S' (iI sv') 0 ke' le' ch' ln' ab' pt' rm' en' aa' iw' kd' n1' n2' n3' n4' gd').2 = H.2 := e1'
  exact ⟨wm X G' A' kp' S' (iI sv') 0 ke' le' ch' ln' ab' pt' rm' en' aa' iw' kd' n1' n2' n3' n4' gd', .int (iI 0), .int (iI v), LRx_mk (st_wm C1) M2 (g := vp_updL g (iI 0).toNatClampNeg (iI v).toInt64) (g2 := g2) (by rw [xmm_n (by omega), hX, hget_set]) (by rw [xmm_n (by omega), hX, hget_ne (by omega), FK.1 118 (by omega)]; exact h2) L, ⟨by rw [e2'], by rw [e2']; omega, by rw [e2']; omega⟩, fun Q => lc_became hL e1 e2 hH (by rw [e1']) h9 hM' h9' (fun Q => mo_tw Q) (Or.inl ⟨rfl, by rw [xmm_n (by omega), hX, hget_set], updL_at⟩)⟩
theorem fx_became_2 (C : CW H dy nb B nu U np P nf F nx kp pa zr0 zs sv lr le ln ps ch rq V) (M : MWo H G A kp S (iI sv) tw ke le ch ln ab pt rm en aa iw kd n1 n2 n3 n4 gd) (h1 : hget H 117 = some (ola g)) (h2 : hget H 118 = some (oda g2)) (hL : 0 ≤ i ∧ i + 6 ≤ (H.2.2.2.2.1 : Int) ∧ H.2.2.2.2.1 < 1000000) (e1 : H.2.2.2.2.2 (iI (i + 1)).toNatClampNeg = iI x1) (e2 : H.2.2.2.2.2 (iI (i + 2)).toNatClampNeg = iI x2) (hC : ∀ Q, Call 11 m_X7_became [.ref 0, .int (iI x1), .int (iI x2)] H Q = Q (.inr 2) (hexc K)) (CK : CW K dy' nb' B' nu' U' np' P' nf' F' nx' kp' pa' zr0' zs' sv' lr' le' ln' ps' ch' rq' V') (FK : HF H K) (hM : ∀ Q, Call 12 m_X8_became [.ref 109, .int (iI x1), .int (iI x2)] (wm (hexc K) G A kp S (iI sv) tw ke le ch ln ab pt rm en aa iw kd n1 n2 n3 n4 gd) Q = Q (.inl (some (.int (iI b)))) (wm (hexc K) G' A' kp' S' (iI sv') 1 ke' le' ch' ln' ab' pt' rm' en' aa' iw' kd' n1' n2' n3' n4' gd')) (L : LPx dy' nb' B' nu' U' np' P' nf' F' nx' kp' pa' zs' sv' lr' le' ln' ch' rq' V' G' A' S' ke') : ∃ (H2 : XH) (m6 m7 : Value), LRx H2 ∧ Fn H H2 ∧ ∀ Q, EvQ 13 m_L_law 587 [.ref 2000000, .ref 0, .ref 109, .ref 117, .ref 118, .int (iI i), l6, l7, xjunk] [] H Q = EvQ 13 m_L_law 28 [.ref 2000000, .ref 0, .ref 109, .ref 117, .ref 118, .int (iI (i + 6)), m6, m7, xjunk] [] H2 Q := by
  have M1 : MWo (hexc K) G A kp S (iI sv) tw ke le ch ln ab pt rm en aa iw kd n1 n2 n3 n4 gd := mo_exc (mo_hf M FK)
  have C1 : CW (hexc K) dy' nb' B' nu' U' np' P' nf' F' nx' kp' pa' zr0' zs' sv' lr' le' ln' ps' ch' rq' V' := st_exc CK
  have hH := lx_became_2 C.2.1 hC
  obtain ⟨fs1, h9⟩ := mo_h9 M1
  have M2 : MWo (wm (hexc K) G' A' kp' S' (iI sv') 1 ke' le' ch' ln' ab' pt' rm' en' aa' iw' kd' n1' n2' n3' n4' gd') G' A' kp' S' (iI sv') 1 ke' le' ch' ln' ab' pt' rm' en' aa' iw' kd' n1' n2' n3' n4' gd' := MWo_wm
  obtain ⟨fs2, h9'⟩ := mo_h9 M2
  have hM' : ∀ Q, Call 12 m_X8_became [.ref 109, .int (iI x1), .int (iI x2)] (hexc K) Q = Q (.inl (some (.int (iI b)))) (wm (hexc K) G' A' kp' S' (iI sv') 1 ke' le' ch' ln' ab' pt' rm' en' aa' iw' kd' n1' n2' n3' n4' gd') := fun Q => by
    have := hM Q
    rw [show wm (hexc K) G A kp S (iI sv) tw ke le ch ln ab pt rm en aa iw kd n1 n2 n3 n4 gd = hexc K from M1] at this
    exact this
  have k2 := FK.2
  have e1' : (hexc K).2.2.2.2 = H.2.2.2.2 := by rw [← k2]; rfl
  have e2' : (hexc K).2.2.1 = H.2.2.1 + 1 := by rw [← k2]; rfl
  have e3' : (hexc K).2.2.2.1 = H.2.2.2.1 + 6 := by rw [← k2]; rfl
  refine ⟨wm (hexc K) G' A' kp' S' (iI sv') 1 ke' le' ch' ln' ab' pt' rm' en' aa' iw' kd' n1' n2' n3' n4' gd', .int (iI 1), .int (iI b), LRx_mk (st_wm C1) M2 (g := g) (g2 := g2) (by rw [xmm_n (by omega), hexc_get, FK.1 117 (by omega)]; exact h1) (by rw [xmm_n (by omega), hexc_get, FK.1 118 (by omega)]; exact h2) L, ⟨e1', ?_, ?_⟩, fun Q => lc_became (g := g) hL e1 e2 hH e1' h9 hM' h9' (fun Q => mo_tw Q) (Or.inr (by omega))⟩
  · show (hexc K).2.2.1 ≤ _
    omega
  · show (hexc K).2.2.2.1 ≤ _
    omega
theorem fx_became_3 (C : CW H dy nb B nu U np P nf F nx kp pa zr0 zs sv lr le ln ps ch rq V) (M : MWo H G A kp S (iI sv) tw ke le ch ln ab pt rm en aa iw kd n1 n2 n3 n4 gd) (h1 : hget H 117 = some (ola g)) (h2 : hget H 118 = some (oda g2)) (hL : 0 ≤ i ∧ i + 6 ≤ (H.2.2.2.2.1 : Int) ∧ H.2.2.2.2.1 < 1000000) (e1 : H.2.2.2.2.2 (iI (i + 1)).toNatClampNeg = iI x1) (e2 : H.2.2.2.2.2 (iI (i + 2)).toNatClampNeg = iI x2) (hC : ∀ Q, Call 11 m_X7_became [.ref 0, .int (iI x1), .int (iI x2)] H Q = Q (.inr 3) (hexc K)) (CK : CW K dy' nb' B' nu' U' np' P' nf' F' nx' kp' pa' zr0' zs' sv' lr' le' ln' ps' ch' rq' V') (FK : HF H K) (hM : ∀ Q, Call 12 m_X8_became [.ref 109, .int (iI x1), .int (iI x2)] (wm (hexc K) G A kp S (iI sv) tw ke le ch ln ab pt rm en aa iw kd n1 n2 n3 n4 gd) Q = Q (.inl (some (.int (iI b)))) (wm (hexc K) G' A' kp' S' (iI sv') 2 ke' le' ch' ln' ab' pt' rm' en' aa' iw' kd' n1' n2' n3' n4' gd')) (L : LPx dy' nb' B' nu' U' np' P' nf' F' nx' kp' pa' zs' sv' lr' le' ln' ch' rq' V' G' A' S' ke') : ∃ (H2 : XH) (m6 m7 : Value), LRx H2 ∧ Fn H H2 ∧ ∀ Q, EvQ 13 m_L_law 587 [.ref 2000000, .ref 0, .ref 109, .ref 117, .ref 118, .int (iI i), l6, l7, xjunk] [] H Q = EvQ 13 m_L_law 28 [.ref 2000000, .ref 0, .ref 109, .ref 117, .ref 118, .int (iI (i + 6)), m6, m7, xjunk] [] H2 Q := by
  have M1 : MWo (hexc K) G A kp S (iI sv) tw ke le ch ln ab pt rm en aa iw kd n1 n2 n3 n4 gd := mo_exc (mo_hf M FK)
  have C1 : CW (hexc K) dy' nb' B' nu' U' np' P' nf' F' nx' kp' pa' zr0' zs' sv' lr' le' ln' ps' ch' rq' V' := st_exc CK
  have hH := lx_became_3 C.2.1 hC
  obtain ⟨fs1, h9⟩ := mo_h9 M1
  have M2 : MWo (wm (hexc K) G' A' kp' S' (iI sv') 2 ke' le' ch' ln' ab' pt' rm' en' aa' iw' kd' n1' n2' n3' n4' gd') G' A' kp' S' (iI sv') 2 ke' le' ch' ln' ab' pt' rm' en' aa' iw' kd' n1' n2' n3' n4' gd' := MWo_wm
  obtain ⟨fs2, h9'⟩ := mo_h9 M2
  have hM' : ∀ Q, Call 12 m_X8_became [.ref 109, .int (iI x1), .int (iI x2)] (hexc K) Q = Q (.inl (some (.int (iI b)))) (wm (hexc K) G' A' kp' S' (iI sv') 2 ke' le' ch' ln' ab' pt' rm' en' aa' iw' kd' n1' n2' n3' n4' gd') := fun Q => by
    have := hM Q
    rw [show wm (hexc K) G A kp S (iI sv) tw ke le ch ln ab pt rm en aa iw kd n1 n2 n3 n4 gd = hexc K from M1] at this
    exact this
  have k2 := FK.2
  have e1' : (hexc K).2.2.2.2 = H.2.2.2.2 := by rw [← k2]; rfl
  have e2' : (hexc K).2.2.1 = H.2.2.1 + 1 := by rw [← k2]; rfl
  have e3' : (hexc K).2.2.2.1 = H.2.2.2.1 + 6 := by rw [← k2]; rfl
  refine ⟨wm (hexc K) G' A' kp' S' (iI sv') 2 ke' le' ch' ln' ab' pt' rm' en' aa' iw' kd' n1' n2' n3' n4' gd', .int (iI 2), .int (iI b), LRx_mk (st_wm C1) M2 (g := g) (g2 := g2) (by rw [xmm_n (by omega), hexc_get, FK.1 117 (by omega)]; exact h1) (by rw [xmm_n (by omega), hexc_get, FK.1 118 (by omega)]; exact h2) L, ⟨e1', ?_, ?_⟩, fun Q => lc_became (g := g) hL e1 e2 hH e1' h9 hM' h9' (fun Q => mo_tw Q) (Or.inr (by omega))⟩
  · show (hexc K).2.2.1 ≤ _
    omega
  · show (hexc K).2.2.2.1 ≤ _
    omega
theorem fv_apply (C : CW H dy nb B nu U np P nf F nx kp pa zr0 zs sv lr le ln ps ch rq V) (M : MWo H G A kp S (iI sv) tw ke le ch ln ab pt rm en aa iw kd n1 n2 n3 n4 gd) (h1 : hget H 117 = some (ola g)) (h2 : hget H 118 = some (oda g2)) (hL : 0 ≤ i ∧ i + 6 ≤ (H.2.2.2.2.1 : Int) ∧ H.2.2.2.2.1 < 1000000) (e1 : H.2.2.2.2.2 (iI (i + 1)).toNatClampNeg = iI x1) (e2 : H.2.2.2.2.2 (iI (i + 2)).toNatClampNeg = iI x2) (e3 : H.2.2.2.2.2 (iI (i + 3)).toNatClampNeg = iI x3) (e4 : H.2.2.2.2.2 (iI (i + 4)).toNatClampNeg = iI x4) (e5 : H.2.2.2.2.2 (iI (i + 5)).toNatClampNeg = iI x5) (hC : ∀ Q, Call 11 m_X7_apply [.ref 0, .int (iI x1), .int (iI x2), .int (iI x3), .int (iI x4), .int (iI x5)] H Q = Q (.inl (some (.int (iI v)))) K) (CK : CW K dy' nb' B' nu' U' np' P' nf' F' nx' kp' pa' zr0' zs' sv' lr' le' ln' ps' ch' rq' V') (FK : HF H K) (hX : X = hset K 117 (ola (vp_updL g (iI 0).toNatClampNeg (iI v).toInt64))) (hM : ∀ Q, Call 12 m_X8_apply [.ref 109, .int (iI x1), .int (iI x2), .int (iI x3), .int (iI x4), .int (iI x5)] (wm X G A kp S (iI sv) tw ke le ch ln ab pt rm en aa iw kd n1 n2 n3 n4 gd) Q = Q (.inl (some (.int (iI v)))) (wm X G' A' kp' S' (iI sv') 0 ke' le' ch' ln' ab' pt' rm' en' aa' iw' kd' n1' n2' n3' n4' gd')) (L : LPx dy' nb' B' nu' U' np' P' nf' F' nx' kp' pa' zs' sv' lr' le' ln' ch' rq' V' G' A' S' ke') : ∃ (H2 : XH) (m6 m7 : Value), LRx H2 ∧ Fn H H2 ∧ ∀ Q, EvQ 13 m_L_law 655 [.ref 2000000, .ref 0, .ref 109, .ref 117, .ref 118, .int (iI i), l6, l7, xjunk] [] H Q = EvQ 13 m_L_law 28 [.ref 2000000, .ref 0, .ref 109, .ref 117, .ref 118, .int (iI (i + 6)), m6, m7, xjunk] [] H2 Q := by
  have hK : hget K 117 = some (ola g) := by rw [FK.1 117 (by omega)]; exact h1
  have M1 : MWo X G A kp S (iI sv) tw ke le ch ln ab pt rm en aa iw kd n1 n2 n3 n4 gd := by rw [hX]; exact mo_out (mo_hf M FK)
  have C1 : CW X dy' nb' B' nu' U' np' P' nf' F' nx' kp' pa' zr0' zs' sv' lr' le' ln' ps' ch' rq' V' := by rw [hX]; exact st_out CK
  have hH := lo_apply C.2.1 hK hC
  rw [← hX] at hH
  obtain ⟨fs1, h9⟩ := mo_h9 M1
  have M2 : MWo (wm X G' A' kp' S' (iI sv') 0 ke' le' ch' ln' ab' pt' rm' en' aa' iw' kd' n1' n2' n3' n4' gd') G' A' kp' S' (iI sv') 0 ke' le' ch' ln' ab' pt' rm' en' aa' iw' kd' n1' n2' n3' n4' gd' := MWo_wm
  obtain ⟨fs2, h9'⟩ := mo_h9 M2
  have hM' : ∀ Q, Call 12 m_X8_apply [.ref 109, .int (iI x1), .int (iI x2), .int (iI x3), .int (iI x4), .int (iI x5)] X Q = Q (.inl (some (.int (iI v)))) (wm X G' A' kp' S' (iI sv') 0 ke' le' ch' ln' ab' pt' rm' en' aa' iw' kd' n1' n2' n3' n4' gd') := fun Q => by
    have := hM Q
    rw [show wm X G A kp S (iI sv) tw ke le ch ln ab pt rm en aa iw kd n1 n2 n3 n4 gd = X from M1] at this
    exact this
  have e1' : X.2 = H.2 := by rw [hX]; exact FK.2
  have e2' : (wm X G' A' kp' S' (iI sv') 0 ke' le' ch' ln' ab' pt' rm' en' aa' iw' kd' n1' n2' n3' n4' gd').2 = H.2 := e1'
  exact ⟨wm X G' A' kp' S' (iI sv') 0 ke' le' ch' ln' ab' pt' rm' en' aa' iw' kd' n1' n2' n3' n4' gd', .int (iI 0), .int (iI v), LRx_mk (st_wm C1) M2 (g := vp_updL g (iI 0).toNatClampNeg (iI v).toInt64) (g2 := g2) (by rw [xmm_n (by omega), hX, hget_set]) (by rw [xmm_n (by omega), hX, hget_ne (by omega), FK.1 118 (by omega)]; exact h2) L, ⟨by rw [e2'], by rw [e2']; omega, by rw [e2']; omega⟩, fun Q => lc_apply hL e1 e2 e3 e4 e5 hH (by rw [e1']) h9 hM' h9' (fun Q => mo_tw Q) (Or.inl ⟨rfl, by rw [xmm_n (by omega), hX, hget_set], updL_at⟩)⟩
theorem fx_apply_0 (C : CW H dy nb B nu U np P nf F nx kp pa zr0 zs sv lr le ln ps ch rq V) (M : MWo H G A kp S (iI sv) tw ke le ch ln ab pt rm en aa iw kd n1 n2 n3 n4 gd) (h1 : hget H 117 = some (ola g)) (h2 : hget H 118 = some (oda g2)) (hL : 0 ≤ i ∧ i + 6 ≤ (H.2.2.2.2.1 : Int) ∧ H.2.2.2.2.1 < 1000000) (e1 : H.2.2.2.2.2 (iI (i + 1)).toNatClampNeg = iI x1) (e2 : H.2.2.2.2.2 (iI (i + 2)).toNatClampNeg = iI x2) (e3 : H.2.2.2.2.2 (iI (i + 3)).toNatClampNeg = iI x3) (e4 : H.2.2.2.2.2 (iI (i + 4)).toNatClampNeg = iI x4) (e5 : H.2.2.2.2.2 (iI (i + 5)).toNatClampNeg = iI x5) (hC : ∀ Q, Call 11 m_X7_apply [.ref 0, .int (iI x1), .int (iI x2), .int (iI x3), .int (iI x4), .int (iI x5)] H Q = Q (.inr 0) (hexc K)) (CK : CW K dy' nb' B' nu' U' np' P' nf' F' nx' kp' pa' zr0' zs' sv' lr' le' ln' ps' ch' rq' V') (FK : HF H K) (hM : ∀ Q, Call 12 m_X8_apply [.ref 109, .int (iI x1), .int (iI x2), .int (iI x3), .int (iI x4), .int (iI x5)] (wm (hexc K) G A kp S (iI sv) tw ke le ch ln ab pt rm en aa iw kd n1 n2 n3 n4 gd) Q = Q (.inl (some (.int (iI b)))) (wm (hexc K) G' A' kp' S' (iI sv') 1 ke' le' ch' ln' ab' pt' rm' en' aa' iw' kd' n1' n2' n3' n4' gd')) (L : LPx dy' nb' B' nu' U' np' P' nf' F' nx' kp' pa' zs' sv' lr' le' ln' ch' rq' V' G' A' S' ke') : ∃ (H2 : XH) (m6 m7 : Value), LRx H2 ∧ Fn H H2 ∧ ∀ Q, EvQ 13 m_L_law 655 [.ref 2000000, .ref 0, .ref 109, .ref 117, .ref 118, .int (iI i), l6, l7, xjunk] [] H Q = EvQ 13 m_L_law 28 [.ref 2000000, .ref 0, .ref 109, .ref 117, .ref 118, .int (iI (i + 6)), m6, m7, xjunk] [] H2 Q := by
  have M1 : MWo (hexc K) G A kp S (iI sv) tw ke le ch ln ab pt rm en aa iw kd n1 n2 n3 n4 gd := mo_exc (mo_hf M FK)
  have C1 : CW (hexc K) dy' nb' B' nu' U' np' P' nf' F' nx' kp' pa' zr0' zs' sv' lr' le' ln' ps' ch' rq' V' := st_exc CK
  have hH := lx_apply_0 C.2.1 hC
  obtain ⟨fs1, h9⟩ := mo_h9 M1
  have M2 : MWo (wm (hexc K) G' A' kp' S' (iI sv') 1 ke' le' ch' ln' ab' pt' rm' en' aa' iw' kd' n1' n2' n3' n4' gd') G' A' kp' S' (iI sv') 1 ke' le' ch' ln' ab' pt' rm' en' aa' iw' kd' n1' n2' n3' n4' gd' := MWo_wm
  obtain ⟨fs2, h9'⟩ := mo_h9 M2
  have hM' : ∀ Q, Call 12 m_X8_apply [.ref 109, .int (iI x1), .int (iI x2), .int (iI x3), .int (iI x4), .int (iI x5)] (hexc K) Q = Q (.inl (some (.int (iI b)))) (wm (hexc K) G' A' kp' S' (iI sv') 1 ke' le' ch' ln' ab' pt' rm' en' aa' iw' kd' n1' n2' n3' n4' gd') := fun Q => by
    have := hM Q
    rw [show wm (hexc K) G A kp S (iI sv) tw ke le ch ln ab pt rm en aa iw kd n1 n2 n3 n4 gd = hexc K from M1] at this
    exact this
  have k2 := FK.2
  have e1' : (hexc K).2.2.2.2 = H.2.2.2.2 := by rw [← k2]; rfl
  have e2' : (hexc K).2.2.1 = H.2.2.1 + 1 := by rw [← k2]; rfl
  have e3' : (hexc K).2.2.2.1 = H.2.2.2.1 + 6 := by rw [← k2]; rfl
  refine ⟨wm (hexc K) G' A' kp' S' (iI sv') 1 ke' le' ch' ln' ab' pt' rm' en' aa' iw' kd' n1' n2' n3' n4' gd', .int (iI 1), .int (iI b), LRx_mk (st_wm C1) M2 (g := g) (g2 := g2) (by rw [xmm_n (by omega), hexc_get, FK.1 117 (by omega)]; exact h1) (by rw [xmm_n (by omega), hexc_get, FK.1 118 (by omega)]; exact h2) L, ⟨e1', ?_, ?_⟩, fun Q => lc_apply (g := g) hL e1 e2 e3 e4 e5 hH e1' h9 hM' h9' (fun Q => mo_tw Q) (Or.inr (by omega))⟩
  · show (hexc K).2.2.1 ≤ _
    omega
  · show (hexc K).2.2.2.1 ≤ _
    omega
theorem fx_apply_1 (C : CW H dy nb B nu U np P nf F nx kp pa zr0 zs sv lr le ln ps ch rq V) (M : MWo H G A kp S (iI sv) tw ke le ch ln ab pt rm en aa iw kd n1 n2 n3 n4 gd) (h1 : hget H 117 = some (ola g)) (h2 : hget H 118 = some (oda g2)) (hL : 0 ≤ i ∧ i + 6 ≤ (H.2.2.2.2.1 : Int) ∧ H.2.2.2.2.1 < 1000000) (e1 : H.2.2.2.2.2 (iI (i + 1)).toNatClampNeg = iI x1) (e2 : H.2.2.2.2.2 (iI (i + 2)).toNatClampNeg = iI x2) (e3 : H.2.2.2.2.2 (iI (i + 3)).toNatClampNeg = iI x3) (e4 : H.2.2.2.2.2 (iI (i + 4)).toNatClampNeg = iI x4) (e5 : H.2.2.2.2.2 (iI (i + 5)).toNatClampNeg = iI x5) (hC : ∀ Q, Call 11 m_X7_apply [.ref 0, .int (iI x1), .int (iI x2), .int (iI x3), .int (iI x4), .int (iI x5)] H Q = Q (.inr 1) (hexc K)) (CK : CW K dy' nb' B' nu' U' np' P' nf' F' nx' kp' pa' zr0' zs' sv' lr' le' ln' ps' ch' rq' V') (FK : HF H K) (hM : ∀ Q, Call 12 m_X8_apply [.ref 109, .int (iI x1), .int (iI x2), .int (iI x3), .int (iI x4), .int (iI x5)] (wm (hexc K) G A kp S (iI sv) tw ke le ch ln ab pt rm en aa iw kd n1 n2 n3 n4 gd) Q = Q (.inl (some (.int (iI b)))) (wm (hexc K) G' A' kp' S' (iI sv') 2 ke' le' ch' ln' ab' pt' rm' en' aa' iw' kd' n1' n2' n3' n4' gd')) (L : LPx dy' nb' B' nu' U' np' P' nf' F' nx' kp' pa' zs' sv' lr' le' ln' ch' rq' V' G' A' S' ke') : ∃ (H2 : XH) (m6 m7 : Value), LRx H2 ∧ Fn H H2 ∧ ∀ Q, EvQ 13 m_L_law 655 [.ref 2000000, .ref 0, .ref 109, .ref 117, .ref 118, .int (iI i), l6, l7, xjunk] [] H Q = EvQ 13 m_L_law 28 [.ref 2000000, .ref 0, .ref 109, .ref 117, .ref 118, .int (iI (i + 6)), m6, m7, xjunk] [] H2 Q := by
  have M1 : MWo (hexc K) G A kp S (iI sv) tw ke le ch ln ab pt rm en aa iw kd n1 n2 n3 n4 gd := mo_exc (mo_hf M FK)
  have C1 : CW (hexc K) dy' nb' B' nu' U' np' P' nf' F' nx' kp' pa' zr0' zs' sv' lr' le' ln' ps' ch' rq' V' := st_exc CK
  have hH := lx_apply_1 C.2.1 hC
  obtain ⟨fs1, h9⟩ := mo_h9 M1
  have M2 : MWo (wm (hexc K) G' A' kp' S' (iI sv') 2 ke' le' ch' ln' ab' pt' rm' en' aa' iw' kd' n1' n2' n3' n4' gd') G' A' kp' S' (iI sv') 2 ke' le' ch' ln' ab' pt' rm' en' aa' iw' kd' n1' n2' n3' n4' gd' := MWo_wm
  obtain ⟨fs2, h9'⟩ := mo_h9 M2
  have hM' : ∀ Q, Call 12 m_X8_apply [.ref 109, .int (iI x1), .int (iI x2), .int (iI x3), .int (iI x4), .int (iI x5)] (hexc K) Q = Q (.inl (some (.int (iI b)))) (wm (hexc K) G' A' kp' S' (iI sv') 2 ke' le' ch' ln' ab' pt' rm' en' aa' iw' kd' n1' n2' n3' n4' gd') := fun Q => by
    have := hM Q
    rw [show wm (hexc K) G A kp S (iI sv) tw ke le ch ln ab pt rm en aa iw kd n1 n2 n3 n4 gd = hexc K from M1] at this
    exact this
  have k2 := FK.2
  have e1' : (hexc K).2.2.2.2 = H.2.2.2.2 := by rw [← k2]; rfl
  have e2' : (hexc K).2.2.1 = H.2.2.1 + 1 := by rw [← k2]; rfl
  have e3' : (hexc K).2.2.2.1 = H.2.2.2.1 + 6 := by rw [← k2]; rfl
  refine ⟨wm (hexc K) G' A' kp' S' (iI sv') 2 ke' le' ch' ln' ab' pt' rm' en' aa' iw' kd' n1' n2' n3' n4' gd', .int (iI 2), .int (iI b), LRx_mk (st_wm C1) M2 (g := g) (g2 := g2) (by rw [xmm_n (by omega), hexc_get, FK.1 117 (by omega)]; exact h1) (by rw [xmm_n (by omega), hexc_get, FK.1 118 (by omega)]; exact h2) L, ⟨e1', ?_, ?_⟩, fun Q => lc_apply (g := g) hL e1 e2 e3 e4 e5 hH e1' h9 hM' h9' (fun Q => mo_tw Q) (Or.inr (by omega))⟩
  · show (hexc K).2.2.1 ≤ _
    omega
  · show (hexc K).2.2.2.1 ≤ _
    omega
theorem fv_applyAll (C : CW H dy nb B nu U np P nf F nx kp pa zr0 zs sv lr le ln ps ch rq V) (M : MWo H G A kp S (iI sv) tw ke le ch ln ab pt rm en aa iw kd n1 n2 n3 n4 gd) (h1 : hget H 117 = some (ola g)) (h2 : hget H 118 = some (oda g2)) (hL : 0 ≤ i ∧ i + 6 ≤ (H.2.2.2.2.1 : Int) ∧ H.2.2.2.2.1 < 1000000) (hC : ∀ Q, Call 11 m_X7_applyAll [.ref 0] H Q = Q (.inl (some (.int (iI v)))) K) (CK : CW K dy' nb' B' nu' U' np' P' nf' F' nx' kp' pa' zr0' zs' sv' lr' le' ln' ps' ch' rq' V') (FK : HF H K) (hX : X = hset K 117 (ola (vp_updL g (iI 0).toNatClampNeg (iI v).toInt64))) (hM : ∀ Q, Call 12 m_X8_applyAll [.ref 109] (wm X G A kp S (iI sv) tw ke le ch ln ab pt rm en aa iw kd n1 n2 n3 n4 gd) Q = Q (.inl (some (.int (iI v)))) (wm X G' A' kp' S' (iI sv') 0 ke' le' ch' ln' ab' pt' rm' en' aa' iw' kd' n1' n2' n3' n4' gd')) (L : LPx dy' nb' B' nu' U' np' P' nf' F' nx' kp' pa' zs' sv' lr' le' ln' ch' rq' V' G' A' S' ke') : ∃ (H2 : XH) (m6 m7 : Value), LRx H2 ∧ Fn H H2 ∧ ∀ Q, EvQ 13 m_L_law 759 [.ref 2000000, .ref 0, .ref 109, .ref 117, .ref 118, .int (iI i), l6, l7, xjunk] [] H Q = EvQ 13 m_L_law 28 [.ref 2000000, .ref 0, .ref 109, .ref 117, .ref 118, .int (iI (i + 6)), m6, m7, xjunk] [] H2 Q := by
  have hK : hget K 117 = some (ola g) := by rw [FK.1 117 (by omega)]; exact h1
  have M1 : MWo X G A kp S (iI sv) tw ke le ch ln ab pt rm en aa iw kd n1 n2 n3 n4 gd := by rw [hX]; exact mo_out (mo_hf M FK)
  have C1 : CW X dy' nb' B' nu' U' np' P' nf' F' nx' kp' pa' zr0' zs' sv' lr' le' ln' ps' ch' rq' V' := by rw [hX]; exact st_out CK
  have hH := lo_applyAll C.2.1 hK hC
  rw [← hX] at hH
  obtain ⟨fs1, h9⟩ := mo_h9 M1
  have M2 : MWo (wm X G' A' kp' S' (iI sv') 0 ke' le' ch' ln' ab' pt' rm' en' aa' iw' kd' n1' n2' n3' n4' gd') G' A' kp' S' (iI sv') 0 ke' le' ch' ln' ab' pt' rm' en' aa' iw' kd' n1' n2' n3' n4' gd' := MWo_wm
  obtain ⟨fs2, h9'⟩ := mo_h9 M2
  have hM' : ∀ Q, Call 12 m_X8_applyAll [.ref 109] X Q = Q (.inl (some (.int (iI v)))) (wm X G' A' kp' S' (iI sv') 0 ke' le' ch' ln' ab' pt' rm' en' aa' iw' kd' n1' n2' n3' n4' gd') := fun Q => by
    have := hM Q
    rw [show wm X G A kp S (iI sv) tw ke le ch ln ab pt rm en aa iw kd n1 n2 n3 n4 gd = X from M1] at this
    exact this
  have e1' : X.2 = H.2 := by rw [hX]; exact FK.2
  have e2' : (wm X G' A' kp' S' (iI sv') 0 ke' le' ch' ln' ab' pt' rm' en' aa' iw' kd' n1' n2' n3' n4' gd').2 = H.2 := e1'
  exact ⟨wm X G' A' kp' S' (iI sv') 0 ke' le' ch' ln' ab' pt' rm' en' aa' iw' kd' n1' n2' n3' n4' gd', .int (iI 0), .int (iI v), LRx_mk (st_wm C1) M2 (g := vp_updL g (iI 0).toNatClampNeg (iI v).toInt64) (g2 := g2) (by rw [xmm_n (by omega), hX, hget_set]) (by rw [xmm_n (by omega), hX, hget_ne (by omega), FK.1 118 (by omega)]; exact h2) L, ⟨by rw [e2'], by rw [e2']; omega, by rw [e2']; omega⟩, fun Q => lc_applyAll hL hH (by rw [e1']) h9 hM' h9' (fun Q => mo_tw Q) (Or.inl ⟨rfl, by rw [xmm_n (by omega), hX, hget_set], updL_at⟩)⟩
theorem fx_applyAll_0 (C : CW H dy nb B nu U np P nf F nx kp pa zr0 zs sv lr le ln ps ch rq V) (M : MWo H G A kp S (iI sv) tw ke le ch ln ab pt rm en aa iw kd n1 n2 n3 n4 gd) (h1 : hget H 117 = some (ola g)) (h2 : hget H 118 = some (oda g2)) (hL : 0 ≤ i ∧ i + 6 ≤ (H.2.2.2.2.1 : Int) ∧ H.2.2.2.2.1 < 1000000) (hC : ∀ Q, Call 11 m_X7_applyAll [.ref 0] H Q = Q (.inr 0) (hexc K)) (CK : CW K dy' nb' B' nu' U' np' P' nf' F' nx' kp' pa' zr0' zs' sv' lr' le' ln' ps' ch' rq' V') (FK : HF H K) (hM : ∀ Q, Call 12 m_X8_applyAll [.ref 109] (wm (hexc K) G A kp S (iI sv) tw ke le ch ln ab pt rm en aa iw kd n1 n2 n3 n4 gd) Q = Q (.inl (some (.int (iI b)))) (wm (hexc K) G' A' kp' S' (iI sv') 1 ke' le' ch' ln' ab' pt' rm' en' aa' iw' kd' n1' n2' n3' n4' gd')) (L : LPx dy' nb' B' nu' U' np' P' nf' F' nx' kp' pa' zs' sv' lr' le' ln' ch' rq' V' G' A' S' ke') : ∃ (H2 : XH) (m6 m7 : Value), LRx H2 ∧ Fn H H2 ∧ ∀ Q, EvQ 13 m_L_law 759 [.ref 2000000, .ref 0, .ref 109, .ref 117, .ref 118, .int (iI i), l6, l7, xjunk] [] H Q = EvQ 13 m_L_law 28 [.ref 2000000, .ref 0, .ref 109, .ref 117, .ref 118, .int (iI (i + 6)), m6, m7, xjunk] [] H2 Q := by
  have M1 : MWo (hexc K) G A kp S (iI sv) tw ke le ch ln ab pt rm en aa iw kd n1 n2 n3 n4 gd := mo_exc (mo_hf M FK)
  have C1 : CW (hexc K) dy' nb' B' nu' U' np' P' nf' F' nx' kp' pa' zr0' zs' sv' lr' le' ln' ps' ch' rq' V' := st_exc CK
  have hH := lx_applyAll_0 C.2.1 hC
  obtain ⟨fs1, h9⟩ := mo_h9 M1
  have M2 : MWo (wm (hexc K) G' A' kp' S' (iI sv') 1 ke' le' ch' ln' ab' pt' rm' en' aa' iw' kd' n1' n2' n3' n4' gd') G' A' kp' S' (iI sv') 1 ke' le' ch' ln' ab' pt' rm' en' aa' iw' kd' n1' n2' n3' n4' gd' := MWo_wm
  obtain ⟨fs2, h9'⟩ := mo_h9 M2
  have hM' : ∀ Q, Call 12 m_X8_applyAll [.ref 109] (hexc K) Q = Q (.inl (some (.int (iI b)))) (wm (hexc K) G' A' kp' S' (iI sv') 1 ke' le' ch' ln' ab' pt' rm' en' aa' iw' kd' n1' n2' n3' n4' gd') := fun Q => by
    have := hM Q
    rw [show wm (hexc K) G A kp S (iI sv) tw ke le ch ln ab pt rm en aa iw kd n1 n2 n3 n4 gd = hexc K from M1] at this
    exact this
  have k2 := FK.2
  have e1' : (hexc K).2.2.2.2 = H.2.2.2.2 := by rw [← k2]; rfl
  have e2' : (hexc K).2.2.1 = H.2.2.1 + 1 := by rw [← k2]; rfl
  have e3' : (hexc K).2.2.2.1 = H.2.2.2.1 + 6 := by rw [← k2]; rfl
  refine ⟨wm (hexc K) G' A' kp' S' (iI sv') 1 ke' le' ch' ln' ab' pt' rm' en' aa' iw' kd' n1' n2' n3' n4' gd', .int (iI 1), .int (iI b), LRx_mk (st_wm C1) M2 (g := g) (g2 := g2) (by rw [xmm_n (by omega), hexc_get, FK.1 117 (by omega)]; exact h1) (by rw [xmm_n (by omega), hexc_get, FK.1 118 (by omega)]; exact h2) L, ⟨e1', ?_, ?_⟩, fun Q => lc_applyAll (g := g) hL hH e1' h9 hM' h9' (fun Q => mo_tw Q) (Or.inr (by omega))⟩
  · show (hexc K).2.2.1 ≤ _
    omega
  · show (hexc K).2.2.2.1 ≤ _
    omega
theorem fx_applyAll_1 (C : CW H dy nb B nu U np P nf F nx kp pa zr0 zs sv lr le ln ps ch rq V) (M : MWo H G A kp S (iI sv) tw ke le ch ln ab pt rm en aa iw kd n1 n2 n3 n4 gd) (h1 : hget H 117 = some (ola g)) (h2 : hget H 118 = some (oda g2)) (hL : 0 ≤ i ∧ i + 6 ≤ (H.2.2.2.2.1 : Int) ∧ H.2.2.2.2.1 < 1000000) (hC : ∀ Q, Call 11 m_X7_applyAll [.ref 0] H Q = Q (.inr 1) (hexc K)) (CK : CW K dy' nb' B' nu' U' np' P' nf' F' nx' kp' pa' zr0' zs' sv' lr' le' ln' ps' ch' rq' V') (FK : HF H K) (hM : ∀ Q, Call 12 m_X8_applyAll [.ref 109] (wm (hexc K) G A kp S (iI sv) tw ke le ch ln ab pt rm en aa iw kd n1 n2 n3 n4 gd) Q = Q (.inl (some (.int (iI b)))) (wm (hexc K) G' A' kp' S' (iI sv') 2 ke' le' ch' ln' ab' pt' rm' en' aa' iw' kd' n1' n2' n3' n4' gd')) (L : LPx dy' nb' B' nu' U' np' P' nf' F' nx' kp' pa' zs' sv' lr' le' ln' ch' rq' V' G' A' S' ke') : ∃ (H2 : XH) (m6 m7 : Value), LRx H2 ∧ Fn H H2 ∧ ∀ Q, EvQ 13 m_L_law 759 [.ref 2000000, .ref 0, .ref 109, .ref 117, .ref 118, .int (iI i), l6, l7, xjunk] [] H Q = EvQ 13 m_L_law 28 [.ref 2000000, .ref 0, .ref 109, .ref 117, .ref 118, .int (iI (i + 6)), m6, m7, xjunk] [] H2 Q := by
  have M1 : MWo (hexc K) G A kp S (iI sv) tw ke le ch ln ab pt rm en aa iw kd n1 n2 n3 n4 gd := mo_exc (mo_hf M FK)
  have C1 : CW (hexc K) dy' nb' B' nu' U' np' P' nf' F' nx' kp' pa' zr0' zs' sv' lr' le' ln' ps' ch' rq' V' := st_exc CK
  have hH := lx_applyAll_1 C.2.1 hC
  obtain ⟨fs1, h9⟩ := mo_h9 M1
  have M2 : MWo (wm (hexc K) G' A' kp' S' (iI sv') 2 ke' le' ch' ln' ab' pt' rm' en' aa' iw' kd' n1' n2' n3' n4' gd') G' A' kp' S' (iI sv') 2 ke' le' ch' ln' ab' pt' rm' en' aa' iw' kd' n1' n2' n3' n4' gd' := MWo_wm
  obtain ⟨fs2, h9'⟩ := mo_h9 M2
  have hM' : ∀ Q, Call 12 m_X8_applyAll [.ref 109] (hexc K) Q = Q (.inl (some (.int (iI b)))) (wm (hexc K) G' A' kp' S' (iI sv') 2 ke' le' ch' ln' ab' pt' rm' en' aa' iw' kd' n1' n2' n3' n4' gd') := fun Q => by
    have := hM Q
    rw [show wm (hexc K) G A kp S (iI sv) tw ke le ch ln ab pt rm en aa iw kd n1 n2 n3 n4 gd = hexc K from M1] at this
    exact this
  have k2 := FK.2
  have e1' : (hexc K).2.2.2.2 = H.2.2.2.2 := by rw [← k2]; rfl
  have e2' : (hexc K).2.2.1 = H.2.2.1 + 1 := by rw [← k2]; rfl
  have e3' : (hexc K).2.2.2.1 = H.2.2.2.1 + 6 := by rw [← k2]; rfl
  refine ⟨wm (hexc K) G' A' kp' S' (iI sv') 2 ke' le' ch' ln' ab' pt' rm' en' aa' iw' kd' n1' n2' n3' n4' gd', .int (iI 2), .int (iI b), LRx_mk (st_wm C1) M2 (g := g) (g2 := g2) (by rw [xmm_n (by omega), hexc_get, FK.1 117 (by omega)]; exact h1) (by rw [xmm_n (by omega), hexc_get, FK.1 118 (by omega)]; exact h2) L, ⟨e1', ?_, ?_⟩, fun Q => lc_applyAll (g := g) hL hH e1' h9 hM' h9' (fun Q => mo_tw Q) (Or.inr (by omega))⟩
  · show (hexc K).2.2.1 ≤ _
    omega
  · show (hexc K).2.2.2.1 ≤ _
    omega
theorem fv_grant (C : CW H dy nb B nu U np P nf F nx kp pa zr0 zs sv lr le ln ps ch rq V) (M : MWo H G A kp S (iI sv) tw ke le ch ln ab pt rm en aa iw kd n1 n2 n3 n4 gd) (h1 : hget H 117 = some (ola g)) (h2 : hget H 118 = some (oda g2)) (hL : 0 ≤ i ∧ i + 6 ≤ (H.2.2.2.2.1 : Int) ∧ H.2.2.2.2.1 < 1000000) (e1 : H.2.2.2.2.2 (iI (i + 1)).toNatClampNeg = iI x1) (hC : ∀ Q, Call 11 m_X7_grant [.ref 0, .int (iI x1)] H Q = Q (.inl (some (.int (iI v)))) K) (CK : CW K dy' nb' B' nu' U' np' P' nf' F' nx' kp' pa' zr0' zs' sv' lr' le' ln' ps' ch' rq' V') (FK : HF H K) (hX : X = hset K 117 (ola (vp_updL g (iI 0).toNatClampNeg (iI v).toInt64))) (hM : ∀ Q, Call 12 m_X8_grant [.ref 109, .int (iI x1)] (wm X G A kp S (iI sv) tw ke le ch ln ab pt rm en aa iw kd n1 n2 n3 n4 gd) Q = Q (.inl (some (.int (iI v)))) (wm X G' A' kp' S' (iI sv') 0 ke' le' ch' ln' ab' pt' rm' en' aa' iw' kd' n1' n2' n3' n4' gd')) (L : LPx dy' nb' B' nu' U' np' P' nf' F' nx' kp' pa' zs' sv' lr' le' ln' ch' rq' V' G' A' S' ke') : ∃ (H2 : XH) (m6 m7 : Value), LRx H2 ∧ Fn H H2 ∧ ∀ Q, EvQ 13 m_L_law 803 [.ref 2000000, .ref 0, .ref 109, .ref 117, .ref 118, .int (iI i), l6, l7, xjunk] [] H Q = EvQ 13 m_L_law 28 [.ref 2000000, .ref 0, .ref 109, .ref 117, .ref 118, .int (iI (i + 6)), m6, m7, xjunk] [] H2 Q := by
  have hK : hget K 117 = some (ola g) := by rw [FK.1 117 (by omega)]; exact h1
  have M1 : MWo X G A kp S (iI sv) tw ke le ch ln ab pt rm en aa iw kd n1 n2 n3 n4 gd := by rw [hX]; exact mo_out (mo_hf M FK)
  have C1 : CW X dy' nb' B' nu' U' np' P' nf' F' nx' kp' pa' zr0' zs' sv' lr' le' ln' ps' ch' rq' V' := by rw [hX]; exact st_out CK
  have hH := lo_grant C.2.1 hK hC
  rw [← hX] at hH
  obtain ⟨fs1, h9⟩ := mo_h9 M1
  have M2 : MWo (wm X G' A' kp' S' (iI sv') 0 ke' le' ch' ln' ab' pt' rm' en' aa' iw' kd' n1' n2' n3' n4' gd') G' A' kp' S' (iI sv') 0 ke' le' ch' ln' ab' pt' rm' en' aa' iw' kd' n1' n2' n3' n4' gd' := MWo_wm
  obtain ⟨fs2, h9'⟩ := mo_h9 M2
  have hM' : ∀ Q, Call 12 m_X8_grant [.ref 109, .int (iI x1)] X Q = Q (.inl (some (.int (iI v)))) (wm X G' A' kp' S' (iI sv') 0 ke' le' ch' ln' ab' pt' rm' en' aa' iw' kd' n1' n2' n3' n4' gd') := fun Q => by
    have := hM Q
    rw [show wm X G A kp S (iI sv) tw ke le ch ln ab pt rm en aa iw kd n1 n2 n3 n4 gd = X from M1] at this
    exact this
  have e1' : X.2 = H.2 := by rw [hX]; exact FK.2
  have e2' : (wm X G' A' kp' S' (iI sv') 0 ke' le' ch' ln' ab' pt' rm' en' aa' iw' kd' n1' n2' n3' n4' gd').2 = H.2 := e1'
  exact ⟨wm X G' A' kp' S' (iI sv') 0 ke' le' ch' ln' ab' pt' rm' en' aa' iw' kd' n1' n2' n3' n4' gd', .int (iI 0), .int (iI v), LRx_mk (st_wm C1) M2 (g := vp_updL g (iI 0).toNatClampNeg (iI v).toInt64) (g2 := g2) (by rw [xmm_n (by omega), hX, hget_set]) (by rw [xmm_n (by omega), hX, hget_ne (by omega), FK.1 118 (by omega)]; exact h2) L, ⟨by rw [e2'], by rw [e2']; omega, by rw [e2']; omega⟩, fun Q => lc_grant hL e1 hH (by rw [e1']) h9 hM' h9' (fun Q => mo_tw Q) (Or.inl ⟨rfl, by rw [xmm_n (by omega), hX, hget_set], updL_at⟩)⟩
theorem fx_grant_2 (C : CW H dy nb B nu U np P nf F nx kp pa zr0 zs sv lr le ln ps ch rq V) (M : MWo H G A kp S (iI sv) tw ke le ch ln ab pt rm en aa iw kd n1 n2 n3 n4 gd) (h1 : hget H 117 = some (ola g)) (h2 : hget H 118 = some (oda g2)) (hL : 0 ≤ i ∧ i + 6 ≤ (H.2.2.2.2.1 : Int) ∧ H.2.2.2.2.1 < 1000000) (e1 : H.2.2.2.2.2 (iI (i + 1)).toNatClampNeg = iI x1) (hC : ∀ Q, Call 11 m_X7_grant [.ref 0, .int (iI x1)] H Q = Q (.inr 2) (hexc K)) (CK : CW K dy' nb' B' nu' U' np' P' nf' F' nx' kp' pa' zr0' zs' sv' lr' le' ln' ps' ch' rq' V') (FK : HF H K) (hM : ∀ Q, Call 12 m_X8_grant [.ref 109, .int (iI x1)] (wm (hexc K) G A kp S (iI sv) tw ke le ch ln ab pt rm en aa iw kd n1 n2 n3 n4 gd) Q = Q (.inl (some (.int (iI b)))) (wm (hexc K) G' A' kp' S' (iI sv') 1 ke' le' ch' ln' ab' pt' rm' en' aa' iw' kd' n1' n2' n3' n4' gd')) (L : LPx dy' nb' B' nu' U' np' P' nf' F' nx' kp' pa' zs' sv' lr' le' ln' ch' rq' V' G' A' S' ke') : ∃ (H2 : XH) (m6 m7 : Value), LRx H2 ∧ Fn H H2 ∧ ∀ Q, EvQ 13 m_L_law 803 [.ref 2000000, .ref 0, .ref 109, .ref 117, .ref 118, .int (iI i), l6, l7, xjunk] [] H Q = EvQ 13 m_L_law 28 [.ref 2000000, .ref 0, .ref 109, .ref 117, .ref 118, .int (iI (i + 6)), m6, m7, xjunk] [] H2 Q := by
  have M1 : MWo (hexc K) G A kp S (iI sv) tw ke le ch ln ab pt rm en aa iw kd n1 n2 n3 n4 gd := mo_exc (mo_hf M FK)
  have C1 : CW (hexc K) dy' nb' B' nu' U' np' P' nf' F' nx' kp' pa' zr0' zs' sv' lr' le' ln' ps' ch' rq' V' := st_exc CK
  have hH := lx_grant_2 C.2.1 hC
  obtain ⟨fs1, h9⟩ := mo_h9 M1
  have M2 : MWo (wm (hexc K) G' A' kp' S' (iI sv') 1 ke' le' ch' ln' ab' pt' rm' en' aa' iw' kd' n1' n2' n3' n4' gd') G' A' kp' S' (iI sv') 1 ke' le' ch' ln' ab' pt' rm' en' aa' iw' kd' n1' n2' n3' n4' gd' := MWo_wm
  obtain ⟨fs2, h9'⟩ := mo_h9 M2
  have hM' : ∀ Q, Call 12 m_X8_grant [.ref 109, .int (iI x1)] (hexc K) Q = Q (.inl (some (.int (iI b)))) (wm (hexc K) G' A' kp' S' (iI sv') 1 ke' le' ch' ln' ab' pt' rm' en' aa' iw' kd' n1' n2' n3' n4' gd') := fun Q => by
    have := hM Q
    rw [show wm (hexc K) G A kp S (iI sv) tw ke le ch ln ab pt rm en aa iw kd n1 n2 n3 n4 gd = hexc K from M1] at this
    exact this
  have k2 := FK.2
  have e1' : (hexc K).2.2.2.2 = H.2.2.2.2 := by rw [← k2]; rfl
  have e2' : (hexc K).2.2.1 = H.2.2.1 + 1 := by rw [← k2]; rfl
  have e3' : (hexc K).2.2.2.1 = H.2.2.2.1 + 6 := by rw [← k2]; rfl
  refine ⟨wm (hexc K) G' A' kp' S' (iI sv') 1 ke' le' ch' ln' ab' pt' rm' en' aa' iw' kd' n1' n2' n3' n4' gd', .int (iI 1), .int (iI b), LRx_mk (st_wm C1) M2 (g := g) (g2 := g2) (by rw [xmm_n (by omega), hexc_get, FK.1 117 (by omega)]; exact h1) (by rw [xmm_n (by omega), hexc_get, FK.1 118 (by omega)]; exact h2) L, ⟨e1', ?_, ?_⟩, fun Q => lc_grant (g := g) hL e1 hH e1' h9 hM' h9' (fun Q => mo_tw Q) (Or.inr (by omega))⟩
  · show (hexc K).2.2.1 ≤ _
    omega
  · show (hexc K).2.2.2.1 ≤ _
    omega
theorem fx_grant_4 (C : CW H dy nb B nu U np P nf F nx kp pa zr0 zs sv lr le ln ps ch rq V) (M : MWo H G A kp S (iI sv) tw ke le ch ln ab pt rm en aa iw kd n1 n2 n3 n4 gd) (h1 : hget H 117 = some (ola g)) (h2 : hget H 118 = some (oda g2)) (hL : 0 ≤ i ∧ i + 6 ≤ (H.2.2.2.2.1 : Int) ∧ H.2.2.2.2.1 < 1000000) (e1 : H.2.2.2.2.2 (iI (i + 1)).toNatClampNeg = iI x1) (hC : ∀ Q, Call 11 m_X7_grant [.ref 0, .int (iI x1)] H Q = Q (.inr 4) (hexc K)) (CK : CW K dy' nb' B' nu' U' np' P' nf' F' nx' kp' pa' zr0' zs' sv' lr' le' ln' ps' ch' rq' V') (FK : HF H K) (hM : ∀ Q, Call 12 m_X8_grant [.ref 109, .int (iI x1)] (wm (hexc K) G A kp S (iI sv) tw ke le ch ln ab pt rm en aa iw kd n1 n2 n3 n4 gd) Q = Q (.inl (some (.int (iI b)))) (wm (hexc K) G' A' kp' S' (iI sv') 2 ke' le' ch' ln' ab' pt' rm' en' aa' iw' kd' n1' n2' n3' n4' gd')) (L : LPx dy' nb' B' nu' U' np' P' nf' F' nx' kp' pa' zs' sv' lr' le' ln' ch' rq' V' G' A' S' ke') : ∃ (H2 : XH) (m6 m7 : Value), LRx H2 ∧ Fn H H2 ∧ ∀ Q, EvQ 13 m_L_law 803 [.ref 2000000, .ref 0, .ref 109, .ref 117, .ref 118, .int (iI i), l6, l7, xjunk] [] H Q = EvQ 13 m_L_law 28 [.ref 2000000, .ref 0, .ref 109, .ref 117, .ref 118, .int (iI (i + 6)), m6, m7, xjunk] [] H2 Q := by
  have M1 : MWo (hexc K) G A kp S (iI sv) tw ke le ch ln ab pt rm en aa iw kd n1 n2 n3 n4 gd := mo_exc (mo_hf M FK)
  have C1 : CW (hexc K) dy' nb' B' nu' U' np' P' nf' F' nx' kp' pa' zr0' zs' sv' lr' le' ln' ps' ch' rq' V' := st_exc CK
  have hH := lx_grant_4 C.2.1 hC
  obtain ⟨fs1, h9⟩ := mo_h9 M1
  have M2 : MWo (wm (hexc K) G' A' kp' S' (iI sv') 2 ke' le' ch' ln' ab' pt' rm' en' aa' iw' kd' n1' n2' n3' n4' gd') G' A' kp' S' (iI sv') 2 ke' le' ch' ln' ab' pt' rm' en' aa' iw' kd' n1' n2' n3' n4' gd' := MWo_wm
  obtain ⟨fs2, h9'⟩ := mo_h9 M2
  have hM' : ∀ Q, Call 12 m_X8_grant [.ref 109, .int (iI x1)] (hexc K) Q = Q (.inl (some (.int (iI b)))) (wm (hexc K) G' A' kp' S' (iI sv') 2 ke' le' ch' ln' ab' pt' rm' en' aa' iw' kd' n1' n2' n3' n4' gd') := fun Q => by
    have := hM Q
    rw [show wm (hexc K) G A kp S (iI sv) tw ke le ch ln ab pt rm en aa iw kd n1 n2 n3 n4 gd = hexc K from M1] at this
    exact this
  have k2 := FK.2
  have e1' : (hexc K).2.2.2.2 = H.2.2.2.2 := by rw [← k2]; rfl
  have e2' : (hexc K).2.2.1 = H.2.2.1 + 1 := by rw [← k2]; rfl
  have e3' : (hexc K).2.2.2.1 = H.2.2.2.1 + 6 := by rw [← k2]; rfl
  refine ⟨wm (hexc K) G' A' kp' S' (iI sv') 2 ke' le' ch' ln' ab' pt' rm' en' aa' iw' kd' n1' n2' n3' n4' gd', .int (iI 2), .int (iI b), LRx_mk (st_wm C1) M2 (g := g) (g2 := g2) (by rw [xmm_n (by omega), hexc_get, FK.1 117 (by omega)]; exact h1) (by rw [xmm_n (by omega), hexc_get, FK.1 118 (by omega)]; exact h2) L, ⟨e1', ?_, ?_⟩, fun Q => lc_grant (g := g) hL e1 hH e1' h9 hM' h9' (fun Q => mo_tw Q) (Or.inr (by omega))⟩
  · show (hexc K).2.2.1 ≤ _
    omega
  · show (hexc K).2.2.2.1 ≤ _
    omega
theorem fx_grant_1 (C : CW H dy nb B nu U np P nf F nx kp pa zr0 zs sv lr le ln ps ch rq V) (M : MWo H G A kp S (iI sv) tw ke le ch ln ab pt rm en aa iw kd n1 n2 n3 n4 gd) (h1 : hget H 117 = some (ola g)) (h2 : hget H 118 = some (oda g2)) (hL : 0 ≤ i ∧ i + 6 ≤ (H.2.2.2.2.1 : Int) ∧ H.2.2.2.2.1 < 1000000) (e1 : H.2.2.2.2.2 (iI (i + 1)).toNatClampNeg = iI x1) (hC : ∀ Q, Call 11 m_X7_grant [.ref 0, .int (iI x1)] H Q = Q (.inr 1) (hexc K)) (CK : CW K dy' nb' B' nu' U' np' P' nf' F' nx' kp' pa' zr0' zs' sv' lr' le' ln' ps' ch' rq' V') (FK : HF H K) (hM : ∀ Q, Call 12 m_X8_grant [.ref 109, .int (iI x1)] (wm (hexc K) G A kp S (iI sv) tw ke le ch ln ab pt rm en aa iw kd n1 n2 n3 n4 gd) Q = Q (.inl (some (.int (iI b)))) (wm (hexc K) G' A' kp' S' (iI sv') 3 ke' le' ch' ln' ab' pt' rm' en' aa' iw' kd' n1' n2' n3' n4' gd')) (L : LPx dy' nb' B' nu' U' np' P' nf' F' nx' kp' pa' zs' sv' lr' le' ln' ch' rq' V' G' A' S' ke') : ∃ (H2 : XH) (m6 m7 : Value), LRx H2 ∧ Fn H H2 ∧ ∀ Q, EvQ 13 m_L_law 803 [.ref 2000000, .ref 0, .ref 109, .ref 117, .ref 118, .int (iI i), l6, l7, xjunk] [] H Q = EvQ 13 m_L_law 28 [.ref 2000000, .ref 0, .ref 109, .ref 117, .ref 118, .int (iI (i + 6)), m6, m7, xjunk] [] H2 Q := by
  have M1 : MWo (hexc K) G A kp S (iI sv) tw ke le ch ln ab pt rm en aa iw kd n1 n2 n3 n4 gd := mo_exc (mo_hf M FK)
  have C1 : CW (hexc K) dy' nb' B' nu' U' np' P' nf' F' nx' kp' pa' zr0' zs' sv' lr' le' ln' ps' ch' rq' V' := st_exc CK
  have hH := lx_grant_1 C.2.1 hC
  obtain ⟨fs1, h9⟩ := mo_h9 M1
  have M2 : MWo (wm (hexc K) G' A' kp' S' (iI sv') 3 ke' le' ch' ln' ab' pt' rm' en' aa' iw' kd' n1' n2' n3' n4' gd') G' A' kp' S' (iI sv') 3 ke' le' ch' ln' ab' pt' rm' en' aa' iw' kd' n1' n2' n3' n4' gd' := MWo_wm
  obtain ⟨fs2, h9'⟩ := mo_h9 M2
  have hM' : ∀ Q, Call 12 m_X8_grant [.ref 109, .int (iI x1)] (hexc K) Q = Q (.inl (some (.int (iI b)))) (wm (hexc K) G' A' kp' S' (iI sv') 3 ke' le' ch' ln' ab' pt' rm' en' aa' iw' kd' n1' n2' n3' n4' gd') := fun Q => by
    have := hM Q
    rw [show wm (hexc K) G A kp S (iI sv) tw ke le ch ln ab pt rm en aa iw kd n1 n2 n3 n4 gd = hexc K from M1] at this
    exact this
  have k2 := FK.2
  have e1' : (hexc K).2.2.2.2 = H.2.2.2.2 := by rw [← k2]; rfl
  have e2' : (hexc K).2.2.1 = H.2.2.1 + 1 := by rw [← k2]; rfl
  have e3' : (hexc K).2.2.2.1 = H.2.2.2.1 + 6 := by rw [← k2]; rfl
  refine ⟨wm (hexc K) G' A' kp' S' (iI sv') 3 ke' le' ch' ln' ab' pt' rm' en' aa' iw' kd' n1' n2' n3' n4' gd', .int (iI 3), .int (iI b), LRx_mk (st_wm C1) M2 (g := g) (g2 := g2) (by rw [xmm_n (by omega), hexc_get, FK.1 117 (by omega)]; exact h1) (by rw [xmm_n (by omega), hexc_get, FK.1 118 (by omega)]; exact h2) L, ⟨e1', ?_, ?_⟩, fun Q => lc_grant (g := g) hL e1 hH e1' h9 hM' h9' (fun Q => mo_tw Q) (Or.inr (by omega))⟩
  · show (hexc K).2.2.1 ≤ _
    omega
  · show (hexc K).2.2.2.1 ≤ _
    omega
theorem fv_refuse (C : CW H dy nb B nu U np P nf F nx kp pa zr0 zs sv lr le ln ps ch rq V) (M : MWo H G A kp S (iI sv) tw ke le ch ln ab pt rm en aa iw kd n1 n2 n3 n4 gd) (h1 : hget H 117 = some (ola g)) (h2 : hget H 118 = some (oda g2)) (hL : 0 ≤ i ∧ i + 6 ≤ (H.2.2.2.2.1 : Int) ∧ H.2.2.2.2.1 < 1000000) (e1 : H.2.2.2.2.2 (iI (i + 1)).toNatClampNeg = iI x1) (hC : ∀ Q, Call 11 m_X7_refuse [.ref 0, .int (iI x1)] H Q = Q (.inl (some (.int (iI v)))) K) (CK : CW K dy' nb' B' nu' U' np' P' nf' F' nx' kp' pa' zr0' zs' sv' lr' le' ln' ps' ch' rq' V') (FK : HF H K) (hX : X = hset K 117 (ola (vp_updL g (iI 0).toNatClampNeg (iI v).toInt64))) (hM : ∀ Q, Call 12 m_X8_refuse [.ref 109, .int (iI x1)] (wm X G A kp S (iI sv) tw ke le ch ln ab pt rm en aa iw kd n1 n2 n3 n4 gd) Q = Q (.inl (some (.int (iI v)))) (wm X G' A' kp' S' (iI sv') 0 ke' le' ch' ln' ab' pt' rm' en' aa' iw' kd' n1' n2' n3' n4' gd')) (L : LPx dy' nb' B' nu' U' np' P' nf' F' nx' kp' pa' zs' sv' lr' le' ln' ch' rq' V' G' A' S' ke') : ∃ (H2 : XH) (m6 m7 : Value), LRx H2 ∧ Fn H H2 ∧ ∀ Q, EvQ 13 m_L_law 859 [.ref 2000000, .ref 0, .ref 109, .ref 117, .ref 118, .int (iI i), l6, l7, xjunk] [] H Q = EvQ 13 m_L_law 28 [.ref 2000000, .ref 0, .ref 109, .ref 117, .ref 118, .int (iI (i + 6)), m6, m7, xjunk] [] H2 Q := by
  have hK : hget K 117 = some (ola g) := by rw [FK.1 117 (by omega)]; exact h1
  have M1 : MWo X G A kp S (iI sv) tw ke le ch ln ab pt rm en aa iw kd n1 n2 n3 n4 gd := by rw [hX]; exact mo_out (mo_hf M FK)
  have C1 : CW X dy' nb' B' nu' U' np' P' nf' F' nx' kp' pa' zr0' zs' sv' lr' le' ln' ps' ch' rq' V' := by rw [hX]; exact st_out CK
  have hH := lo_refuse C.2.1 hK hC
  rw [← hX] at hH
  obtain ⟨fs1, h9⟩ := mo_h9 M1
  have M2 : MWo (wm X G' A' kp' S' (iI sv') 0 ke' le' ch' ln' ab' pt' rm' en' aa' iw' kd' n1' n2' n3' n4' gd') G' A' kp' S' (iI sv') 0 ke' le' ch' ln' ab' pt' rm' en' aa' iw' kd' n1' n2' n3' n4' gd' := MWo_wm
  obtain ⟨fs2, h9'⟩ := mo_h9 M2
  have hM' : ∀ Q, Call 12 m_X8_refuse [.ref 109, .int (iI x1)] X Q = Q (.inl (some (.int (iI v)))) (wm X G' A' kp' S' (iI sv') 0 ke' le' ch' ln' ab' pt' rm' en' aa' iw' kd' n1' n2' n3' n4' gd') := fun Q => by
    have := hM Q
    rw [show wm X G A kp S (iI sv) tw ke le ch ln ab pt rm en aa iw kd n1 n2 n3 n4 gd = X from M1] at this
    exact this
  have e1' : X.2 = H.2 := by rw [hX]; exact FK.2
  have e2' : (wm X G' A' kp' S' (iI sv') 0 ke' le' ch' ln' ab' pt' rm' en' aa' iw' kd' n1' n2' n3' n4' gd').2 = H.2 := e1'
  exact ⟨wm X G' A' kp' S' (iI sv') 0 ke' le' ch' ln' ab' pt' rm' en' aa' iw' kd' n1' n2' n3' n4' gd', .int (iI 0), .int (iI v), LRx_mk (st_wm C1) M2 (g := vp_updL g (iI 0).toNatClampNeg (iI v).toInt64) (g2 := g2) (by rw [xmm_n (by omega), hX, hget_set]) (by rw [xmm_n (by omega), hX, hget_ne (by omega), FK.1 118 (by omega)]; exact h2) L, ⟨by rw [e2'], by rw [e2']; omega, by rw [e2']; omega⟩, fun Q => lc_refuse hL e1 hH (by rw [e1']) h9 hM' h9' (fun Q => mo_tw Q) (Or.inl ⟨rfl, by rw [xmm_n (by omega), hX, hget_set], updL_at⟩)⟩
theorem fx_refuse_2 (C : CW H dy nb B nu U np P nf F nx kp pa zr0 zs sv lr le ln ps ch rq V) (M : MWo H G A kp S (iI sv) tw ke le ch ln ab pt rm en aa iw kd n1 n2 n3 n4 gd) (h1 : hget H 117 = some (ola g)) (h2 : hget H 118 = some (oda g2)) (hL : 0 ≤ i ∧ i + 6 ≤ (H.2.2.2.2.1 : Int) ∧ H.2.2.2.2.1 < 1000000) (e1 : H.2.2.2.2.2 (iI (i + 1)).toNatClampNeg = iI x1) (hC : ∀ Q, Call 11 m_X7_refuse [.ref 0, .int (iI x1)] H Q = Q (.inr 2) (hexc K)) (CK : CW K dy' nb' B' nu' U' np' P' nf' F' nx' kp' pa' zr0' zs' sv' lr' le' ln' ps' ch' rq' V') (FK : HF H K) (hM : ∀ Q, Call 12 m_X8_refuse [.ref 109, .int (iI x1)] (wm (hexc K) G A kp S (iI sv) tw ke le ch ln ab pt rm en aa iw kd n1 n2 n3 n4 gd) Q = Q (.inl (some (.int (iI b)))) (wm (hexc K) G' A' kp' S' (iI sv') 1 ke' le' ch' ln' ab' pt' rm' en' aa' iw' kd' n1' n2' n3' n4' gd')) (L : LPx dy' nb' B' nu' U' np' P' nf' F' nx' kp' pa' zs' sv' lr' le' ln' ch' rq' V' G' A' S' ke') : ∃ (H2 : XH) (m6 m7 : Value), LRx H2 ∧ Fn H H2 ∧ ∀ Q, EvQ 13 m_L_law 859 [.ref 2000000, .ref 0, .ref 109, .ref 117, .ref 118, .int (iI i), l6, l7, xjunk] [] H Q = EvQ 13 m_L_law 28 [.ref 2000000, .ref 0, .ref 109, .ref 117, .ref 118, .int (iI (i + 6)), m6, m7, xjunk] [] H2 Q := by
  have M1 : MWo (hexc K) G A kp S (iI sv) tw ke le ch ln ab pt rm en aa iw kd n1 n2 n3 n4 gd := mo_exc (mo_hf M FK)
  have C1 : CW (hexc K) dy' nb' B' nu' U' np' P' nf' F' nx' kp' pa' zr0' zs' sv' lr' le' ln' ps' ch' rq' V' := st_exc CK
  have hH := lx_refuse_2 C.2.1 hC
  obtain ⟨fs1, h9⟩ := mo_h9 M1
  have M2 : MWo (wm (hexc K) G' A' kp' S' (iI sv') 1 ke' le' ch' ln' ab' pt' rm' en' aa' iw' kd' n1' n2' n3' n4' gd') G' A' kp' S' (iI sv') 1 ke' le' ch' ln' ab' pt' rm' en' aa' iw' kd' n1' n2' n3' n4' gd' := MWo_wm
  obtain ⟨fs2, h9'⟩ := mo_h9 M2
  have hM' : ∀ Q, Call 12 m_X8_refuse [.ref 109, .int (iI x1)] (hexc K) Q = Q (.inl (some (.int (iI b)))) (wm (hexc K) G' A' kp' S' (iI sv') 1 ke' le' ch' ln' ab' pt' rm' en' aa' iw' kd' n1' n2' n3' n4' gd') := fun Q => by
    have := hM Q
    rw [show wm (hexc K) G A kp S (iI sv) tw ke le ch ln ab pt rm en aa iw kd n1 n2 n3 n4 gd = hexc K from M1] at this
    exact this
  have k2 := FK.2
  have e1' : (hexc K).2.2.2.2 = H.2.2.2.2 := by rw [← k2]; rfl
  have e2' : (hexc K).2.2.1 = H.2.2.1 + 1 := by rw [← k2]; rfl
  have e3' : (hexc K).2.2.2.1 = H.2.2.2.1 + 6 := by rw [← k2]; rfl
  refine ⟨wm (hexc K) G' A' kp' S' (iI sv') 1 ke' le' ch' ln' ab' pt' rm' en' aa' iw' kd' n1' n2' n3' n4' gd', .int (iI 1), .int (iI b), LRx_mk (st_wm C1) M2 (g := g) (g2 := g2) (by rw [xmm_n (by omega), hexc_get, FK.1 117 (by omega)]; exact h1) (by rw [xmm_n (by omega), hexc_get, FK.1 118 (by omega)]; exact h2) L, ⟨e1', ?_, ?_⟩, fun Q => lc_refuse (g := g) hL e1 hH e1' h9 hM' h9' (fun Q => mo_tw Q) (Or.inr (by omega))⟩
  · show (hexc K).2.2.1 ≤ _
    omega
  · show (hexc K).2.2.2.1 ≤ _
    omega
theorem fx_refuse_4 (C : CW H dy nb B nu U np P nf F nx kp pa zr0 zs sv lr le ln ps ch rq V) (M : MWo H G A kp S (iI sv) tw ke le ch ln ab pt rm en aa iw kd n1 n2 n3 n4 gd) (h1 : hget H 117 = some (ola g)) (h2 : hget H 118 = some (oda g2)) (hL : 0 ≤ i ∧ i + 6 ≤ (H.2.2.2.2.1 : Int) ∧ H.2.2.2.2.1 < 1000000) (e1 : H.2.2.2.2.2 (iI (i + 1)).toNatClampNeg = iI x1) (hC : ∀ Q, Call 11 m_X7_refuse [.ref 0, .int (iI x1)] H Q = Q (.inr 4) (hexc K)) (CK : CW K dy' nb' B' nu' U' np' P' nf' F' nx' kp' pa' zr0' zs' sv' lr' le' ln' ps' ch' rq' V') (FK : HF H K) (hM : ∀ Q, Call 12 m_X8_refuse [.ref 109, .int (iI x1)] (wm (hexc K) G A kp S (iI sv) tw ke le ch ln ab pt rm en aa iw kd n1 n2 n3 n4 gd) Q = Q (.inl (some (.int (iI b)))) (wm (hexc K) G' A' kp' S' (iI sv') 2 ke' le' ch' ln' ab' pt' rm' en' aa' iw' kd' n1' n2' n3' n4' gd')) (L : LPx dy' nb' B' nu' U' np' P' nf' F' nx' kp' pa' zs' sv' lr' le' ln' ch' rq' V' G' A' S' ke') : ∃ (H2 : XH) (m6 m7 : Value), LRx H2 ∧ Fn H H2 ∧ ∀ Q, EvQ 13 m_L_law 859 [.ref 2000000, .ref 0, .ref 109, .ref 117, .ref 118, .int (iI i), l6, l7, xjunk] [] H Q = EvQ 13 m_L_law 28 [.ref 2000000, .ref 0, .ref 109, .ref 117, .ref 118, .int (iI (i + 6)), m6, m7, xjunk] [] H2 Q := by
  have M1 : MWo (hexc K) G A kp S (iI sv) tw ke le ch ln ab pt rm en aa iw kd n1 n2 n3 n4 gd := mo_exc (mo_hf M FK)
  have C1 : CW (hexc K) dy' nb' B' nu' U' np' P' nf' F' nx' kp' pa' zr0' zs' sv' lr' le' ln' ps' ch' rq' V' := st_exc CK
  have hH := lx_refuse_4 C.2.1 hC
  obtain ⟨fs1, h9⟩ := mo_h9 M1
  have M2 : MWo (wm (hexc K) G' A' kp' S' (iI sv') 2 ke' le' ch' ln' ab' pt' rm' en' aa' iw' kd' n1' n2' n3' n4' gd') G' A' kp' S' (iI sv') 2 ke' le' ch' ln' ab' pt' rm' en' aa' iw' kd' n1' n2' n3' n4' gd' := MWo_wm
  obtain ⟨fs2, h9'⟩ := mo_h9 M2
  have hM' : ∀ Q, Call 12 m_X8_refuse [.ref 109, .int (iI x1)] (hexc K) Q = Q (.inl (some (.int (iI b)))) (wm (hexc K) G' A' kp' S' (iI sv') 2 ke' le' ch' ln' ab' pt' rm' en' aa' iw' kd' n1' n2' n3' n4' gd') := fun Q => by
    have := hM Q
    rw [show wm (hexc K) G A kp S (iI sv) tw ke le ch ln ab pt rm en aa iw kd n1 n2 n3 n4 gd = hexc K from M1] at this
    exact this
  have k2 := FK.2
  have e1' : (hexc K).2.2.2.2 = H.2.2.2.2 := by rw [← k2]; rfl
  have e2' : (hexc K).2.2.1 = H.2.2.1 + 1 := by rw [← k2]; rfl
  have e3' : (hexc K).2.2.2.1 = H.2.2.2.1 + 6 := by rw [← k2]; rfl
  refine ⟨wm (hexc K) G' A' kp' S' (iI sv') 2 ke' le' ch' ln' ab' pt' rm' en' aa' iw' kd' n1' n2' n3' n4' gd', .int (iI 2), .int (iI b), LRx_mk (st_wm C1) M2 (g := g) (g2 := g2) (by rw [xmm_n (by omega), hexc_get, FK.1 117 (by omega)]; exact h1) (by rw [xmm_n (by omega), hexc_get, FK.1 118 (by omega)]; exact h2) L, ⟨e1', ?_, ?_⟩, fun Q => lc_refuse (g := g) hL e1 hH e1' h9 hM' h9' (fun Q => mo_tw Q) (Or.inr (by omega))⟩
  · show (hexc K).2.2.1 ≤ _
    omega
  · show (hexc K).2.2.2.1 ≤ _
    omega
theorem fv_begin (C : CW H dy nb B nu U np P nf F nx kp pa zr0 zs sv lr le ln ps ch rq V) (M : MWo H G A kp S (iI sv) tw ke le ch ln ab pt rm en aa iw kd n1 n2 n3 n4 gd) (h1 : hget H 117 = some (ola g)) (h2 : hget H 118 = some (oda g2)) (hL : 0 ≤ i ∧ i + 6 ≤ (H.2.2.2.2.1 : Int) ∧ H.2.2.2.2.1 < 1000000) (e1 : H.2.2.2.2.2 (iI (i + 1)).toNatClampNeg = iI x1) (hC : ∀ Q, Call 11 m_X7_begin [.ref 0, .int (iI x1)] H Q = Q (.inl (some (.int (iI v)))) K) (CK : CW K dy' nb' B' nu' U' np' P' nf' F' nx' kp' pa' zr0' zs' sv' lr' le' ln' ps' ch' rq' V') (FK : HF H K) (hX : X = hset K 117 (ola (vp_updL g (iI 0).toNatClampNeg (iI v).toInt64))) (hM : ∀ Q, Call 12 m_X8_begin [.ref 109, .int (iI x1)] (wm X G A kp S (iI sv) tw ke le ch ln ab pt rm en aa iw kd n1 n2 n3 n4 gd) Q = Q (.inl (some (.int (iI v)))) (wm X G' A' kp' S' (iI sv') 0 ke' le' ch' ln' ab' pt' rm' en' aa' iw' kd' n1' n2' n3' n4' gd')) (L : LPx dy' nb' B' nu' U' np' P' nf' F' nx' kp' pa' zs' sv' lr' le' ln' ch' rq' V' G' A' S' ke') : ∃ (H2 : XH) (m6 m7 : Value), LRx H2 ∧ Fn H H2 ∧ ∀ Q, EvQ 13 m_L_law 915 [.ref 2000000, .ref 0, .ref 109, .ref 117, .ref 118, .int (iI i), l6, l7, xjunk] [] H Q = EvQ 13 m_L_law 28 [.ref 2000000, .ref 0, .ref 109, .ref 117, .ref 118, .int (iI (i + 6)), m6, m7, xjunk] [] H2 Q := by
  have hK : hget K 117 = some (ola g) := by rw [FK.1 117 (by omega)]; exact h1
  have M1 : MWo X G A kp S (iI sv) tw ke le ch ln ab pt rm en aa iw kd n1 n2 n3 n4 gd := by rw [hX]; exact mo_out (mo_hf M FK)
  have C1 : CW X dy' nb' B' nu' U' np' P' nf' F' nx' kp' pa' zr0' zs' sv' lr' le' ln' ps' ch' rq' V' := by rw [hX]; exact st_out CK
  have hH := lo_begin C.2.1 hK hC
  rw [← hX] at hH
  obtain ⟨fs1, h9⟩ := mo_h9 M1
  have M2 : MWo (wm X G' A' kp' S' (iI sv') 0 ke' le' ch' ln' ab' pt' rm' en' aa' iw' kd' n1' n2' n3' n4' gd') G' A' kp' S' (iI sv') 0 ke' le' ch' ln' ab' pt' rm' en' aa' iw' kd' n1' n2' n3' n4' gd' := MWo_wm
  obtain ⟨fs2, h9'⟩ := mo_h9 M2
  have hM' : ∀ Q, Call 12 m_X8_begin [.ref 109, .int (iI x1)] X Q = Q (.inl (some (.int (iI v)))) (wm X G' A' kp' S' (iI sv') 0 ke' le' ch' ln' ab' pt' rm' en' aa' iw' kd' n1' n2' n3' n4' gd') := fun Q => by
    have := hM Q
    rw [show wm X G A kp S (iI sv) tw ke le ch ln ab pt rm en aa iw kd n1 n2 n3 n4 gd = X from M1] at this
    exact this
  have e1' : X.2 = H.2 := by rw [hX]; exact FK.2
  have e2' : (wm X G' A' kp' S' (iI sv') 0 ke' le' ch' ln' ab' pt' rm' en' aa' iw' kd' n1' n2' n3' n4' gd').2 = H.2 := e1'
  exact ⟨wm X G' A' kp' S' (iI sv') 0 ke' le' ch' ln' ab' pt' rm' en' aa' iw' kd' n1' n2' n3' n4' gd', .int (iI 0), .int (iI v), LRx_mk (st_wm C1) M2 (g := vp_updL g (iI 0).toNatClampNeg (iI v).toInt64) (g2 := g2) (by rw [xmm_n (by omega), hX, hget_set]) (by rw [xmm_n (by omega), hX, hget_ne (by omega), FK.1 118 (by omega)]; exact h2) L, ⟨by rw [e2'], by rw [e2']; omega, by rw [e2']; omega⟩, fun Q => lc_begin hL e1 hH (by rw [e1']) h9 hM' h9' (fun Q => mo_tw Q) (Or.inl ⟨rfl, by rw [xmm_n (by omega), hX, hget_set], updL_at⟩)⟩
theorem fx_begin_2 (C : CW H dy nb B nu U np P nf F nx kp pa zr0 zs sv lr le ln ps ch rq V) (M : MWo H G A kp S (iI sv) tw ke le ch ln ab pt rm en aa iw kd n1 n2 n3 n4 gd) (h1 : hget H 117 = some (ola g)) (h2 : hget H 118 = some (oda g2)) (hL : 0 ≤ i ∧ i + 6 ≤ (H.2.2.2.2.1 : Int) ∧ H.2.2.2.2.1 < 1000000) (e1 : H.2.2.2.2.2 (iI (i + 1)).toNatClampNeg = iI x1) (hC : ∀ Q, Call 11 m_X7_begin [.ref 0, .int (iI x1)] H Q = Q (.inr 2) (hexc K)) (CK : CW K dy' nb' B' nu' U' np' P' nf' F' nx' kp' pa' zr0' zs' sv' lr' le' ln' ps' ch' rq' V') (FK : HF H K) (hM : ∀ Q, Call 12 m_X8_begin [.ref 109, .int (iI x1)] (wm (hexc K) G A kp S (iI sv) tw ke le ch ln ab pt rm en aa iw kd n1 n2 n3 n4 gd) Q = Q (.inl (some (.int (iI b)))) (wm (hexc K) G' A' kp' S' (iI sv') 1 ke' le' ch' ln' ab' pt' rm' en' aa' iw' kd' n1' n2' n3' n4' gd')) (L : LPx dy' nb' B' nu' U' np' P' nf' F' nx' kp' pa' zs' sv' lr' le' ln' ch' rq' V' G' A' S' ke') : ∃ (H2 : XH) (m6 m7 : Value), LRx H2 ∧ Fn H H2 ∧ ∀ Q, EvQ 13 m_L_law 915 [.ref 2000000, .ref 0, .ref 109, .ref 117, .ref 118, .int (iI i), l6, l7, xjunk] [] H Q = EvQ 13 m_L_law 28 [.ref 2000000, .ref 0, .ref 109, .ref 117, .ref 118, .int (iI (i + 6)), m6, m7, xjunk] [] H2 Q := by
  have M1 : MWo (hexc K) G A kp S (iI sv) tw ke le ch ln ab pt rm en aa iw kd n1 n2 n3 n4 gd := mo_exc (mo_hf M FK)
  have C1 : CW (hexc K) dy' nb' B' nu' U' np' P' nf' F' nx' kp' pa' zr0' zs' sv' lr' le' ln' ps' ch' rq' V' := st_exc CK
  have hH := lx_begin_2 C.2.1 hC
  obtain ⟨fs1, h9⟩ := mo_h9 M1
  have M2 : MWo (wm (hexc K) G' A' kp' S' (iI sv') 1 ke' le' ch' ln' ab' pt' rm' en' aa' iw' kd' n1' n2' n3' n4' gd') G' A' kp' S' (iI sv') 1 ke' le' ch' ln' ab' pt' rm' en' aa' iw' kd' n1' n2' n3' n4' gd' := MWo_wm
  obtain ⟨fs2, h9'⟩ := mo_h9 M2
  have hM' : ∀ Q, Call 12 m_X8_begin [.ref 109, .int (iI x1)] (hexc K) Q = Q (.inl (some (.int (iI b)))) (wm (hexc K) G' A' kp' S' (iI sv') 1 ke' le' ch' ln' ab' pt' rm' en' aa' iw' kd' n1' n2' n3' n4' gd') := fun Q => by
    have := hM Q
    rw [show wm (hexc K) G A kp S (iI sv) tw ke le ch ln ab pt rm en aa iw kd n1 n2 n3 n4 gd = hexc K from M1] at this
    exact this
  have k2 := FK.2
  have e1' : (hexc K).2.2.2.2 = H.2.2.2.2 := by rw [← k2]; rfl
  have e2' : (hexc K).2.2.1 = H.2.2.1 + 1 := by rw [← k2]; rfl
  have e3' : (hexc K).2.2.2.1 = H.2.2.2.1 + 6 := by rw [← k2]; rfl
  refine ⟨wm (hexc K) G' A' kp' S' (iI sv') 1 ke' le' ch' ln' ab' pt' rm' en' aa' iw' kd' n1' n2' n3' n4' gd', .int (iI 1), .int (iI b), LRx_mk (st_wm C1) M2 (g := g) (g2 := g2) (by rw [xmm_n (by omega), hexc_get, FK.1 117 (by omega)]; exact h1) (by rw [xmm_n (by omega), hexc_get, FK.1 118 (by omega)]; exact h2) L, ⟨e1', ?_, ?_⟩, fun Q => lc_begin (g := g) hL e1 hH e1' h9 hM' h9' (fun Q => mo_tw Q) (Or.inr (by omega))⟩
  · show (hexc K).2.2.1 ≤ _
    omega
  · show (hexc K).2.2.2.1 ≤ _
    omega
theorem fx_begin_4 (C : CW H dy nb B nu U np P nf F nx kp pa zr0 zs sv lr le ln ps ch rq V) (M : MWo H G A kp S (iI sv) tw ke le ch ln ab pt rm en aa iw kd n1 n2 n3 n4 gd) (h1 : hget H 117 = some (ola g)) (h2 : hget H 118 = some (oda g2)) (hL : 0 ≤ i ∧ i + 6 ≤ (H.2.2.2.2.1 : Int) ∧ H.2.2.2.2.1 < 1000000) (e1 : H.2.2.2.2.2 (iI (i + 1)).toNatClampNeg = iI x1) (hC : ∀ Q, Call 11 m_X7_begin [.ref 0, .int (iI x1)] H Q = Q (.inr 4) (hexc K)) (CK : CW K dy' nb' B' nu' U' np' P' nf' F' nx' kp' pa' zr0' zs' sv' lr' le' ln' ps' ch' rq' V') (FK : HF H K) (hM : ∀ Q, Call 12 m_X8_begin [.ref 109, .int (iI x1)] (wm (hexc K) G A kp S (iI sv) tw ke le ch ln ab pt rm en aa iw kd n1 n2 n3 n4 gd) Q = Q (.inl (some (.int (iI b)))) (wm (hexc K) G' A' kp' S' (iI sv') 2 ke' le' ch' ln' ab' pt' rm' en' aa' iw' kd' n1' n2' n3' n4' gd')) (L : LPx dy' nb' B' nu' U' np' P' nf' F' nx' kp' pa' zs' sv' lr' le' ln' ch' rq' V' G' A' S' ke') : ∃ (H2 : XH) (m6 m7 : Value), LRx H2 ∧ Fn H H2 ∧ ∀ Q, EvQ 13 m_L_law 915 [.ref 2000000, .ref 0, .ref 109, .ref 117, .ref 118, .int (iI i), l6, l7, xjunk] [] H Q = EvQ 13 m_L_law 28 [.ref 2000000, .ref 0, .ref 109, .ref 117, .ref 118, .int (iI (i + 6)), m6, m7, xjunk] [] H2 Q := by
  have M1 : MWo (hexc K) G A kp S (iI sv) tw ke le ch ln ab pt rm en aa iw kd n1 n2 n3 n4 gd := mo_exc (mo_hf M FK)
  have C1 : CW (hexc K) dy' nb' B' nu' U' np' P' nf' F' nx' kp' pa' zr0' zs' sv' lr' le' ln' ps' ch' rq' V' := st_exc CK
  have hH := lx_begin_4 C.2.1 hC
  obtain ⟨fs1, h9⟩ := mo_h9 M1
  have M2 : MWo (wm (hexc K) G' A' kp' S' (iI sv') 2 ke' le' ch' ln' ab' pt' rm' en' aa' iw' kd' n1' n2' n3' n4' gd') G' A' kp' S' (iI sv') 2 ke' le' ch' ln' ab' pt' rm' en' aa' iw' kd' n1' n2' n3' n4' gd' := MWo_wm
  obtain ⟨fs2, h9'⟩ := mo_h9 M2
  have hM' : ∀ Q, Call 12 m_X8_begin [.ref 109, .int (iI x1)] (hexc K) Q = Q (.inl (some (.int (iI b)))) (wm (hexc K) G' A' kp' S' (iI sv') 2 ke' le' ch' ln' ab' pt' rm' en' aa' iw' kd' n1' n2' n3' n4' gd') := fun Q => by
    have := hM Q
    rw [show wm (hexc K) G A kp S (iI sv) tw ke le ch ln ab pt rm en aa iw kd n1 n2 n3 n4 gd = hexc K from M1] at this
    exact this
  have k2 := FK.2
  have e1' : (hexc K).2.2.2.2 = H.2.2.2.2 := by rw [← k2]; rfl
  have e2' : (hexc K).2.2.1 = H.2.2.1 + 1 := by rw [← k2]; rfl
  have e3' : (hexc K).2.2.2.1 = H.2.2.2.1 + 6 := by rw [← k2]; rfl
  refine ⟨wm (hexc K) G' A' kp' S' (iI sv') 2 ke' le' ch' ln' ab' pt' rm' en' aa' iw' kd' n1' n2' n3' n4' gd', .int (iI 2), .int (iI b), LRx_mk (st_wm C1) M2 (g := g) (g2 := g2) (by rw [xmm_n (by omega), hexc_get, FK.1 117 (by omega)]; exact h1) (by rw [xmm_n (by omega), hexc_get, FK.1 118 (by omega)]; exact h2) L, ⟨e1', ?_, ?_⟩, fun Q => lc_begin (g := g) hL e1 hH e1' h9 hM' h9' (fun Q => mo_tw Q) (Or.inr (by omega))⟩
  · show (hexc K).2.2.1 ≤ _
    omega
  · show (hexc K).2.2.2.1 ≤ _
    omega
theorem fv_finish (C : CW H dy nb B nu U np P nf F nx kp pa zr0 zs sv lr le ln ps ch rq V) (M : MWo H G A kp S (iI sv) tw ke le ch ln ab pt rm en aa iw kd n1 n2 n3 n4 gd) (h1 : hget H 117 = some (ola g)) (h2 : hget H 118 = some (oda g2)) (hL : 0 ≤ i ∧ i + 6 ≤ (H.2.2.2.2.1 : Int) ∧ H.2.2.2.2.1 < 1000000) (e1 : H.2.2.2.2.2 (iI (i + 1)).toNatClampNeg = iI x1) (hC : ∀ Q, Call 11 m_X7_finish [.ref 0, .int (iI x1)] H Q = Q (.inl (some (.int (iI v)))) K) (CK : CW K dy' nb' B' nu' U' np' P' nf' F' nx' kp' pa' zr0' zs' sv' lr' le' ln' ps' ch' rq' V') (FK : HF H K) (hX : X = hset K 117 (ola (vp_updL g (iI 0).toNatClampNeg (iI v).toInt64))) (hM : ∀ Q, Call 12 m_X8_finish [.ref 109, .int (iI x1)] (wm X G A kp S (iI sv) tw ke le ch ln ab pt rm en aa iw kd n1 n2 n3 n4 gd) Q = Q (.inl (some (.int (iI v)))) (wm X G' A' kp' S' (iI sv') 0 ke' le' ch' ln' ab' pt' rm' en' aa' iw' kd' n1' n2' n3' n4' gd')) (L : LPx dy' nb' B' nu' U' np' P' nf' F' nx' kp' pa' zs' sv' lr' le' ln' ch' rq' V' G' A' S' ke') : ∃ (H2 : XH) (m6 m7 : Value), LRx H2 ∧ Fn H H2 ∧ ∀ Q, EvQ 13 m_L_law 971 [.ref 2000000, .ref 0, .ref 109, .ref 117, .ref 118, .int (iI i), l6, l7, xjunk] [] H Q = EvQ 13 m_L_law 28 [.ref 2000000, .ref 0, .ref 109, .ref 117, .ref 118, .int (iI (i + 6)), m6, m7, xjunk] [] H2 Q := by
  have hK : hget K 117 = some (ola g) := by rw [FK.1 117 (by omega)]; exact h1
  have M1 : MWo X G A kp S (iI sv) tw ke le ch ln ab pt rm en aa iw kd n1 n2 n3 n4 gd := by rw [hX]; exact mo_out (mo_hf M FK)
  have C1 : CW X dy' nb' B' nu' U' np' P' nf' F' nx' kp' pa' zr0' zs' sv' lr' le' ln' ps' ch' rq' V' := by rw [hX]; exact st_out CK
  have hH := lo_finish C.2.1 hK hC
  rw [← hX] at hH
  obtain ⟨fs1, h9⟩ := mo_h9 M1
  have M2 : MWo (wm X G' A' kp' S' (iI sv') 0 ke' le' ch' ln' ab' pt' rm' en' aa' iw' kd' n1' n2' n3' n4' gd') G' A' kp' S' (iI sv') 0 ke' le' ch' ln' ab' pt' rm' en' aa' iw' kd' n1' n2' n3' n4' gd' := MWo_wm
  obtain ⟨fs2, h9'⟩ := mo_h9 M2
  have hM' : ∀ Q, Call 12 m_X8_finish [.ref 109, .int (iI x1)] X Q = Q (.inl (some (.int (iI v)))) (wm X G' A' kp' S' (iI sv') 0 ke' le' ch' ln' ab' pt' rm' en' aa' iw' kd' n1' n2' n3' n4' gd') := fun Q => by
    have := hM Q
    rw [show wm X G A kp S (iI sv) tw ke le ch ln ab pt rm en aa iw kd n1 n2 n3 n4 gd = X from M1] at this
    exact this
  have e1' : X.2 = H.2 := by rw [hX]; exact FK.2
  have e2' : (wm X G' A' kp' S' (iI sv') 0 ke' le' ch' ln' ab' pt' rm' en' aa' iw' kd' n1' n2' n3' n4' gd').2 = H.2 := e1'
  exact ⟨wm X G' A' kp' S' (iI sv') 0 ke' le' ch' ln' ab' pt' rm' en' aa' iw' kd' n1' n2' n3' n4' gd', .int (iI 0), .int (iI v), LRx_mk (st_wm C1) M2 (g := vp_updL g (iI 0).toNatClampNeg (iI v).toInt64) (g2 := g2) (by rw [xmm_n (by omega), hX, hget_set]) (by rw [xmm_n (by omega), hX, hget_ne (by omega), FK.1 118 (by omega)]; exact h2) L, ⟨by rw [e2'], by rw [e2']; omega, by rw [e2']; omega⟩, fun Q => lc_finish hL e1 hH (by rw [e1']) h9 hM' h9' (fun Q => mo_tw Q) (Or.inl ⟨rfl, by rw [xmm_n (by omega), hX, hget_set], updL_at⟩)⟩
theorem fx_finish_2 (C : CW H dy nb B nu U np P nf F nx kp pa zr0 zs sv lr le ln ps ch rq V) (M : MWo H G A kp S (iI sv) tw ke le ch ln ab pt rm en aa iw kd n1 n2 n3 n4 gd) (h1 : hget H 117 = some (ola g)) (h2 : hget H 118 = some (oda g2)) (hL : 0 ≤ i ∧ i + 6 ≤ (H.2.2.2.2.1 : Int) ∧ H.2.2.2.2.1 < 1000000) (e1 : H.2.2.2.2.2 (iI (i + 1)).toNatClampNeg = iI x1) (hC : ∀ Q, Call 11 m_X7_finish [.ref 0, .int (iI x1)] H Q = Q (.inr 2) (hexc K)) (CK : CW K dy' nb' B' nu' U' np' P' nf' F' nx' kp' pa' zr0' zs' sv' lr' le' ln' ps' ch' rq' V') (FK : HF H K) (hM : ∀ Q, Call 12 m_X8_finish [.ref 109, .int (iI x1)] (wm (hexc K) G A kp S (iI sv) tw ke le ch ln ab pt rm en aa iw kd n1 n2 n3 n4 gd) Q = Q (.inl (some (.int (iI b)))) (wm (hexc K) G' A' kp' S' (iI sv') 1 ke' le' ch' ln' ab' pt' rm' en' aa' iw' kd' n1' n2' n3' n4' gd')) (L : LPx dy' nb' B' nu' U' np' P' nf' F' nx' kp' pa' zs' sv' lr' le' ln' ch' rq' V' G' A' S' ke') : ∃ (H2 : XH) (m6 m7 : Value), LRx H2 ∧ Fn H H2 ∧ ∀ Q, EvQ 13 m_L_law 971 [.ref 2000000, .ref 0, .ref 109, .ref 117, .ref 118, .int (iI i), l6, l7, xjunk] [] H Q = EvQ 13 m_L_law 28 [.ref 2000000, .ref 0, .ref 109, .ref 117, .ref 118, .int (iI (i + 6)), m6, m7, xjunk] [] H2 Q := by
  have M1 : MWo (hexc K) G A kp S (iI sv) tw ke le ch ln ab pt rm en aa iw kd n1 n2 n3 n4 gd := mo_exc (mo_hf M FK)
  have C1 : CW (hexc K) dy' nb' B' nu' U' np' P' nf' F' nx' kp' pa' zr0' zs' sv' lr' le' ln' ps' ch' rq' V' := st_exc CK
  have hH := lx_finish_2 C.2.1 hC
  obtain ⟨fs1, h9⟩ := mo_h9 M1
  have M2 : MWo (wm (hexc K) G' A' kp' S' (iI sv') 1 ke' le' ch' ln' ab' pt' rm' en' aa' iw' kd' n1' n2' n3' n4' gd') G' A' kp' S' (iI sv') 1 ke' le' ch' ln' ab' pt' rm' en' aa' iw' kd' n1' n2' n3' n4' gd' := MWo_wm
  obtain ⟨fs2, h9'⟩ := mo_h9 M2
  have hM' : ∀ Q, Call 12 m_X8_finish [.ref 109, .int (iI x1)] (hexc K) Q = Q (.inl (some (.int (iI b)))) (wm (hexc K) G' A' kp' S' (iI sv') 1 ke' le' ch' ln' ab' pt' rm' en' aa' iw' kd' n1' n2' n3' n4' gd') := fun Q => by
    have := hM Q
    rw [show wm (hexc K) G A kp S (iI sv) tw ke le ch ln ab pt rm en aa iw kd n1 n2 n3 n4 gd = hexc K from M1] at this
    exact this
  have k2 := FK.2
  have e1' : (hexc K).2.2.2.2 = H.2.2.2.2 := by rw [← k2]; rfl
  have e2' : (hexc K).2.2.1 = H.2.2.1 + 1 := by rw [← k2]; rfl
  have e3' : (hexc K).2.2.2.1 = H.2.2.2.1 + 6 := by rw [← k2]; rfl
  refine ⟨wm (hexc K) G' A' kp' S' (iI sv') 1 ke' le' ch' ln' ab' pt' rm' en' aa' iw' kd' n1' n2' n3' n4' gd', .int (iI 1), .int (iI b), LRx_mk (st_wm C1) M2 (g := g) (g2 := g2) (by rw [xmm_n (by omega), hexc_get, FK.1 117 (by omega)]; exact h1) (by rw [xmm_n (by omega), hexc_get, FK.1 118 (by omega)]; exact h2) L, ⟨e1', ?_, ?_⟩, fun Q => lc_finish (g := g) hL e1 hH e1' h9 hM' h9' (fun Q => mo_tw Q) (Or.inr (by omega))⟩
  · show (hexc K).2.2.1 ≤ _
    omega
  · show (hexc K).2.2.2.1 ≤ _
    omega
theorem fx_finish_4 (C : CW H dy nb B nu U np P nf F nx kp pa zr0 zs sv lr le ln ps ch rq V) (M : MWo H G A kp S (iI sv) tw ke le ch ln ab pt rm en aa iw kd n1 n2 n3 n4 gd) (h1 : hget H 117 = some (ola g)) (h2 : hget H 118 = some (oda g2)) (hL : 0 ≤ i ∧ i + 6 ≤ (H.2.2.2.2.1 : Int) ∧ H.2.2.2.2.1 < 1000000) (e1 : H.2.2.2.2.2 (iI (i + 1)).toNatClampNeg = iI x1) (hC : ∀ Q, Call 11 m_X7_finish [.ref 0, .int (iI x1)] H Q = Q (.inr 4) (hexc K)) (CK : CW K dy' nb' B' nu' U' np' P' nf' F' nx' kp' pa' zr0' zs' sv' lr' le' ln' ps' ch' rq' V') (FK : HF H K) (hM : ∀ Q, Call 12 m_X8_finish [.ref 109, .int (iI x1)] (wm (hexc K) G A kp S (iI sv) tw ke le ch ln ab pt rm en aa iw kd n1 n2 n3 n4 gd) Q = Q (.inl (some (.int (iI b)))) (wm (hexc K) G' A' kp' S' (iI sv') 2 ke' le' ch' ln' ab' pt' rm' en' aa' iw' kd' n1' n2' n3' n4' gd')) (L : LPx dy' nb' B' nu' U' np' P' nf' F' nx' kp' pa' zs' sv' lr' le' ln' ch' rq' V' G' A' S' ke') : ∃ (H2 : XH) (m6 m7 : Value), LRx H2 ∧ Fn H H2 ∧ ∀ Q, EvQ 13 m_L_law 971 [.ref 2000000, .ref 0, .ref 109, .ref 117, .ref 118, .int (iI i), l6, l7, xjunk] [] H Q = EvQ 13 m_L_law 28 [.ref 2000000, .ref 0, .ref 109, .ref 117, .ref 118, .int (iI (i + 6)), m6, m7, xjunk] [] H2 Q := by
  have M1 : MWo (hexc K) G A kp S (iI sv) tw ke le ch ln ab pt rm en aa iw kd n1 n2 n3 n4 gd := mo_exc (mo_hf M FK)
  have C1 : CW (hexc K) dy' nb' B' nu' U' np' P' nf' F' nx' kp' pa' zr0' zs' sv' lr' le' ln' ps' ch' rq' V' := st_exc CK
  have hH := lx_finish_4 C.2.1 hC
  obtain ⟨fs1, h9⟩ := mo_h9 M1
  have M2 : MWo (wm (hexc K) G' A' kp' S' (iI sv') 2 ke' le' ch' ln' ab' pt' rm' en' aa' iw' kd' n1' n2' n3' n4' gd') G' A' kp' S' (iI sv') 2 ke' le' ch' ln' ab' pt' rm' en' aa' iw' kd' n1' n2' n3' n4' gd' := MWo_wm
  obtain ⟨fs2, h9'⟩ := mo_h9 M2
  have hM' : ∀ Q, Call 12 m_X8_finish [.ref 109, .int (iI x1)] (hexc K) Q = Q (.inl (some (.int (iI b)))) (wm (hexc K) G' A' kp' S' (iI sv') 2 ke' le' ch' ln' ab' pt' rm' en' aa' iw' kd' n1' n2' n3' n4' gd') := fun Q => by
    have := hM Q
    rw [show wm (hexc K) G A kp S (iI sv) tw ke le ch ln ab pt rm en aa iw kd n1 n2 n3 n4 gd = hexc K from M1] at this
    exact this
  have k2 := FK.2
  have e1' : (hexc K).2.2.2.2 = H.2.2.2.2 := by rw [← k2]; rfl
  have e2' : (hexc K).2.2.1 = H.2.2.1 + 1 := by rw [← k2]; rfl
  have e3' : (hexc K).2.2.2.1 = H.2.2.2.1 + 6 := by rw [← k2]; rfl
  refine ⟨wm (hexc K) G' A' kp' S' (iI sv') 2 ke' le' ch' ln' ab' pt' rm' en' aa' iw' kd' n1' n2' n3' n4' gd', .int (iI 2), .int (iI b), LRx_mk (st_wm C1) M2 (g := g) (g2 := g2) (by rw [xmm_n (by omega), hexc_get, FK.1 117 (by omega)]; exact h1) (by rw [xmm_n (by omega), hexc_get, FK.1 118 (by omega)]; exact h2) L, ⟨e1', ?_, ?_⟩, fun Q => lc_finish (g := g) hL e1 hH e1' h9 hM' h9' (fun Q => mo_tw Q) (Or.inr (by omega))⟩
  · show (hexc K).2.2.1 ≤ _
    omega
  · show (hexc K).2.2.2.1 ≤ _
    omega
theorem fv_withdraw (C : CW H dy nb B nu U np P nf F nx kp pa zr0 zs sv lr le ln ps ch rq V) (M : MWo H G A kp S (iI sv) tw ke le ch ln ab pt rm en aa iw kd n1 n2 n3 n4 gd) (h1 : hget H 117 = some (ola g)) (h2 : hget H 118 = some (oda g2)) (hL : 0 ≤ i ∧ i + 6 ≤ (H.2.2.2.2.1 : Int) ∧ H.2.2.2.2.1 < 1000000) (e1 : H.2.2.2.2.2 (iI (i + 1)).toNatClampNeg = iI x1) (hC : ∀ Q, Call 11 m_X7_withdraw [.ref 0, .int (iI x1)] H Q = Q (.inl (some (.int (iI v)))) K) (CK : CW K dy' nb' B' nu' U' np' P' nf' F' nx' kp' pa' zr0' zs' sv' lr' le' ln' ps' ch' rq' V') (FK : HF H K) (hX : X = hset K 117 (ola (vp_updL g (iI 0).toNatClampNeg (iI v).toInt64))) (hM : ∀ Q, Call 12 m_X8_withdraw [.ref 109, .int (iI x1)] (wm X G A kp S (iI sv) tw ke le ch ln ab pt rm en aa iw kd n1 n2 n3 n4 gd) Q = Q (.inl (some (.int (iI v)))) (wm X G' A' kp' S' (iI sv') 0 ke' le' ch' ln' ab' pt' rm' en' aa' iw' kd' n1' n2' n3' n4' gd')) (L : LPx dy' nb' B' nu' U' np' P' nf' F' nx' kp' pa' zs' sv' lr' le' ln' ch' rq' V' G' A' S' ke') : ∃ (H2 : XH) (m6 m7 : Value), LRx H2 ∧ Fn H H2 ∧ ∀ Q, EvQ 13 m_L_law 1027 [.ref 2000000, .ref 0, .ref 109, .ref 117, .ref 118, .int (iI i), l6, l7, xjunk] [] H Q = EvQ 13 m_L_law 28 [.ref 2000000, .ref 0, .ref 109, .ref 117, .ref 118, .int (iI (i + 6)), m6, m7, xjunk] [] H2 Q := by
  have hK : hget K 117 = some (ola g) := by rw [FK.1 117 (by omega)]; exact h1
  have M1 : MWo X G A kp S (iI sv) tw ke le ch ln ab pt rm en aa iw kd n1 n2 n3 n4 gd := by rw [hX]; exact mo_out (mo_hf M FK)
  have C1 : CW X dy' nb' B' nu' U' np' P' nf' F' nx' kp' pa' zr0' zs' sv' lr' le' ln' ps' ch' rq' V' := by rw [hX]; exact st_out CK
  have hH := lo_withdraw C.2.1 hK hC
  rw [← hX] at hH
  obtain ⟨fs1, h9⟩ := mo_h9 M1
  have M2 : MWo (wm X G' A' kp' S' (iI sv') 0 ke' le' ch' ln' ab' pt' rm' en' aa' iw' kd' n1' n2' n3' n4' gd') G' A' kp' S' (iI sv') 0 ke' le' ch' ln' ab' pt' rm' en' aa' iw' kd' n1' n2' n3' n4' gd' := MWo_wm
  obtain ⟨fs2, h9'⟩ := mo_h9 M2
  have hM' : ∀ Q, Call 12 m_X8_withdraw [.ref 109, .int (iI x1)] X Q = Q (.inl (some (.int (iI v)))) (wm X G' A' kp' S' (iI sv') 0 ke' le' ch' ln' ab' pt' rm' en' aa' iw' kd' n1' n2' n3' n4' gd') := fun Q => by
    have := hM Q
    rw [show wm X G A kp S (iI sv) tw ke le ch ln ab pt rm en aa iw kd n1 n2 n3 n4 gd = X from M1] at this
    exact this
  have e1' : X.2 = H.2 := by rw [hX]; exact FK.2
  have e2' : (wm X G' A' kp' S' (iI sv') 0 ke' le' ch' ln' ab' pt' rm' en' aa' iw' kd' n1' n2' n3' n4' gd').2 = H.2 := e1'
  exact ⟨wm X G' A' kp' S' (iI sv') 0 ke' le' ch' ln' ab' pt' rm' en' aa' iw' kd' n1' n2' n3' n4' gd', .int (iI 0), .int (iI v), LRx_mk (st_wm C1) M2 (g := vp_updL g (iI 0).toNatClampNeg (iI v).toInt64) (g2 := g2) (by rw [xmm_n (by omega), hX, hget_set]) (by rw [xmm_n (by omega), hX, hget_ne (by omega), FK.1 118 (by omega)]; exact h2) L, ⟨by rw [e2'], by rw [e2']; omega, by rw [e2']; omega⟩, fun Q => lc_withdraw hL e1 hH (by rw [e1']) h9 hM' h9' (fun Q => mo_tw Q) (Or.inl ⟨rfl, by rw [xmm_n (by omega), hX, hget_set], updL_at⟩)⟩
theorem fx_withdraw_2 (C : CW H dy nb B nu U np P nf F nx kp pa zr0 zs sv lr le ln ps ch rq V) (M : MWo H G A kp S (iI sv) tw ke le ch ln ab pt rm en aa iw kd n1 n2 n3 n4 gd) (h1 : hget H 117 = some (ola g)) (h2 : hget H 118 = some (oda g2)) (hL : 0 ≤ i ∧ i + 6 ≤ (H.2.2.2.2.1 : Int) ∧ H.2.2.2.2.1 < 1000000) (e1 : H.2.2.2.2.2 (iI (i + 1)).toNatClampNeg = iI x1) (hC : ∀ Q, Call 11 m_X7_withdraw [.ref 0, .int (iI x1)] H Q = Q (.inr 2) (hexc K)) (CK : CW K dy' nb' B' nu' U' np' P' nf' F' nx' kp' pa' zr0' zs' sv' lr' le' ln' ps' ch' rq' V') (FK : HF H K) (hM : ∀ Q, Call 12 m_X8_withdraw [.ref 109, .int (iI x1)] (wm (hexc K) G A kp S (iI sv) tw ke le ch ln ab pt rm en aa iw kd n1 n2 n3 n4 gd) Q = Q (.inl (some (.int (iI b)))) (wm (hexc K) G' A' kp' S' (iI sv') 1 ke' le' ch' ln' ab' pt' rm' en' aa' iw' kd' n1' n2' n3' n4' gd')) (L : LPx dy' nb' B' nu' U' np' P' nf' F' nx' kp' pa' zs' sv' lr' le' ln' ch' rq' V' G' A' S' ke') : ∃ (H2 : XH) (m6 m7 : Value), LRx H2 ∧ Fn H H2 ∧ ∀ Q, EvQ 13 m_L_law 1027 [.ref 2000000, .ref 0, .ref 109, .ref 117, .ref 118, .int (iI i), l6, l7, xjunk] [] H Q = EvQ 13 m_L_law 28 [.ref 2000000, .ref 0, .ref 109, .ref 117, .ref 118, .int (iI (i + 6)), m6, m7, xjunk] [] H2 Q := by
  have M1 : MWo (hexc K) G A kp S (iI sv) tw ke le ch ln ab pt rm en aa iw kd n1 n2 n3 n4 gd := mo_exc (mo_hf M FK)
  have C1 : CW (hexc K) dy' nb' B' nu' U' np' P' nf' F' nx' kp' pa' zr0' zs' sv' lr' le' ln' ps' ch' rq' V' := st_exc CK
  have hH := lx_withdraw_2 C.2.1 hC
  obtain ⟨fs1, h9⟩ := mo_h9 M1
  have M2 : MWo (wm (hexc K) G' A' kp' S' (iI sv') 1 ke' le' ch' ln' ab' pt' rm' en' aa' iw' kd' n1' n2' n3' n4' gd') G' A' kp' S' (iI sv') 1 ke' le' ch' ln' ab' pt' rm' en' aa' iw' kd' n1' n2' n3' n4' gd' := MWo_wm
  obtain ⟨fs2, h9'⟩ := mo_h9 M2
  have hM' : ∀ Q, Call 12 m_X8_withdraw [.ref 109, .int (iI x1)] (hexc K) Q = Q (.inl (some (.int (iI b)))) (wm (hexc K) G' A' kp' S' (iI sv') 1 ke' le' ch' ln' ab' pt' rm' en' aa' iw' kd' n1' n2' n3' n4' gd') := fun Q => by
    have := hM Q
    rw [show wm (hexc K) G A kp S (iI sv) tw ke le ch ln ab pt rm en aa iw kd n1 n2 n3 n4 gd = hexc K from M1] at this
    exact this
  have k2 := FK.2
  have e1' : (hexc K).2.2.2.2 = H.2.2.2.2 := by rw [← k2]; rfl
  have e2' : (hexc K).2.2.1 = H.2.2.1 + 1 := by rw [← k2]; rfl
  have e3' : (hexc K).2.2.2.1 = H.2.2.2.1 + 6 := by rw [← k2]; rfl
  refine ⟨wm (hexc K) G' A' kp' S' (iI sv') 1 ke' le' ch' ln' ab' pt' rm' en' aa' iw' kd' n1' n2' n3' n4' gd', .int (iI 1), .int (iI b), LRx_mk (st_wm C1) M2 (g := g) (g2 := g2) (by rw [xmm_n (by omega), hexc_get, FK.1 117 (by omega)]; exact h1) (by rw [xmm_n (by omega), hexc_get, FK.1 118 (by omega)]; exact h2) L, ⟨e1', ?_, ?_⟩, fun Q => lc_withdraw (g := g) hL e1 hH e1' h9 hM' h9' (fun Q => mo_tw Q) (Or.inr (by omega))⟩
  · show (hexc K).2.2.1 ≤ _
    omega
  · show (hexc K).2.2.2.1 ≤ _
    omega
theorem fx_withdraw_4 (C : CW H dy nb B nu U np P nf F nx kp pa zr0 zs sv lr le ln ps ch rq V) (M : MWo H G A kp S (iI sv) tw ke le ch ln ab pt rm en aa iw kd n1 n2 n3 n4 gd) (h1 : hget H 117 = some (ola g)) (h2 : hget H 118 = some (oda g2)) (hL : 0 ≤ i ∧ i + 6 ≤ (H.2.2.2.2.1 : Int) ∧ H.2.2.2.2.1 < 1000000) (e1 : H.2.2.2.2.2 (iI (i + 1)).toNatClampNeg = iI x1) (hC : ∀ Q, Call 11 m_X7_withdraw [.ref 0, .int (iI x1)] H Q = Q (.inr 4) (hexc K)) (CK : CW K dy' nb' B' nu' U' np' P' nf' F' nx' kp' pa' zr0' zs' sv' lr' le' ln' ps' ch' rq' V') (FK : HF H K) (hM : ∀ Q, Call 12 m_X8_withdraw [.ref 109, .int (iI x1)] (wm (hexc K) G A kp S (iI sv) tw ke le ch ln ab pt rm en aa iw kd n1 n2 n3 n4 gd) Q = Q (.inl (some (.int (iI b)))) (wm (hexc K) G' A' kp' S' (iI sv') 2 ke' le' ch' ln' ab' pt' rm' en' aa' iw' kd' n1' n2' n3' n4' gd')) (L : LPx dy' nb' B' nu' U' np' P' nf' F' nx' kp' pa' zs' sv' lr' le' ln' ch' rq' V' G' A' S' ke') : ∃ (H2 : XH) (m6 m7 : Value), LRx H2 ∧ Fn H H2 ∧ ∀ Q, EvQ 13 m_L_law 1027 [.ref 2000000, .ref 0, .ref 109, .ref 117, .ref 118, .int (iI i), l6, l7, xjunk] [] H Q = EvQ 13 m_L_law 28 [.ref 2000000, .ref 0, .ref 109, .ref 117, .ref 118, .int (iI (i + 6)), m6, m7, xjunk] [] H2 Q := by
  have M1 : MWo (hexc K) G A kp S (iI sv) tw ke le ch ln ab pt rm en aa iw kd n1 n2 n3 n4 gd := mo_exc (mo_hf M FK)
  have C1 : CW (hexc K) dy' nb' B' nu' U' np' P' nf' F' nx' kp' pa' zr0' zs' sv' lr' le' ln' ps' ch' rq' V' := st_exc CK
  have hH := lx_withdraw_4 C.2.1 hC
  obtain ⟨fs1, h9⟩ := mo_h9 M1
  have M2 : MWo (wm (hexc K) G' A' kp' S' (iI sv') 2 ke' le' ch' ln' ab' pt' rm' en' aa' iw' kd' n1' n2' n3' n4' gd') G' A' kp' S' (iI sv') 2 ke' le' ch' ln' ab' pt' rm' en' aa' iw' kd' n1' n2' n3' n4' gd' := MWo_wm
  obtain ⟨fs2, h9'⟩ := mo_h9 M2
  have hM' : ∀ Q, Call 12 m_X8_withdraw [.ref 109, .int (iI x1)] (hexc K) Q = Q (.inl (some (.int (iI b)))) (wm (hexc K) G' A' kp' S' (iI sv') 2 ke' le' ch' ln' ab' pt' rm' en' aa' iw' kd' n1' n2' n3' n4' gd') := fun Q => by
    have := hM Q
    rw [show wm (hexc K) G A kp S (iI sv) tw ke le ch ln ab pt rm en aa iw kd n1 n2 n3 n4 gd = hexc K from M1] at this
    exact this
  have k2 := FK.2
  have e1' : (hexc K).2.2.2.2 = H.2.2.2.2 := by rw [← k2]; rfl
  have e2' : (hexc K).2.2.1 = H.2.2.1 + 1 := by rw [← k2]; rfl
  have e3' : (hexc K).2.2.2.1 = H.2.2.2.1 + 6 := by rw [← k2]; rfl
  refine ⟨wm (hexc K) G' A' kp' S' (iI sv') 2 ke' le' ch' ln' ab' pt' rm' en' aa' iw' kd' n1' n2' n3' n4' gd', .int (iI 2), .int (iI b), LRx_mk (st_wm C1) M2 (g := g) (g2 := g2) (by rw [xmm_n (by omega), hexc_get, FK.1 117 (by omega)]; exact h1) (by rw [xmm_n (by omega), hexc_get, FK.1 118 (by omega)]; exact h2) L, ⟨e1', ?_, ?_⟩, fun Q => lc_withdraw (g := g) hL e1 hH e1' h9 hM' h9' (fun Q => mo_tw Q) (Or.inr (by omega))⟩
  · show (hexc K).2.2.1 ≤ _
    omega
  · show (hexc K).2.2.2.1 ≤ _
    omega
theorem fv_permit (C : CW H dy nb B nu U np P nf F nx kp pa zr0 zs sv lr le ln ps ch rq V) (M : MWo H G A kp S (iI sv) tw ke le ch ln ab pt rm en aa iw kd n1 n2 n3 n4 gd) (h1 : hget H 117 = some (ola g)) (h2 : hget H 118 = some (oda g2)) (hL : 0 ≤ i ∧ i + 6 ≤ (H.2.2.2.2.1 : Int) ∧ H.2.2.2.2.1 < 1000000) (e1 : H.2.2.2.2.2 (iI (i + 1)).toNatClampNeg = iI x1) (e2 : H.2.2.2.2.2 (iI (i + 2)).toNatClampNeg = iI x2) (hC : ∀ Q, Call 11 m_X7_permit [.ref 0, .int (iI x1), .int (iI x2)] H Q = Q (.inl (some (.int (iI v)))) K) (CK : CW K dy' nb' B' nu' U' np' P' nf' F' nx' kp' pa' zr0' zs' sv' lr' le' ln' ps' ch' rq' V') (FK : HF H K) (hX : X = hset K 117 (ola (vp_updL g (iI 0).toNatClampNeg (iI v).toInt64))) (hM : ∀ Q, Call 12 m_X8_permit [.ref 109, .int (iI x1), .int (iI x2)] (wm X G A kp S (iI sv) tw ke le ch ln ab pt rm en aa iw kd n1 n2 n3 n4 gd) Q = Q (.inl (some (.int (iI v)))) (wm X G' A' kp' S' (iI sv') 0 ke' le' ch' ln' ab' pt' rm' en' aa' iw' kd' n1' n2' n3' n4' gd')) (L : LPx dy' nb' B' nu' U' np' P' nf' F' nx' kp' pa' zs' sv' lr' le' ln' ch' rq' V' G' A' S' ke') : ∃ (H2 : XH) (m6 m7 : Value), LRx H2 ∧ Fn H H2 ∧ ∀ Q, EvQ 13 m_L_law 1083 [.ref 2000000, .ref 0, .ref 109, .ref 117, .ref 118, .int (iI i), l6, l7, xjunk] [] H Q = EvQ 13 m_L_law 28 [.ref 2000000, .ref 0, .ref 109, .ref 117, .ref 118, .int (iI (i + 6)), m6, m7, xjunk] [] H2 Q := by
  have hK : hget K 117 = some (ola g) := by rw [FK.1 117 (by omega)]; exact h1
  have M1 : MWo X G A kp S (iI sv) tw ke le ch ln ab pt rm en aa iw kd n1 n2 n3 n4 gd := by rw [hX]; exact mo_out (mo_hf M FK)
  have C1 : CW X dy' nb' B' nu' U' np' P' nf' F' nx' kp' pa' zr0' zs' sv' lr' le' ln' ps' ch' rq' V' := by rw [hX]; exact st_out CK
  have hH := lo_permit C.2.1 hK hC
  rw [← hX] at hH
  obtain ⟨fs1, h9⟩ := mo_h9 M1
  have M2 : MWo (wm X G' A' kp' S' (iI sv') 0 ke' le' ch' ln' ab' pt' rm' en' aa' iw' kd' n1' n2' n3' n4' gd') G' A' kp' S' (iI sv') 0 ke' le' ch' ln' ab' pt' rm' en' aa' iw' kd' n1' n2' n3' n4' gd' := MWo_wm
  obtain ⟨fs2, h9'⟩ := mo_h9 M2
  have hM' : ∀ Q, Call 12 m_X8_permit [.ref 109, .int (iI x1), .int (iI x2)] X Q = Q (.inl (some (.int (iI v)))) (wm X G' A' kp' S' (iI sv') 0 ke' le' ch' ln' ab' pt' rm' en' aa' iw' kd' n1' n2' n3' n4' gd') := fun Q => by
    have := hM Q
    rw [show wm X G A kp S (iI sv) tw ke le ch ln ab pt rm en aa iw kd n1 n2 n3 n4 gd = X from M1] at this
    exact this
  have e1' : X.2 = H.2 := by rw [hX]; exact FK.2
  have e2' : (wm X G' A' kp' S' (iI sv') 0 ke' le' ch' ln' ab' pt' rm' en' aa' iw' kd' n1' n2' n3' n4' gd').2 = H.2 := e1'
  exact ⟨wm X G' A' kp' S' (iI sv') 0 ke' le' ch' ln' ab' pt' rm' en' aa' iw' kd' n1' n2' n3' n4' gd', .int (iI 0), .int (iI v), LRx_mk (st_wm C1) M2 (g := vp_updL g (iI 0).toNatClampNeg (iI v).toInt64) (g2 := g2) (by rw [xmm_n (by omega), hX, hget_set]) (by rw [xmm_n (by omega), hX, hget_ne (by omega), FK.1 118 (by omega)]; exact h2) L, ⟨by rw [e2'], by rw [e2']; omega, by rw [e2']; omega⟩, fun Q => lc_permit hL e1 e2 hH (by rw [e1']) h9 hM' h9' (fun Q => mo_tw Q) (Or.inl ⟨rfl, by rw [xmm_n (by omega), hX, hget_set], updL_at⟩)⟩
theorem fx_permit_2 (C : CW H dy nb B nu U np P nf F nx kp pa zr0 zs sv lr le ln ps ch rq V) (M : MWo H G A kp S (iI sv) tw ke le ch ln ab pt rm en aa iw kd n1 n2 n3 n4 gd) (h1 : hget H 117 = some (ola g)) (h2 : hget H 118 = some (oda g2)) (hL : 0 ≤ i ∧ i + 6 ≤ (H.2.2.2.2.1 : Int) ∧ H.2.2.2.2.1 < 1000000) (e1 : H.2.2.2.2.2 (iI (i + 1)).toNatClampNeg = iI x1) (e2 : H.2.2.2.2.2 (iI (i + 2)).toNatClampNeg = iI x2) (hC : ∀ Q, Call 11 m_X7_permit [.ref 0, .int (iI x1), .int (iI x2)] H Q = Q (.inr 2) (hexc K)) (CK : CW K dy' nb' B' nu' U' np' P' nf' F' nx' kp' pa' zr0' zs' sv' lr' le' ln' ps' ch' rq' V') (FK : HF H K) (hM : ∀ Q, Call 12 m_X8_permit [.ref 109, .int (iI x1), .int (iI x2)] (wm (hexc K) G A kp S (iI sv) tw ke le ch ln ab pt rm en aa iw kd n1 n2 n3 n4 gd) Q = Q (.inl (some (.int (iI b)))) (wm (hexc K) G' A' kp' S' (iI sv') 1 ke' le' ch' ln' ab' pt' rm' en' aa' iw' kd' n1' n2' n3' n4' gd')) (L : LPx dy' nb' B' nu' U' np' P' nf' F' nx' kp' pa' zs' sv' lr' le' ln' ch' rq' V' G' A' S' ke') : ∃ (H2 : XH) (m6 m7 : Value), LRx H2 ∧ Fn H H2 ∧ ∀ Q, EvQ 13 m_L_law 1083 [.ref 2000000, .ref 0, .ref 109, .ref 117, .ref 118, .int (iI i), l6, l7, xjunk] [] H Q = EvQ 13 m_L_law 28 [.ref 2000000, .ref 0, .ref 109, .ref 117, .ref 118, .int (iI (i + 6)), m6, m7, xjunk] [] H2 Q := by
  have M1 : MWo (hexc K) G A kp S (iI sv) tw ke le ch ln ab pt rm en aa iw kd n1 n2 n3 n4 gd := mo_exc (mo_hf M FK)
  have C1 : CW (hexc K) dy' nb' B' nu' U' np' P' nf' F' nx' kp' pa' zr0' zs' sv' lr' le' ln' ps' ch' rq' V' := st_exc CK
  have hH := lx_permit_2 C.2.1 hC
  obtain ⟨fs1, h9⟩ := mo_h9 M1
  have M2 : MWo (wm (hexc K) G' A' kp' S' (iI sv') 1 ke' le' ch' ln' ab' pt' rm' en' aa' iw' kd' n1' n2' n3' n4' gd') G' A' kp' S' (iI sv') 1 ke' le' ch' ln' ab' pt' rm' en' aa' iw' kd' n1' n2' n3' n4' gd' := MWo_wm
  obtain ⟨fs2, h9'⟩ := mo_h9 M2
  have hM' : ∀ Q, Call 12 m_X8_permit [.ref 109, .int (iI x1), .int (iI x2)] (hexc K) Q = Q (.inl (some (.int (iI b)))) (wm (hexc K) G' A' kp' S' (iI sv') 1 ke' le' ch' ln' ab' pt' rm' en' aa' iw' kd' n1' n2' n3' n4' gd') := fun Q => by
    have := hM Q
    rw [show wm (hexc K) G A kp S (iI sv) tw ke le ch ln ab pt rm en aa iw kd n1 n2 n3 n4 gd = hexc K from M1] at this
    exact this
  have k2 := FK.2
  have e1' : (hexc K).2.2.2.2 = H.2.2.2.2 := by rw [← k2]; rfl
  have e2' : (hexc K).2.2.1 = H.2.2.1 + 1 := by rw [← k2]; rfl
  have e3' : (hexc K).2.2.2.1 = H.2.2.2.1 + 6 := by rw [← k2]; rfl
  refine ⟨wm (hexc K) G' A' kp' S' (iI sv') 1 ke' le' ch' ln' ab' pt' rm' en' aa' iw' kd' n1' n2' n3' n4' gd', .int (iI 1), .int (iI b), LRx_mk (st_wm C1) M2 (g := g) (g2 := g2) (by rw [xmm_n (by omega), hexc_get, FK.1 117 (by omega)]; exact h1) (by rw [xmm_n (by omega), hexc_get, FK.1 118 (by omega)]; exact h2) L, ⟨e1', ?_, ?_⟩, fun Q => lc_permit (g := g) hL e1 e2 hH e1' h9 hM' h9' (fun Q => mo_tw Q) (Or.inr (by omega))⟩
  · show (hexc K).2.2.1 ≤ _
    omega
  · show (hexc K).2.2.2.1 ≤ _
    omega
theorem fx_permit_0 (C : CW H dy nb B nu U np P nf F nx kp pa zr0 zs sv lr le ln ps ch rq V) (M : MWo H G A kp S (iI sv) tw ke le ch ln ab pt rm en aa iw kd n1 n2 n3 n4 gd) (h1 : hget H 117 = some (ola g)) (h2 : hget H 118 = some (oda g2)) (hL : 0 ≤ i ∧ i + 6 ≤ (H.2.2.2.2.1 : Int) ∧ H.2.2.2.2.1 < 1000000) (e1 : H.2.2.2.2.2 (iI (i + 1)).toNatClampNeg = iI x1) (e2 : H.2.2.2.2.2 (iI (i + 2)).toNatClampNeg = iI x2) (hC : ∀ Q, Call 11 m_X7_permit [.ref 0, .int (iI x1), .int (iI x2)] H Q = Q (.inr 0) (hexc K)) (CK : CW K dy' nb' B' nu' U' np' P' nf' F' nx' kp' pa' zr0' zs' sv' lr' le' ln' ps' ch' rq' V') (FK : HF H K) (hM : ∀ Q, Call 12 m_X8_permit [.ref 109, .int (iI x1), .int (iI x2)] (wm (hexc K) G A kp S (iI sv) tw ke le ch ln ab pt rm en aa iw kd n1 n2 n3 n4 gd) Q = Q (.inl (some (.int (iI b)))) (wm (hexc K) G' A' kp' S' (iI sv') 2 ke' le' ch' ln' ab' pt' rm' en' aa' iw' kd' n1' n2' n3' n4' gd')) (L : LPx dy' nb' B' nu' U' np' P' nf' F' nx' kp' pa' zs' sv' lr' le' ln' ch' rq' V' G' A' S' ke') : ∃ (H2 : XH) (m6 m7 : Value), LRx H2 ∧ Fn H H2 ∧ ∀ Q, EvQ 13 m_L_law 1083 [.ref 2000000, .ref 0, .ref 109, .ref 117, .ref 118, .int (iI i), l6, l7, xjunk] [] H Q = EvQ 13 m_L_law 28 [.ref 2000000, .ref 0, .ref 109, .ref 117, .ref 118, .int (iI (i + 6)), m6, m7, xjunk] [] H2 Q := by
  have M1 : MWo (hexc K) G A kp S (iI sv) tw ke le ch ln ab pt rm en aa iw kd n1 n2 n3 n4 gd := mo_exc (mo_hf M FK)
  have C1 : CW (hexc K) dy' nb' B' nu' U' np' P' nf' F' nx' kp' pa' zr0' zs' sv' lr' le' ln' ps' ch' rq' V' := st_exc CK
  have hH := lx_permit_0 C.2.1 hC
  obtain ⟨fs1, h9⟩ := mo_h9 M1
  have M2 : MWo (wm (hexc K) G' A' kp' S' (iI sv') 2 ke' le' ch' ln' ab' pt' rm' en' aa' iw' kd' n1' n2' n3' n4' gd') G' A' kp' S' (iI sv') 2 ke' le' ch' ln' ab' pt' rm' en' aa' iw' kd' n1' n2' n3' n4' gd' := MWo_wm
  obtain ⟨fs2, h9'⟩ := mo_h9 M2
  have hM' : ∀ Q, Call 12 m_X8_permit [.ref 109, .int (iI x1), .int (iI x2)] (hexc K) Q = Q (.inl (some (.int (iI b)))) (wm (hexc K) G' A' kp' S' (iI sv') 2 ke' le' ch' ln' ab' pt' rm' en' aa' iw' kd' n1' n2' n3' n4' gd') := fun Q => by
    have := hM Q
    rw [show wm (hexc K) G A kp S (iI sv) tw ke le ch ln ab pt rm en aa iw kd n1 n2 n3 n4 gd = hexc K from M1] at this
    exact this
  have k2 := FK.2
  have e1' : (hexc K).2.2.2.2 = H.2.2.2.2 := by rw [← k2]; rfl
  have e2' : (hexc K).2.2.1 = H.2.2.1 + 1 := by rw [← k2]; rfl
  have e3' : (hexc K).2.2.2.1 = H.2.2.2.1 + 6 := by rw [← k2]; rfl
  refine ⟨wm (hexc K) G' A' kp' S' (iI sv') 2 ke' le' ch' ln' ab' pt' rm' en' aa' iw' kd' n1' n2' n3' n4' gd', .int (iI 2), .int (iI b), LRx_mk (st_wm C1) M2 (g := g) (g2 := g2) (by rw [xmm_n (by omega), hexc_get, FK.1 117 (by omega)]; exact h1) (by rw [xmm_n (by omega), hexc_get, FK.1 118 (by omega)]; exact h2) L, ⟨e1', ?_, ?_⟩, fun Q => lc_permit (g := g) hL e1 e2 hH e1' h9 hM' h9' (fun Q => mo_tw Q) (Or.inr (by omega))⟩
  · show (hexc K).2.2.1 ≤ _
    omega
  · show (hexc K).2.2.2.1 ≤ _
    omega
theorem fv_reason (C : CW H dy nb B nu U np P nf F nx kp pa zr0 zs sv lr le ln ps ch rq V) (M : MWo H G A kp S (iI sv) tw ke le ch ln ab pt rm en aa iw kd n1 n2 n3 n4 gd) (h1 : hget H 117 = some (ola g)) (h2 : hget H 118 = some (oda g2)) (hL : 0 ≤ i ∧ i + 6 ≤ (H.2.2.2.2.1 : Int) ∧ H.2.2.2.2.1 < 1000000) (hC : ∀ Q, Call 11 m_X7_reason [.ref 0] H Q = Q (.inl (some (.int (iI v)))) K) (CK : CW K dy' nb' B' nu' U' np' P' nf' F' nx' kp' pa' zr0' zs' sv' lr' le' ln' ps' ch' rq' V') (FK : HF H K) (hX : X = hset K 117 (ola (vp_updL g (iI 0).toNatClampNeg (iI v).toInt64))) (hM : ∀ Q, Call 12 m_X8_reason [.ref 109] (wm X G A kp S (iI sv) tw ke le ch ln ab pt rm en aa iw kd n1 n2 n3 n4 gd) Q = Q (.inl (some (.int (iI v)))) (wm X G' A' kp' S' (iI sv') 0 ke' le' ch' ln' ab' pt' rm' en' aa' iw' kd' n1' n2' n3' n4' gd')) (L : LPx dy' nb' B' nu' U' np' P' nf' F' nx' kp' pa' zs' sv' lr' le' ln' ch' rq' V' G' A' S' ke') : ∃ (H2 : XH) (m6 m7 : Value), LRx H2 ∧ Fn H H2 ∧ ∀ Q, EvQ 13 m_L_law 1151 [.ref 2000000, .ref 0, .ref 109, .ref 117, .ref 118, .int (iI i), l6, l7, xjunk] [] H Q = EvQ 13 m_L_law 28 [.ref 2000000, .ref 0, .ref 109, .ref 117, .ref 118, .int (iI (i + 6)), m6, m7, xjunk] [] H2 Q := by
  have hK : hget K 117 = some (ola g) := by rw [FK.1 117 (by omega)]; exact h1
  have M1 : MWo X G A kp S (iI sv) tw ke le ch ln ab pt rm en aa iw kd n1 n2 n3 n4 gd := by rw [hX]; exact mo_out (mo_hf M FK)
  have C1 : CW X dy' nb' B' nu' U' np' P' nf' F' nx' kp' pa' zr0' zs' sv' lr' le' ln' ps' ch' rq' V' := by rw [hX]; exact st_out CK
  have hH := lo_reason C.2.1 hK hC
  rw [← hX] at hH
  obtain ⟨fs1, h9⟩ := mo_h9 M1
  have M2 : MWo (wm X G' A' kp' S' (iI sv') 0 ke' le' ch' ln' ab' pt' rm' en' aa' iw' kd' n1' n2' n3' n4' gd') G' A' kp' S' (iI sv') 0 ke' le' ch' ln' ab' pt' rm' en' aa' iw' kd' n1' n2' n3' n4' gd' := MWo_wm
  obtain ⟨fs2, h9'⟩ := mo_h9 M2
  have hM' : ∀ Q, Call 12 m_X8_reason [.ref 109] X Q = Q (.inl (some (.int (iI v)))) (wm X G' A' kp' S' (iI sv') 0 ke' le' ch' ln' ab' pt' rm' en' aa' iw' kd' n1' n2' n3' n4' gd') := fun Q => by
    have := hM Q
    rw [show wm X G A kp S (iI sv) tw ke le ch ln ab pt rm en aa iw kd n1 n2 n3 n4 gd = X from M1] at this
    exact this
  have e1' : X.2 = H.2 := by rw [hX]; exact FK.2
  have e2' : (wm X G' A' kp' S' (iI sv') 0 ke' le' ch' ln' ab' pt' rm' en' aa' iw' kd' n1' n2' n3' n4' gd').2 = H.2 := e1'
  exact ⟨wm X G' A' kp' S' (iI sv') 0 ke' le' ch' ln' ab' pt' rm' en' aa' iw' kd' n1' n2' n3' n4' gd', .int (iI 0), .int (iI v), LRx_mk (st_wm C1) M2 (g := vp_updL g (iI 0).toNatClampNeg (iI v).toInt64) (g2 := g2) (by rw [xmm_n (by omega), hX, hget_set]) (by rw [xmm_n (by omega), hX, hget_ne (by omega), FK.1 118 (by omega)]; exact h2) L, ⟨by rw [e2'], by rw [e2']; omega, by rw [e2']; omega⟩, fun Q => lc_reason hL hH (by rw [e1']) h9 hM' h9' (fun Q => mo_tw Q) (Or.inl ⟨rfl, by rw [xmm_n (by omega), hX, hget_set], updL_at⟩)⟩
theorem fx_reason_3 (C : CW H dy nb B nu U np P nf F nx kp pa zr0 zs sv lr le ln ps ch rq V) (M : MWo H G A kp S (iI sv) tw ke le ch ln ab pt rm en aa iw kd n1 n2 n3 n4 gd) (h1 : hget H 117 = some (ola g)) (h2 : hget H 118 = some (oda g2)) (hL : 0 ≤ i ∧ i + 6 ≤ (H.2.2.2.2.1 : Int) ∧ H.2.2.2.2.1 < 1000000) (hC : ∀ Q, Call 11 m_X7_reason [.ref 0] H Q = Q (.inr 3) (hexc K)) (CK : CW K dy' nb' B' nu' U' np' P' nf' F' nx' kp' pa' zr0' zs' sv' lr' le' ln' ps' ch' rq' V') (FK : HF H K) (hM : ∀ Q, Call 12 m_X8_reason [.ref 109] (wm (hexc K) G A kp S (iI sv) tw ke le ch ln ab pt rm en aa iw kd n1 n2 n3 n4 gd) Q = Q (.inl (some (.int (iI b)))) (wm (hexc K) G' A' kp' S' (iI sv') 1 ke' le' ch' ln' ab' pt' rm' en' aa' iw' kd' n1' n2' n3' n4' gd')) (L : LPx dy' nb' B' nu' U' np' P' nf' F' nx' kp' pa' zs' sv' lr' le' ln' ch' rq' V' G' A' S' ke') : ∃ (H2 : XH) (m6 m7 : Value), LRx H2 ∧ Fn H H2 ∧ ∀ Q, EvQ 13 m_L_law 1151 [.ref 2000000, .ref 0, .ref 109, .ref 117, .ref 118, .int (iI i), l6, l7, xjunk] [] H Q = EvQ 13 m_L_law 28 [.ref 2000000, .ref 0, .ref 109, .ref 117, .ref 118, .int (iI (i + 6)), m6, m7, xjunk] [] H2 Q := by
  have M1 : MWo (hexc K) G A kp S (iI sv) tw ke le ch ln ab pt rm en aa iw kd n1 n2 n3 n4 gd := mo_exc (mo_hf M FK)
  have C1 : CW (hexc K) dy' nb' B' nu' U' np' P' nf' F' nx' kp' pa' zr0' zs' sv' lr' le' ln' ps' ch' rq' V' := st_exc CK
  have hH := lx_reason_3 C.2.1 hC
  obtain ⟨fs1, h9⟩ := mo_h9 M1
  have M2 : MWo (wm (hexc K) G' A' kp' S' (iI sv') 1 ke' le' ch' ln' ab' pt' rm' en' aa' iw' kd' n1' n2' n3' n4' gd') G' A' kp' S' (iI sv') 1 ke' le' ch' ln' ab' pt' rm' en' aa' iw' kd' n1' n2' n3' n4' gd' := MWo_wm
  obtain ⟨fs2, h9'⟩ := mo_h9 M2
  have hM' : ∀ Q, Call 12 m_X8_reason [.ref 109] (hexc K) Q = Q (.inl (some (.int (iI b)))) (wm (hexc K) G' A' kp' S' (iI sv') 1 ke' le' ch' ln' ab' pt' rm' en' aa' iw' kd' n1' n2' n3' n4' gd') := fun Q => by
    have := hM Q
    rw [show wm (hexc K) G A kp S (iI sv) tw ke le ch ln ab pt rm en aa iw kd n1 n2 n3 n4 gd = hexc K from M1] at this
    exact this
  have k2 := FK.2
  have e1' : (hexc K).2.2.2.2 = H.2.2.2.2 := by rw [← k2]; rfl
  have e2' : (hexc K).2.2.1 = H.2.2.1 + 1 := by rw [← k2]; rfl
  have e3' : (hexc K).2.2.2.1 = H.2.2.2.1 + 6 := by rw [← k2]; rfl
  refine ⟨wm (hexc K) G' A' kp' S' (iI sv') 1 ke' le' ch' ln' ab' pt' rm' en' aa' iw' kd' n1' n2' n3' n4' gd', .int (iI 1), .int (iI b), LRx_mk (st_wm C1) M2 (g := g) (g2 := g2) (by rw [xmm_n (by omega), hexc_get, FK.1 117 (by omega)]; exact h1) (by rw [xmm_n (by omega), hexc_get, FK.1 118 (by omega)]; exact h2) L, ⟨e1', ?_, ?_⟩, fun Q => lc_reason (g := g) hL hH e1' h9 hM' h9' (fun Q => mo_tw Q) (Or.inr (by omega))⟩
  · show (hexc K).2.2.1 ≤ _
    omega
  · show (hexc K).2.2.2.1 ≤ _
    omega
theorem fv_pass (C : CW H dy nb B nu U np P nf F nx kp pa zr0 zs sv lr le ln ps ch rq V) (M : MWo H G A kp S (iI sv) tw ke le ch ln ab pt rm en aa iw kd n1 n2 n3 n4 gd) (h1 : hget H 117 = some (ola g)) (h2 : hget H 118 = some (oda g2)) (hL : 0 ≤ i ∧ i + 6 ≤ (H.2.2.2.2.1 : Int) ∧ H.2.2.2.2.1 < 1000000) (e1 : H.2.2.2.2.2 (iI (i + 1)).toNatClampNeg = iI x1) (hC : ∀ Q, Call 11 m_X7_pass [.ref 0, .int (iI x1)] H Q = Q (.inl (some (.int (iI v)))) K) (CK : CW K dy' nb' B' nu' U' np' P' nf' F' nx' kp' pa' zr0' zs' sv' lr' le' ln' ps' ch' rq' V') (FK : HF H K) (hX : X = hset K 117 (ola (vp_updL g (iI 0).toNatClampNeg (iI v).toInt64))) (hM : ∀ Q, Call 12 m_X8_pass [.ref 109, .int (iI x1)] (wm X G A kp S (iI sv) tw ke le ch ln ab pt rm en aa iw kd n1 n2 n3 n4 gd) Q = Q (.inl (some (.int (iI v)))) (wm X G' A' kp' S' (iI sv') 0 ke' le' ch' ln' ab' pt' rm' en' aa' iw' kd' n1' n2' n3' n4' gd')) (L : LPx dy' nb' B' nu' U' np' P' nf' F' nx' kp' pa' zs' sv' lr' le' ln' ch' rq' V' G' A' S' ke') : ∃ (H2 : XH) (m6 m7 : Value), LRx H2 ∧ Fn H H2 ∧ ∀ Q, EvQ 13 m_L_law 1195 [.ref 2000000, .ref 0, .ref 109, .ref 117, .ref 118, .int (iI i), l6, l7, xjunk] [] H Q = EvQ 13 m_L_law 28 [.ref 2000000, .ref 0, .ref 109, .ref 117, .ref 118, .int (iI (i + 6)), m6, m7, xjunk] [] H2 Q := by
  have hK : hget K 117 = some (ola g) := by rw [FK.1 117 (by omega)]; exact h1
  have M1 : MWo X G A kp S (iI sv) tw ke le ch ln ab pt rm en aa iw kd n1 n2 n3 n4 gd := by rw [hX]; exact mo_out (mo_hf M FK)
  have C1 : CW X dy' nb' B' nu' U' np' P' nf' F' nx' kp' pa' zr0' zs' sv' lr' le' ln' ps' ch' rq' V' := by rw [hX]; exact st_out CK
  have hH := lo_pass C.2.1 hK hC
  rw [← hX] at hH
  obtain ⟨fs1, h9⟩ := mo_h9 M1
  have M2 : MWo (wm X G' A' kp' S' (iI sv') 0 ke' le' ch' ln' ab' pt' rm' en' aa' iw' kd' n1' n2' n3' n4' gd') G' A' kp' S' (iI sv') 0 ke' le' ch' ln' ab' pt' rm' en' aa' iw' kd' n1' n2' n3' n4' gd' := MWo_wm
  obtain ⟨fs2, h9'⟩ := mo_h9 M2
  have hM' : ∀ Q, Call 12 m_X8_pass [.ref 109, .int (iI x1)] X Q = Q (.inl (some (.int (iI v)))) (wm X G' A' kp' S' (iI sv') 0 ke' le' ch' ln' ab' pt' rm' en' aa' iw' kd' n1' n2' n3' n4' gd') := fun Q => by
    have := hM Q
    rw [show wm X G A kp S (iI sv) tw ke le ch ln ab pt rm en aa iw kd n1 n2 n3 n4 gd = X from M1] at this
    exact this
  have e1' : X.2 = H.2 := by rw [hX]; exact FK.2
  have e2' : (wm X G' A' kp' S' (iI sv') 0 ke' le' ch' ln' ab' pt' rm' en' aa' iw' kd' n1' n2' n3' n4' gd').2 = H.2 := e1'
  exact ⟨wm X G' A' kp' S' (iI sv') 0 ke' le' ch' ln' ab' pt' rm' en' aa' iw' kd' n1' n2' n3' n4' gd', .int (iI 0), .int (iI v), LRx_mk (st_wm C1) M2 (g := vp_updL g (iI 0).toNatClampNeg (iI v).toInt64) (g2 := g2) (by rw [xmm_n (by omega), hX, hget_set]) (by rw [xmm_n (by omega), hX, hget_ne (by omega), FK.1 118 (by omega)]; exact h2) L, ⟨by rw [e2'], by rw [e2']; omega, by rw [e2']; omega⟩, fun Q => lc_pass hL e1 hH (by rw [e1']) h9 hM' h9' (fun Q => mo_tw Q) (Or.inl ⟨rfl, by rw [xmm_n (by omega), hX, hget_set], updL_at⟩)⟩
theorem fx_pass_0 (C : CW H dy nb B nu U np P nf F nx kp pa zr0 zs sv lr le ln ps ch rq V) (M : MWo H G A kp S (iI sv) tw ke le ch ln ab pt rm en aa iw kd n1 n2 n3 n4 gd) (h1 : hget H 117 = some (ola g)) (h2 : hget H 118 = some (oda g2)) (hL : 0 ≤ i ∧ i + 6 ≤ (H.2.2.2.2.1 : Int) ∧ H.2.2.2.2.1 < 1000000) (e1 : H.2.2.2.2.2 (iI (i + 1)).toNatClampNeg = iI x1) (hC : ∀ Q, Call 11 m_X7_pass [.ref 0, .int (iI x1)] H Q = Q (.inr 0) (hexc K)) (CK : CW K dy' nb' B' nu' U' np' P' nf' F' nx' kp' pa' zr0' zs' sv' lr' le' ln' ps' ch' rq' V') (FK : HF H K) (hM : ∀ Q, Call 12 m_X8_pass [.ref 109, .int (iI x1)] (wm (hexc K) G A kp S (iI sv) tw ke le ch ln ab pt rm en aa iw kd n1 n2 n3 n4 gd) Q = Q (.inl (some (.int (iI b)))) (wm (hexc K) G' A' kp' S' (iI sv') 1 ke' le' ch' ln' ab' pt' rm' en' aa' iw' kd' n1' n2' n3' n4' gd')) (L : LPx dy' nb' B' nu' U' np' P' nf' F' nx' kp' pa' zs' sv' lr' le' ln' ch' rq' V' G' A' S' ke') : ∃ (H2 : XH) (m6 m7 : Value), LRx H2 ∧ Fn H H2 ∧ ∀ Q, EvQ 13 m_L_law 1195 [.ref 2000000, .ref 0, .ref 109, .ref 117, .ref 118, .int (iI i), l6, l7, xjunk] [] H Q = EvQ 13 m_L_law 28 [.ref 2000000, .ref 0, .ref 109, .ref 117, .ref 118, .int (iI (i + 6)), m6, m7, xjunk] [] H2 Q := by
  have M1 : MWo (hexc K) G A kp S (iI sv) tw ke le ch ln ab pt rm en aa iw kd n1 n2 n3 n4 gd := mo_exc (mo_hf M FK)
  have C1 : CW (hexc K) dy' nb' B' nu' U' np' P' nf' F' nx' kp' pa' zr0' zs' sv' lr' le' ln' ps' ch' rq' V' := st_exc CK
  have hH := lx_pass_0 C.2.1 hC
  obtain ⟨fs1, h9⟩ := mo_h9 M1
  have M2 : MWo (wm (hexc K) G' A' kp' S' (iI sv') 1 ke' le' ch' ln' ab' pt' rm' en' aa' iw' kd' n1' n2' n3' n4' gd') G' A' kp' S' (iI sv') 1 ke' le' ch' ln' ab' pt' rm' en' aa' iw' kd' n1' n2' n3' n4' gd' := MWo_wm
  obtain ⟨fs2, h9'⟩ := mo_h9 M2
  have hM' : ∀ Q, Call 12 m_X8_pass [.ref 109, .int (iI x1)] (hexc K) Q = Q (.inl (some (.int (iI b)))) (wm (hexc K) G' A' kp' S' (iI sv') 1 ke' le' ch' ln' ab' pt' rm' en' aa' iw' kd' n1' n2' n3' n4' gd') := fun Q => by
    have := hM Q
    rw [show wm (hexc K) G A kp S (iI sv) tw ke le ch ln ab pt rm en aa iw kd n1 n2 n3 n4 gd = hexc K from M1] at this
    exact this
  have k2 := FK.2
  have e1' : (hexc K).2.2.2.2 = H.2.2.2.2 := by rw [← k2]; rfl
  have e2' : (hexc K).2.2.1 = H.2.2.1 + 1 := by rw [← k2]; rfl
  have e3' : (hexc K).2.2.2.1 = H.2.2.2.1 + 6 := by rw [← k2]; rfl
  refine ⟨wm (hexc K) G' A' kp' S' (iI sv') 1 ke' le' ch' ln' ab' pt' rm' en' aa' iw' kd' n1' n2' n3' n4' gd', .int (iI 1), .int (iI b), LRx_mk (st_wm C1) M2 (g := g) (g2 := g2) (by rw [xmm_n (by omega), hexc_get, FK.1 117 (by omega)]; exact h1) (by rw [xmm_n (by omega), hexc_get, FK.1 118 (by omega)]; exact h2) L, ⟨e1', ?_, ?_⟩, fun Q => lc_pass (g := g) hL e1 hH e1' h9 hM' h9' (fun Q => mo_tw Q) (Or.inr (by omega))⟩
  · show (hexc K).2.2.1 ≤ _
    omega
  · show (hexc K).2.2.2.1 ≤ _
    omega
theorem fx_pass_1 (C : CW H dy nb B nu U np P nf F nx kp pa zr0 zs sv lr le ln ps ch rq V) (M : MWo H G A kp S (iI sv) tw ke le ch ln ab pt rm en aa iw kd n1 n2 n3 n4 gd) (h1 : hget H 117 = some (ola g)) (h2 : hget H 118 = some (oda g2)) (hL : 0 ≤ i ∧ i + 6 ≤ (H.2.2.2.2.1 : Int) ∧ H.2.2.2.2.1 < 1000000) (e1 : H.2.2.2.2.2 (iI (i + 1)).toNatClampNeg = iI x1) (hC : ∀ Q, Call 11 m_X7_pass [.ref 0, .int (iI x1)] H Q = Q (.inr 1) (hexc K)) (CK : CW K dy' nb' B' nu' U' np' P' nf' F' nx' kp' pa' zr0' zs' sv' lr' le' ln' ps' ch' rq' V') (FK : HF H K) (hM : ∀ Q, Call 12 m_X8_pass [.ref 109, .int (iI x1)] (wm (hexc K) G A kp S (iI sv) tw ke le ch ln ab pt rm en aa iw kd n1 n2 n3 n4 gd) Q = Q (.inl (some (.int (iI b)))) (wm (hexc K) G' A' kp' S' (iI sv') 2 ke' le' ch' ln' ab' pt' rm' en' aa' iw' kd' n1' n2' n3' n4' gd')) (L : LPx dy' nb' B' nu' U' np' P' nf' F' nx' kp' pa' zs' sv' lr' le' ln' ch' rq' V' G' A' S' ke') : ∃ (H2 : XH) (m6 m7 : Value), LRx H2 ∧ Fn H H2 ∧ ∀ Q, EvQ 13 m_L_law 1195 [.ref 2000000, .ref 0, .ref 109, .ref 117, .ref 118, .int (iI i), l6, l7, xjunk] [] H Q = EvQ 13 m_L_law 28 [.ref 2000000, .ref 0, .ref 109, .ref 117, .ref 118, .int (iI (i + 6)), m6, m7, xjunk] [] H2 Q := by
  have M1 : MWo (hexc K) G A kp S (iI sv) tw ke le ch ln ab pt rm en aa iw kd n1 n2 n3 n4 gd := mo_exc (mo_hf M FK)
  have C1 : CW (hexc K) dy' nb' B' nu' U' np' P' nf' F' nx' kp' pa' zr0' zs' sv' lr' le' ln' ps' ch' rq' V' := st_exc CK
  have hH := lx_pass_1 C.2.1 hC
  obtain ⟨fs1, h9⟩ := mo_h9 M1
  have M2 : MWo (wm (hexc K) G' A' kp' S' (iI sv') 2 ke' le' ch' ln' ab' pt' rm' en' aa' iw' kd' n1' n2' n3' n4' gd') G' A' kp' S' (iI sv') 2 ke' le' ch' ln' ab' pt' rm' en' aa' iw' kd' n1' n2' n3' n4' gd' := MWo_wm
  obtain ⟨fs2, h9'⟩ := mo_h9 M2
  have hM' : ∀ Q, Call 12 m_X8_pass [.ref 109, .int (iI x1)] (hexc K) Q = Q (.inl (some (.int (iI b)))) (wm (hexc K) G' A' kp' S' (iI sv') 2 ke' le' ch' ln' ab' pt' rm' en' aa' iw' kd' n1' n2' n3' n4' gd') := fun Q => by
    have := hM Q
    rw [show wm (hexc K) G A kp S (iI sv) tw ke le ch ln ab pt rm en aa iw kd n1 n2 n3 n4 gd = hexc K from M1] at this
    exact this
  have k2 := FK.2
  have e1' : (hexc K).2.2.2.2 = H.2.2.2.2 := by rw [← k2]; rfl
  have e2' : (hexc K).2.2.1 = H.2.2.1 + 1 := by rw [← k2]; rfl
  have e3' : (hexc K).2.2.2.1 = H.2.2.2.1 + 6 := by rw [← k2]; rfl
  refine ⟨wm (hexc K) G' A' kp' S' (iI sv') 2 ke' le' ch' ln' ab' pt' rm' en' aa' iw' kd' n1' n2' n3' n4' gd', .int (iI 2), .int (iI b), LRx_mk (st_wm C1) M2 (g := g) (g2 := g2) (by rw [xmm_n (by omega), hexc_get, FK.1 117 (by omega)]; exact h1) (by rw [xmm_n (by omega), hexc_get, FK.1 118 (by omega)]; exact h2) L, ⟨e1', ?_, ?_⟩, fun Q => lc_pass (g := g) hL e1 hH e1' h9 hM' h9' (fun Q => mo_tw Q) (Or.inr (by omega))⟩
  · show (hexc K).2.2.1 ≤ _
    omega
  · show (hexc K).2.2.2.1 ≤ _
    omega
theorem fv_count (C : CW H dy nb B nu U np P nf F nx kp pa zr0 zs sv lr le ln ps ch rq V) (M : MWo H G A kp S (iI sv) tw ke le ch ln ab pt rm en aa iw kd n1 n2 n3 n4 gd) (h1 : hget H 117 = some (ola g)) (h2 : hget H 118 = some (oda g2)) (hL : 0 ≤ i ∧ i + 6 ≤ (H.2.2.2.2.1 : Int) ∧ H.2.2.2.2.1 < 1000000) (e1 : H.2.2.2.2.2 (iI (i + 1)).toNatClampNeg = iI x1) (e2 : H.2.2.2.2.2 (iI (i + 2)).toNatClampNeg = iI x2) (e3 : H.2.2.2.2.2 (iI (i + 3)).toNatClampNeg = iI x3) (e4 : H.2.2.2.2.2 (iI (i + 4)).toNatClampNeg = iI x4) (hz : (x4 = 0 ∧ z = 0) ∨ ((iI x4 = iI 0) = False ∧ z = 1)) (hC : ∀ Q, Call 11 m_X7_count [.ref 0, .int (iI x1), .int (iI x2), .int (iI x3), .int (iI z)] H Q = Q (.inl (some (.int (iI v)))) K) (CK : CW K dy' nb' B' nu' U' np' P' nf' F' nx' kp' pa' zr0' zs' sv' lr' le' ln' ps' ch' rq' V') (FK : HF H K) (hX : X = hset K 117 (ola (vp_updL g (iI 0).toNatClampNeg (iI v).toInt64))) (hM : ∀ Q, Call 12 m_X8_count [.ref 109, .int (iI x1), .int (iI x2), .int (iI x3), .int (iI z)] (wm X G A kp S (iI sv) tw ke le ch ln ab pt rm en aa iw kd n1 n2 n3 n4 gd) Q = Q (.inl (some (.int (iI v)))) (wm X G' A' kp' S' (iI sv') 0 ke' le' ch' ln' ab' pt' rm' en' aa' iw' kd' n1' n2' n3' n4' gd')) (L : LPx dy' nb' B' nu' U' np' P' nf' F' nx' kp' pa' zs' sv' lr' le' ln' ch' rq' V' G' A' S' ke') : ∃ (H2 : XH) (m6 m7 : Value), LRx H2 ∧ Fn H H2 ∧ ∀ Q, EvQ 13 m_L_law 1251 [.ref 2000000, .ref 0, .ref 109, .ref 117, .ref 118, .int (iI i), l6, l7, xjunk] [] H Q = EvQ 13 m_L_law 28 [.ref 2000000, .ref 0, .ref 109, .ref 117, .ref 118, .int (iI (i + 6)), m6, m7, xjunk] [] H2 Q := by
  have hK : hget K 117 = some (ola g) := by rw [FK.1 117 (by omega)]; exact h1
  have M1 : MWo X G A kp S (iI sv) tw ke le ch ln ab pt rm en aa iw kd n1 n2 n3 n4 gd := by rw [hX]; exact mo_out (mo_hf M FK)
  have C1 : CW X dy' nb' B' nu' U' np' P' nf' F' nx' kp' pa' zr0' zs' sv' lr' le' ln' ps' ch' rq' V' := by rw [hX]; exact st_out CK
  have hH := lo_count C.2.1 hK hC
  rw [← hX] at hH
  obtain ⟨fs1, h9⟩ := mo_h9 M1
  have M2 : MWo (wm X G' A' kp' S' (iI sv') 0 ke' le' ch' ln' ab' pt' rm' en' aa' iw' kd' n1' n2' n3' n4' gd') G' A' kp' S' (iI sv') 0 ke' le' ch' ln' ab' pt' rm' en' aa' iw' kd' n1' n2' n3' n4' gd' := MWo_wm
  obtain ⟨fs2, h9'⟩ := mo_h9 M2
  have hM' : ∀ Q, Call 12 m_X8_count [.ref 109, .int (iI x1), .int (iI x2), .int (iI x3), .int (iI z)] X Q = Q (.inl (some (.int (iI v)))) (wm X G' A' kp' S' (iI sv') 0 ke' le' ch' ln' ab' pt' rm' en' aa' iw' kd' n1' n2' n3' n4' gd') := fun Q => by
    have := hM Q
    rw [show wm X G A kp S (iI sv) tw ke le ch ln ab pt rm en aa iw kd n1 n2 n3 n4 gd = X from M1] at this
    exact this
  have e1' : X.2 = H.2 := by rw [hX]; exact FK.2
  have e2' : (wm X G' A' kp' S' (iI sv') 0 ke' le' ch' ln' ab' pt' rm' en' aa' iw' kd' n1' n2' n3' n4' gd').2 = H.2 := e1'
  exact ⟨wm X G' A' kp' S' (iI sv') 0 ke' le' ch' ln' ab' pt' rm' en' aa' iw' kd' n1' n2' n3' n4' gd', .int (iI 0), .int (iI v), LRx_mk (st_wm C1) M2 (g := vp_updL g (iI 0).toNatClampNeg (iI v).toInt64) (g2 := g2) (by rw [xmm_n (by omega), hX, hget_set]) (by rw [xmm_n (by omega), hX, hget_ne (by omega), FK.1 118 (by omega)]; exact h2) L, ⟨by rw [e2'], by rw [e2']; omega, by rw [e2']; omega⟩, fun Q => lc_count hL e1 e2 e3 e4 hz hH (by rw [e1']) h9 hM' h9' (fun Q => mo_tw Q) (Or.inl ⟨rfl, by rw [xmm_n (by omega), hX, hget_set], updL_at⟩)⟩
theorem fx_count_2 (C : CW H dy nb B nu U np P nf F nx kp pa zr0 zs sv lr le ln ps ch rq V) (M : MWo H G A kp S (iI sv) tw ke le ch ln ab pt rm en aa iw kd n1 n2 n3 n4 gd) (h1 : hget H 117 = some (ola g)) (h2 : hget H 118 = some (oda g2)) (hL : 0 ≤ i ∧ i + 6 ≤ (H.2.2.2.2.1 : Int) ∧ H.2.2.2.2.1 < 1000000) (e1 : H.2.2.2.2.2 (iI (i + 1)).toNatClampNeg = iI x1) (e2 : H.2.2.2.2.2 (iI (i + 2)).toNatClampNeg = iI x2) (e3 : H.2.2.2.2.2 (iI (i + 3)).toNatClampNeg = iI x3) (e4 : H.2.2.2.2.2 (iI (i + 4)).toNatClampNeg = iI x4) (hz : (x4 = 0 ∧ z = 0) ∨ ((iI x4 = iI 0) = False ∧ z = 1)) (hC : ∀ Q, Call 11 m_X7_count [.ref 0, .int (iI x1), .int (iI x2), .int (iI x3), .int (iI z)] H Q = Q (.inr 2) (hexc K)) (CK : CW K dy' nb' B' nu' U' np' P' nf' F' nx' kp' pa' zr0' zs' sv' lr' le' ln' ps' ch' rq' V') (FK : HF H K) (hM : ∀ Q, Call 12 m_X8_count [.ref 109, .int (iI x1), .int (iI x2), .int (iI x3), .int (iI z)] (wm (hexc K) G A kp S (iI sv) tw ke le ch ln ab pt rm en aa iw kd n1 n2 n3 n4 gd) Q = Q (.inl (some (.int (iI b)))) (wm (hexc K) G' A' kp' S' (iI sv') 1 ke' le' ch' ln' ab' pt' rm' en' aa' iw' kd' n1' n2' n3' n4' gd')) (L : LPx dy' nb' B' nu' U' np' P' nf' F' nx' kp' pa' zs' sv' lr' le' ln' ch' rq' V' G' A' S' ke') : ∃ (H2 : XH) (m6 m7 : Value), LRx H2 ∧ Fn H H2 ∧ ∀ Q, EvQ 13 m_L_law 1251 [.ref 2000000, .ref 0, .ref 109, .ref 117, .ref 118, .int (iI i), l6, l7, xjunk] [] H Q = EvQ 13 m_L_law 28 [.ref 2000000, .ref 0, .ref 109, .ref 117, .ref 118, .int (iI (i + 6)), m6, m7, xjunk] [] H2 Q := by
  have M1 : MWo (hexc K) G A kp S (iI sv) tw ke le ch ln ab pt rm en aa iw kd n1 n2 n3 n4 gd := mo_exc (mo_hf M FK)
  have C1 : CW (hexc K) dy' nb' B' nu' U' np' P' nf' F' nx' kp' pa' zr0' zs' sv' lr' le' ln' ps' ch' rq' V' := st_exc CK
  have hH := lx_count_2 C.2.1 hC
  obtain ⟨fs1, h9⟩ := mo_h9 M1
  have M2 : MWo (wm (hexc K) G' A' kp' S' (iI sv') 1 ke' le' ch' ln' ab' pt' rm' en' aa' iw' kd' n1' n2' n3' n4' gd') G' A' kp' S' (iI sv') 1 ke' le' ch' ln' ab' pt' rm' en' aa' iw' kd' n1' n2' n3' n4' gd' := MWo_wm
  obtain ⟨fs2, h9'⟩ := mo_h9 M2
  have hM' : ∀ Q, Call 12 m_X8_count [.ref 109, .int (iI x1), .int (iI x2), .int (iI x3), .int (iI z)] (hexc K) Q = Q (.inl (some (.int (iI b)))) (wm (hexc K) G' A' kp' S' (iI sv') 1 ke' le' ch' ln' ab' pt' rm' en' aa' iw' kd' n1' n2' n3' n4' gd') := fun Q => by
    have := hM Q
    rw [show wm (hexc K) G A kp S (iI sv) tw ke le ch ln ab pt rm en aa iw kd n1 n2 n3 n4 gd = hexc K from M1] at this
    exact this
  have k2 := FK.2
  have e1' : (hexc K).2.2.2.2 = H.2.2.2.2 := by rw [← k2]; rfl
  have e2' : (hexc K).2.2.1 = H.2.2.1 + 1 := by rw [← k2]; rfl
  have e3' : (hexc K).2.2.2.1 = H.2.2.2.1 + 6 := by rw [← k2]; rfl
  refine ⟨wm (hexc K) G' A' kp' S' (iI sv') 1 ke' le' ch' ln' ab' pt' rm' en' aa' iw' kd' n1' n2' n3' n4' gd', .int (iI 1), .int (iI b), LRx_mk (st_wm C1) M2 (g := g) (g2 := g2) (by rw [xmm_n (by omega), hexc_get, FK.1 117 (by omega)]; exact h1) (by rw [xmm_n (by omega), hexc_get, FK.1 118 (by omega)]; exact h2) L, ⟨e1', ?_, ?_⟩, fun Q => lc_count (g := g) hL e1 e2 e3 e4 hz hH e1' h9 hM' h9' (fun Q => mo_tw Q) (Or.inr (by omega))⟩
  · show (hexc K).2.2.1 ≤ _
    omega
  · show (hexc K).2.2.2.1 ≤ _
    omega
theorem fx_count_0 (C : CW H dy nb B nu U np P nf F nx kp pa zr0 zs sv lr le ln ps ch rq V) (M : MWo H G A kp S (iI sv) tw ke le ch ln ab pt rm en aa iw kd n1 n2 n3 n4 gd) (h1 : hget H 117 = some (ola g)) (h2 : hget H 118 = some (oda g2)) (hL : 0 ≤ i ∧ i + 6 ≤ (H.2.2.2.2.1 : Int) ∧ H.2.2.2.2.1 < 1000000) (e1 : H.2.2.2.2.2 (iI (i + 1)).toNatClampNeg = iI x1) (e2 : H.2.2.2.2.2 (iI (i + 2)).toNatClampNeg = iI x2) (e3 : H.2.2.2.2.2 (iI (i + 3)).toNatClampNeg = iI x3) (e4 : H.2.2.2.2.2 (iI (i + 4)).toNatClampNeg = iI x4) (hz : (x4 = 0 ∧ z = 0) ∨ ((iI x4 = iI 0) = False ∧ z = 1)) (hC : ∀ Q, Call 11 m_X7_count [.ref 0, .int (iI x1), .int (iI x2), .int (iI x3), .int (iI z)] H Q = Q (.inr 0) (hexc K)) (CK : CW K dy' nb' B' nu' U' np' P' nf' F' nx' kp' pa' zr0' zs' sv' lr' le' ln' ps' ch' rq' V') (FK : HF H K) (hM : ∀ Q, Call 12 m_X8_count [.ref 109, .int (iI x1), .int (iI x2), .int (iI x3), .int (iI z)] (wm (hexc K) G A kp S (iI sv) tw ke le ch ln ab pt rm en aa iw kd n1 n2 n3 n4 gd) Q = Q (.inl (some (.int (iI b)))) (wm (hexc K) G' A' kp' S' (iI sv') 2 ke' le' ch' ln' ab' pt' rm' en' aa' iw' kd' n1' n2' n3' n4' gd')) (L : LPx dy' nb' B' nu' U' np' P' nf' F' nx' kp' pa' zs' sv' lr' le' ln' ch' rq' V' G' A' S' ke') : ∃ (H2 : XH) (m6 m7 : Value), LRx H2 ∧ Fn H H2 ∧ ∀ Q, EvQ 13 m_L_law 1251 [.ref 2000000, .ref 0, .ref 109, .ref 117, .ref 118, .int (iI i), l6, l7, xjunk] [] H Q = EvQ 13 m_L_law 28 [.ref 2000000, .ref 0, .ref 109, .ref 117, .ref 118, .int (iI (i + 6)), m6, m7, xjunk] [] H2 Q := by
  have M1 : MWo (hexc K) G A kp S (iI sv) tw ke le ch ln ab pt rm en aa iw kd n1 n2 n3 n4 gd := mo_exc (mo_hf M FK)
  have C1 : CW (hexc K) dy' nb' B' nu' U' np' P' nf' F' nx' kp' pa' zr0' zs' sv' lr' le' ln' ps' ch' rq' V' := st_exc CK
  have hH := lx_count_0 C.2.1 hC
  obtain ⟨fs1, h9⟩ := mo_h9 M1
  have M2 : MWo (wm (hexc K) G' A' kp' S' (iI sv') 2 ke' le' ch' ln' ab' pt' rm' en' aa' iw' kd' n1' n2' n3' n4' gd') G' A' kp' S' (iI sv') 2 ke' le' ch' ln' ab' pt' rm' en' aa' iw' kd' n1' n2' n3' n4' gd' := MWo_wm
  obtain ⟨fs2, h9'⟩ := mo_h9 M2
  have hM' : ∀ Q, Call 12 m_X8_count [.ref 109, .int (iI x1), .int (iI x2), .int (iI x3), .int (iI z)] (hexc K) Q = Q (.inl (some (.int (iI b)))) (wm (hexc K) G' A' kp' S' (iI sv') 2 ke' le' ch' ln' ab' pt' rm' en' aa' iw' kd' n1' n2' n3' n4' gd') := fun Q => by
    have := hM Q
    rw [show wm (hexc K) G A kp S (iI sv) tw ke le ch ln ab pt rm en aa iw kd n1 n2 n3 n4 gd = hexc K from M1] at this
    exact this
  have k2 := FK.2
  have e1' : (hexc K).2.2.2.2 = H.2.2.2.2 := by rw [← k2]; rfl
  have e2' : (hexc K).2.2.1 = H.2.2.1 + 1 := by rw [← k2]; rfl
  have e3' : (hexc K).2.2.2.1 = H.2.2.2.1 + 6 := by rw [← k2]; rfl
  refine ⟨wm (hexc K) G' A' kp' S' (iI sv') 2 ke' le' ch' ln' ab' pt' rm' en' aa' iw' kd' n1' n2' n3' n4' gd', .int (iI 2), .int (iI b), LRx_mk (st_wm C1) M2 (g := g) (g2 := g2) (by rw [xmm_n (by omega), hexc_get, FK.1 117 (by omega)]; exact h1) (by rw [xmm_n (by omega), hexc_get, FK.1 118 (by omega)]; exact h2) L, ⟨e1', ?_, ?_⟩, fun Q => lc_count (g := g) hL e1 e2 e3 e4 hz hH e1' h9 hM' h9' (fun Q => mo_tw Q) (Or.inr (by omega))⟩
  · show (hexc K).2.2.1 ≤ _
    omega
  · show (hexc K).2.2.2.1 ≤ _
    omega
theorem fv_replayed (C : CW H dy nb B nu U np P nf F nx kp pa zr0 zs sv lr le ln ps ch rq V) (M : MWo H G A kp S (iI sv) tw ke le ch ln ab pt rm en aa iw kd n1 n2 n3 n4 gd) (h1 : hget H 117 = some (ola g)) (h2 : hget H 118 = some (oda g2)) (hL : 0 ≤ i ∧ i + 6 ≤ (H.2.2.2.2.1 : Int) ∧ H.2.2.2.2.1 < 1000000) (e1 : H.2.2.2.2.2 (iI (i + 1)).toNatClampNeg = iI x1) (e2 : H.2.2.2.2.2 (iI (i + 2)).toNatClampNeg = iI x2) (e3 : H.2.2.2.2.2 (iI (i + 3)).toNatClampNeg = iI x3) (e4 : H.2.2.2.2.2 (iI (i + 4)).toNatClampNeg = iI x4) (hz : (x4 = 0 ∧ z = 0) ∨ ((iI x4 = iI 0) = False ∧ z = 1)) (hC : ∀ Q, Call 11 m_X7_replayed [.ref 0, .int (iI x1), .int (iI x2), .int (iI x3), .int (iI z)] H Q = Q (.inl (some (.int (iI v)))) K) (CK : CW K dy' nb' B' nu' U' np' P' nf' F' nx' kp' pa' zr0' zs' sv' lr' le' ln' ps' ch' rq' V') (FK : HF H K) (hX : X = hset K 117 (ola (vp_updL g (iI 0).toNatClampNeg (iI v).toInt64))) (hM : ∀ Q, Call 12 m_X8_replayed [.ref 109, .int (iI x1), .int (iI x2), .int (iI x3), .int (iI z)] (wm X G A kp S (iI sv) tw ke le ch ln ab pt rm en aa iw kd n1 n2 n3 n4 gd) Q = Q (.inl (some (.int (iI v)))) (wm X G' A' kp' S' (iI sv') 0 ke' le' ch' ln' ab' pt' rm' en' aa' iw' kd' n1' n2' n3' n4' gd')) (L : LPx dy' nb' B' nu' U' np' P' nf' F' nx' kp' pa' zs' sv' lr' le' ln' ch' rq' V' G' A' S' ke') : ∃ (H2 : XH) (m6 m7 : Value), LRx H2 ∧ Fn H H2 ∧ ∀ Q, EvQ 13 m_L_law 1359 [.ref 2000000, .ref 0, .ref 109, .ref 117, .ref 118, .int (iI i), l6, l7, xjunk] [] H Q = EvQ 13 m_L_law 28 [.ref 2000000, .ref 0, .ref 109, .ref 117, .ref 118, .int (iI (i + 6)), m6, m7, xjunk] [] H2 Q := by
  have hK : hget K 117 = some (ola g) := by rw [FK.1 117 (by omega)]; exact h1
  have M1 : MWo X G A kp S (iI sv) tw ke le ch ln ab pt rm en aa iw kd n1 n2 n3 n4 gd := by rw [hX]; exact mo_out (mo_hf M FK)
  have C1 : CW X dy' nb' B' nu' U' np' P' nf' F' nx' kp' pa' zr0' zs' sv' lr' le' ln' ps' ch' rq' V' := by rw [hX]; exact st_out CK
  have hH := lo_replayed C.2.1 hK hC
  rw [← hX] at hH
  obtain ⟨fs1, h9⟩ := mo_h9 M1
  have M2 : MWo (wm X G' A' kp' S' (iI sv') 0 ke' le' ch' ln' ab' pt' rm' en' aa' iw' kd' n1' n2' n3' n4' gd') G' A' kp' S' (iI sv') 0 ke' le' ch' ln' ab' pt' rm' en' aa' iw' kd' n1' n2' n3' n4' gd' := MWo_wm
  obtain ⟨fs2, h9'⟩ := mo_h9 M2
  have hM' : ∀ Q, Call 12 m_X8_replayed [.ref 109, .int (iI x1), .int (iI x2), .int (iI x3), .int (iI z)] X Q = Q (.inl (some (.int (iI v)))) (wm X G' A' kp' S' (iI sv') 0 ke' le' ch' ln' ab' pt' rm' en' aa' iw' kd' n1' n2' n3' n4' gd') := fun Q => by
    have := hM Q
    rw [show wm X G A kp S (iI sv) tw ke le ch ln ab pt rm en aa iw kd n1 n2 n3 n4 gd = X from M1] at this
    exact this
  have e1' : X.2 = H.2 := by rw [hX]; exact FK.2
  have e2' : (wm X G' A' kp' S' (iI sv') 0 ke' le' ch' ln' ab' pt' rm' en' aa' iw' kd' n1' n2' n3' n4' gd').2 = H.2 := e1'
  exact ⟨wm X G' A' kp' S' (iI sv') 0 ke' le' ch' ln' ab' pt' rm' en' aa' iw' kd' n1' n2' n3' n4' gd', .int (iI 0), .int (iI v), LRx_mk (st_wm C1) M2 (g := vp_updL g (iI 0).toNatClampNeg (iI v).toInt64) (g2 := g2) (by rw [xmm_n (by omega), hX, hget_set]) (by rw [xmm_n (by omega), hX, hget_ne (by omega), FK.1 118 (by omega)]; exact h2) L, ⟨by rw [e2'], by rw [e2']; omega, by rw [e2']; omega⟩, fun Q => lc_replayed hL e1 e2 e3 e4 hz hH (by rw [e1']) h9 hM' h9' (fun Q => mo_tw Q) (Or.inl ⟨rfl, by rw [xmm_n (by omega), hX, hget_set], updL_at⟩)⟩
theorem fx_replayed_2 (C : CW H dy nb B nu U np P nf F nx kp pa zr0 zs sv lr le ln ps ch rq V) (M : MWo H G A kp S (iI sv) tw ke le ch ln ab pt rm en aa iw kd n1 n2 n3 n4 gd) (h1 : hget H 117 = some (ola g)) (h2 : hget H 118 = some (oda g2)) (hL : 0 ≤ i ∧ i + 6 ≤ (H.2.2.2.2.1 : Int) ∧ H.2.2.2.2.1 < 1000000) (e1 : H.2.2.2.2.2 (iI (i + 1)).toNatClampNeg = iI x1) (e2 : H.2.2.2.2.2 (iI (i + 2)).toNatClampNeg = iI x2) (e3 : H.2.2.2.2.2 (iI (i + 3)).toNatClampNeg = iI x3) (e4 : H.2.2.2.2.2 (iI (i + 4)).toNatClampNeg = iI x4) (hz : (x4 = 0 ∧ z = 0) ∨ ((iI x4 = iI 0) = False ∧ z = 1)) (hC : ∀ Q, Call 11 m_X7_replayed [.ref 0, .int (iI x1), .int (iI x2), .int (iI x3), .int (iI z)] H Q = Q (.inr 2) (hexc K)) (CK : CW K dy' nb' B' nu' U' np' P' nf' F' nx' kp' pa' zr0' zs' sv' lr' le' ln' ps' ch' rq' V') (FK : HF H K) (hM : ∀ Q, Call 12 m_X8_replayed [.ref 109, .int (iI x1), .int (iI x2), .int (iI x3), .int (iI z)] (wm (hexc K) G A kp S (iI sv) tw ke le ch ln ab pt rm en aa iw kd n1 n2 n3 n4 gd) Q = Q (.inl (some (.int (iI b)))) (wm (hexc K) G' A' kp' S' (iI sv') 1 ke' le' ch' ln' ab' pt' rm' en' aa' iw' kd' n1' n2' n3' n4' gd')) (L : LPx dy' nb' B' nu' U' np' P' nf' F' nx' kp' pa' zs' sv' lr' le' ln' ch' rq' V' G' A' S' ke') : ∃ (H2 : XH) (m6 m7 : Value), LRx H2 ∧ Fn H H2 ∧ ∀ Q, EvQ 13 m_L_law 1359 [.ref 2000000, .ref 0, .ref 109, .ref 117, .ref 118, .int (iI i), l6, l7, xjunk] [] H Q = EvQ 13 m_L_law 28 [.ref 2000000, .ref 0, .ref 109, .ref 117, .ref 118, .int (iI (i + 6)), m6, m7, xjunk] [] H2 Q := by
  have M1 : MWo (hexc K) G A kp S (iI sv) tw ke le ch ln ab pt rm en aa iw kd n1 n2 n3 n4 gd := mo_exc (mo_hf M FK)
  have C1 : CW (hexc K) dy' nb' B' nu' U' np' P' nf' F' nx' kp' pa' zr0' zs' sv' lr' le' ln' ps' ch' rq' V' := st_exc CK
  have hH := lx_replayed_2 C.2.1 hC
  obtain ⟨fs1, h9⟩ := mo_h9 M1
  have M2 : MWo (wm (hexc K) G' A' kp' S' (iI sv') 1 ke' le' ch' ln' ab' pt' rm' en' aa' iw' kd' n1' n2' n3' n4' gd') G' A' kp' S' (iI sv') 1 ke' le' ch' ln' ab' pt' rm' en' aa' iw' kd' n1' n2' n3' n4' gd' := MWo_wm
  obtain ⟨fs2, h9'⟩ := mo_h9 M2
  have hM' : ∀ Q, Call 12 m_X8_replayed [.ref 109, .int (iI x1), .int (iI x2), .int (iI x3), .int (iI z)] (hexc K) Q = Q (.inl (some (.int (iI b)))) (wm (hexc K) G' A' kp' S' (iI sv') 1 ke' le' ch' ln' ab' pt' rm' en' aa' iw' kd' n1' n2' n3' n4' gd') := fun Q => by
    have := hM Q
    rw [show wm (hexc K) G A kp S (iI sv) tw ke le ch ln ab pt rm en aa iw kd n1 n2 n3 n4 gd = hexc K from M1] at this
    exact this
  have k2 := FK.2
  have e1' : (hexc K).2.2.2.2 = H.2.2.2.2 := by rw [← k2]; rfl
  have e2' : (hexc K).2.2.1 = H.2.2.1 + 1 := by rw [← k2]; rfl
  have e3' : (hexc K).2.2.2.1 = H.2.2.2.1 + 6 := by rw [← k2]; rfl
  refine ⟨wm (hexc K) G' A' kp' S' (iI sv') 1 ke' le' ch' ln' ab' pt' rm' en' aa' iw' kd' n1' n2' n3' n4' gd', .int (iI 1), .int (iI b), LRx_mk (st_wm C1) M2 (g := g) (g2 := g2) (by rw [xmm_n (by omega), hexc_get, FK.1 117 (by omega)]; exact h1) (by rw [xmm_n (by omega), hexc_get, FK.1 118 (by omega)]; exact h2) L, ⟨e1', ?_, ?_⟩, fun Q => lc_replayed (g := g) hL e1 e2 e3 e4 hz hH e1' h9 hM' h9' (fun Q => mo_tw Q) (Or.inr (by omega))⟩
  · show (hexc K).2.2.1 ≤ _
    omega
  · show (hexc K).2.2.2.1 ≤ _
    omega
theorem fx_replayed_0 (C : CW H dy nb B nu U np P nf F nx kp pa zr0 zs sv lr le ln ps ch rq V) (M : MWo H G A kp S (iI sv) tw ke le ch ln ab pt rm en aa iw kd n1 n2 n3 n4 gd) (h1 : hget H 117 = some (ola g)) (h2 : hget H 118 = some (oda g2)) (hL : 0 ≤ i ∧ i + 6 ≤ (H.2.2.2.2.1 : Int) ∧ H.2.2.2.2.1 < 1000000) (e1 : H.2.2.2.2.2 (iI (i + 1)).toNatClampNeg = iI x1) (e2 : H.2.2.2.2.2 (iI (i + 2)).toNatClampNeg = iI x2) (e3 : H.2.2.2.2.2 (iI (i + 3)).toNatClampNeg = iI x3) (e4 : H.2.2.2.2.2 (iI (i + 4)).toNatClampNeg = iI x4) (hz : (x4 = 0 ∧ z = 0) ∨ ((iI x4 = iI 0) = False ∧ z = 1)) (hC : ∀ Q, Call 11 m_X7_replayed [.ref 0, .int (iI x1), .int (iI x2), .int (iI x3), .int (iI z)] H Q = Q (.inr 0) (hexc K)) (CK : CW K dy' nb' B' nu' U' np' P' nf' F' nx' kp' pa' zr0' zs' sv' lr' le' ln' ps' ch' rq' V') (FK : HF H K) (hM : ∀ Q, Call 12 m_X8_replayed [.ref 109, .int (iI x1), .int (iI x2), .int (iI x3), .int (iI z)] (wm (hexc K) G A kp S (iI sv) tw ke le ch ln ab pt rm en aa iw kd n1 n2 n3 n4 gd) Q = Q (.inl (some (.int (iI b)))) (wm (hexc K) G' A' kp' S' (iI sv') 2 ke' le' ch' ln' ab' pt' rm' en' aa' iw' kd' n1' n2' n3' n4' gd')) (L : LPx dy' nb' B' nu' U' np' P' nf' F' nx' kp' pa' zs' sv' lr' le' ln' ch' rq' V' G' A' S' ke') : ∃ (H2 : XH) (m6 m7 : Value), LRx H2 ∧ Fn H H2 ∧ ∀ Q, EvQ 13 m_L_law 1359 [.ref 2000000, .ref 0, .ref 109, .ref 117, .ref 118, .int (iI i), l6, l7, xjunk] [] H Q = EvQ 13 m_L_law 28 [.ref 2000000, .ref 0, .ref 109, .ref 117, .ref 118, .int (iI (i + 6)), m6, m7, xjunk] [] H2 Q := by
  have M1 : MWo (hexc K) G A kp S (iI sv) tw ke le ch ln ab pt rm en aa iw kd n1 n2 n3 n4 gd := mo_exc (mo_hf M FK)
  have C1 : CW (hexc K) dy' nb' B' nu' U' np' P' nf' F' nx' kp' pa' zr0' zs' sv' lr' le' ln' ps' ch' rq' V' := st_exc CK
  have hH := lx_replayed_0 C.2.1 hC
  obtain ⟨fs1, h9⟩ := mo_h9 M1
  have M2 : MWo (wm (hexc K) G' A' kp' S' (iI sv') 2 ke' le' ch' ln' ab' pt' rm' en' aa' iw' kd' n1' n2' n3' n4' gd') G' A' kp' S' (iI sv') 2 ke' le' ch' ln' ab' pt' rm' en' aa' iw' kd' n1' n2' n3' n4' gd' := MWo_wm
  obtain ⟨fs2, h9'⟩ := mo_h9 M2
  have hM' : ∀ Q, Call 12 m_X8_replayed [.ref 109, .int (iI x1), .int (iI x2), .int (iI x3), .int (iI z)] (hexc K) Q = Q (.inl (some (.int (iI b)))) (wm (hexc K) G' A' kp' S' (iI sv') 2 ke' le' ch' ln' ab' pt' rm' en' aa' iw' kd' n1' n2' n3' n4' gd') := fun Q => by
    have := hM Q
    rw [show wm (hexc K) G A kp S (iI sv) tw ke le ch ln ab pt rm en aa iw kd n1 n2 n3 n4 gd = hexc K from M1] at this
    exact this
  have k2 := FK.2
  have e1' : (hexc K).2.2.2.2 = H.2.2.2.2 := by rw [← k2]; rfl
  have e2' : (hexc K).2.2.1 = H.2.2.1 + 1 := by rw [← k2]; rfl
  have e3' : (hexc K).2.2.2.1 = H.2.2.2.1 + 6 := by rw [← k2]; rfl
  refine ⟨wm (hexc K) G' A' kp' S' (iI sv') 2 ke' le' ch' ln' ab' pt' rm' en' aa' iw' kd' n1' n2' n3' n4' gd', .int (iI 2), .int (iI b), LRx_mk (st_wm C1) M2 (g := g) (g2 := g2) (by rw [xmm_n (by omega), hexc_get, FK.1 117 (by omega)]; exact h1) (by rw [xmm_n (by omega), hexc_get, FK.1 118 (by omega)]; exact h2) L, ⟨e1', ?_, ?_⟩, fun Q => lc_replayed (g := g) hL e1 e2 e3 e4 hz hH e1' h9 hM' h9' (fun Q => mo_tw Q) (Or.inr (by omega))⟩
  · show (hexc K).2.2.1 ≤ _
    omega
  · show (hexc K).2.2.2.1 ≤ _
    omega
theorem fv_meanArea (C : CW H dy nb B nu U np P nf F nx kp pa zr0 zs sv lr le ln ps ch rq V) (M : MWo H G A kp S (iI sv) tw ke le ch ln ab pt rm en aa iw kd n1 n2 n3 n4 gd) (h1 : hget H 117 = some (ola g)) (h2 : hget H 118 = some (oda g2)) (hL : 0 ≤ i ∧ i + 6 ≤ (H.2.2.2.2.1 : Int) ∧ H.2.2.2.2.1 < 1000000) (e1 : H.2.2.2.2.2 (iI (i + 1)).toNatClampNeg = iI x1) (hC : ∀ Q, Call 11 m_X7_meanArea [.ref 0, .int (iI x1)] H Q = Q (.inl (some (.double w))) K) (CK : CW K dy' nb' B' nu' U' np' P' nf' F' nx' kp' pa' zr0' zs' sv' lr' le' ln' ps' ch' rq' V') (FK : HF H K) (hX : X = hset K 118 (oda (vf_upd g2 (iI 0).toNatClampNeg w))) (hM : ∀ Q, Call 12 m_X8_meanArea [.ref 109, .int (iI x1)] (wm X G A kp S (iI sv) tw ke le ch ln ab pt rm en aa iw kd n1 n2 n3 n4 gd) Q = Q (.inl (some (.double w))) (wm X G' A' kp' S' (iI sv') 0 ke' le' ch' ln' ab' pt' rm' en' aa' iw' kd' n1' n2' n3' n4' gd')) (L : LPx dy' nb' B' nu' U' np' P' nf' F' nx' kp' pa' zs' sv' lr' le' ln' ch' rq' V' G' A' S' ke') : ∃ (H2 : XH) (m6 m7 : Value), LRx H2 ∧ Fn H H2 ∧ ∀ Q, EvQ 13 m_L_law 1467 [.ref 2000000, .ref 0, .ref 109, .ref 117, .ref 118, .int (iI i), l6, l7, xjunk] [] H Q = EvQ 13 m_L_law 28 [.ref 2000000, .ref 0, .ref 109, .ref 117, .ref 118, .int (iI (i + 6)), m6, m7, xjunk] [] H2 Q := by
  have hK : hget K 118 = some (oda g2) := by rw [FK.1 118 (by omega)]; exact h2
  have M1 : MWo X G A kp S (iI sv) tw ke le ch ln ab pt rm en aa iw kd n1 n2 n3 n4 gd := by rw [hX]; exact mo_outD (mo_hf M FK)
  have C1 : CW X dy' nb' B' nu' U' np' P' nf' F' nx' kp' pa' zr0' zs' sv' lr' le' ln' ps' ch' rq' V' := by rw [hX]; exact st_outD CK
  have hH := lo_meanArea C.2.1 hK hC
  rw [← hX] at hH
  obtain ⟨fs1, h9⟩ := mo_h9 M1
  have M2 : MWo (wm X G' A' kp' S' (iI sv') 0 ke' le' ch' ln' ab' pt' rm' en' aa' iw' kd' n1' n2' n3' n4' gd') G' A' kp' S' (iI sv') 0 ke' le' ch' ln' ab' pt' rm' en' aa' iw' kd' n1' n2' n3' n4' gd' := MWo_wm
  obtain ⟨fs2, h9'⟩ := mo_h9 M2
  have hM' : ∀ Q, Call 12 m_X8_meanArea [.ref 109, .int (iI x1)] X Q = Q (.inl (some (.double w))) (wm X G' A' kp' S' (iI sv') 0 ke' le' ch' ln' ab' pt' rm' en' aa' iw' kd' n1' n2' n3' n4' gd') := fun Q => by
    have := hM Q
    rw [show wm X G A kp S (iI sv) tw ke le ch ln ab pt rm en aa iw kd n1 n2 n3 n4 gd = X from M1] at this
    exact this
  have e1' : X.2 = H.2 := by rw [hX]; exact FK.2
  have e2' : (wm X G' A' kp' S' (iI sv') 0 ke' le' ch' ln' ab' pt' rm' en' aa' iw' kd' n1' n2' n3' n4' gd').2 = H.2 := e1'
  exact ⟨wm X G' A' kp' S' (iI sv') 0 ke' le' ch' ln' ab' pt' rm' en' aa' iw' kd' n1' n2' n3' n4' gd', .int (iI 0), .double w, LRx_mk (st_wm C1) M2 (g := g) (g2 := vf_upd g2 (iI 0).toNatClampNeg w) (by rw [xmm_n (by omega), hX, hget_ne (by omega), FK.1 117 (by omega)]; exact h1) (by rw [xmm_n (by omega), hX, hget_set]) L, ⟨by rw [e2'], by rw [e2']; omega, by rw [e2']; omega⟩, fun Q => lc_meanArea hL e1 hH (by rw [e1']) h9 hM' h9' (fun Q => mo_tw Q) (Or.inl ⟨rfl, by rw [xmm_n (by omega), hX, hget_set], updD_at⟩)⟩
theorem fx_meanArea_0 (C : CW H dy nb B nu U np P nf F nx kp pa zr0 zs sv lr le ln ps ch rq V) (M : MWo H G A kp S (iI sv) tw ke le ch ln ab pt rm en aa iw kd n1 n2 n3 n4 gd) (h1 : hget H 117 = some (ola g)) (h2 : hget H 118 = some (oda g2)) (hL : 0 ≤ i ∧ i + 6 ≤ (H.2.2.2.2.1 : Int) ∧ H.2.2.2.2.1 < 1000000) (e1 : H.2.2.2.2.2 (iI (i + 1)).toNatClampNeg = iI x1) (hC : ∀ Q, Call 11 m_X7_meanArea [.ref 0, .int (iI x1)] H Q = Q (.inr 0) (hexc K)) (CK : CW K dy' nb' B' nu' U' np' P' nf' F' nx' kp' pa' zr0' zs' sv' lr' le' ln' ps' ch' rq' V') (FK : HF H K) (hM : ∀ Q, Call 12 m_X8_meanArea [.ref 109, .int (iI x1)] (wm (hexc K) G A kp S (iI sv) tw ke le ch ln ab pt rm en aa iw kd n1 n2 n3 n4 gd) Q = Q (.inl (some (.double w))) (wm (hexc K) G' A' kp' S' (iI sv') 1 ke' le' ch' ln' ab' pt' rm' en' aa' iw' kd' n1' n2' n3' n4' gd')) (L : LPx dy' nb' B' nu' U' np' P' nf' F' nx' kp' pa' zs' sv' lr' le' ln' ch' rq' V' G' A' S' ke') : ∃ (H2 : XH) (m6 m7 : Value), LRx H2 ∧ Fn H H2 ∧ ∀ Q, EvQ 13 m_L_law 1467 [.ref 2000000, .ref 0, .ref 109, .ref 117, .ref 118, .int (iI i), l6, l7, xjunk] [] H Q = EvQ 13 m_L_law 28 [.ref 2000000, .ref 0, .ref 109, .ref 117, .ref 118, .int (iI (i + 6)), m6, m7, xjunk] [] H2 Q := by
  have M1 : MWo (hexc K) G A kp S (iI sv) tw ke le ch ln ab pt rm en aa iw kd n1 n2 n3 n4 gd := mo_exc (mo_hf M FK)
  have C1 : CW (hexc K) dy' nb' B' nu' U' np' P' nf' F' nx' kp' pa' zr0' zs' sv' lr' le' ln' ps' ch' rq' V' := st_exc CK
  have hH := lx_meanArea_0 C.2.1 hC
  obtain ⟨fs1, h9⟩ := mo_h9 M1
  have M2 : MWo (wm (hexc K) G' A' kp' S' (iI sv') 1 ke' le' ch' ln' ab' pt' rm' en' aa' iw' kd' n1' n2' n3' n4' gd') G' A' kp' S' (iI sv') 1 ke' le' ch' ln' ab' pt' rm' en' aa' iw' kd' n1' n2' n3' n4' gd' := MWo_wm
  obtain ⟨fs2, h9'⟩ := mo_h9 M2
  have hM' : ∀ Q, Call 12 m_X8_meanArea [.ref 109, .int (iI x1)] (hexc K) Q = Q (.inl (some (.double w))) (wm (hexc K) G' A' kp' S' (iI sv') 1 ke' le' ch' ln' ab' pt' rm' en' aa' iw' kd' n1' n2' n3' n4' gd') := fun Q => by
    have := hM Q
    rw [show wm (hexc K) G A kp S (iI sv) tw ke le ch ln ab pt rm en aa iw kd n1 n2 n3 n4 gd = hexc K from M1] at this
    exact this
  have k2 := FK.2
  have e1' : (hexc K).2.2.2.2 = H.2.2.2.2 := by rw [← k2]; rfl
  have e2' : (hexc K).2.2.1 = H.2.2.1 + 1 := by rw [← k2]; rfl
  have e3' : (hexc K).2.2.2.1 = H.2.2.2.1 + 6 := by rw [← k2]; rfl
  refine ⟨wm (hexc K) G' A' kp' S' (iI sv') 1 ke' le' ch' ln' ab' pt' rm' en' aa' iw' kd' n1' n2' n3' n4' gd', .int (iI 1), .double w, LRx_mk (st_wm C1) M2 (g := g) (g2 := g2) (by rw [xmm_n (by omega), hexc_get, FK.1 117 (by omega)]; exact h1) (by rw [xmm_n (by omega), hexc_get, FK.1 118 (by omega)]; exact h2) L, ⟨e1', ?_, ?_⟩, fun Q => lc_meanArea (g2 := g2) hL e1 hH e1' h9 hM' h9' (fun Q => mo_tw Q) (Or.inr (by omega))⟩
  · show (hexc K).2.2.1 ≤ _
    omega
  · show (hexc K).2.2.2.1 ≤ _
    omega
theorem fx_meanArea_5 (C : CW H dy nb B nu U np P nf F nx kp pa zr0 zs sv lr le ln ps ch rq V) (M : MWo H G A kp S (iI sv) tw ke le ch ln ab pt rm en aa iw kd n1 n2 n3 n4 gd) (h1 : hget H 117 = some (ola g)) (h2 : hget H 118 = some (oda g2)) (hL : 0 ≤ i ∧ i + 6 ≤ (H.2.2.2.2.1 : Int) ∧ H.2.2.2.2.1 < 1000000) (e1 : H.2.2.2.2.2 (iI (i + 1)).toNatClampNeg = iI x1) (hC : ∀ Q, Call 11 m_X7_meanArea [.ref 0, .int (iI x1)] H Q = Q (.inr 5) (hexc K)) (CK : CW K dy' nb' B' nu' U' np' P' nf' F' nx' kp' pa' zr0' zs' sv' lr' le' ln' ps' ch' rq' V') (FK : HF H K) (hM : ∀ Q, Call 12 m_X8_meanArea [.ref 109, .int (iI x1)] (wm (hexc K) G A kp S (iI sv) tw ke le ch ln ab pt rm en aa iw kd n1 n2 n3 n4 gd) Q = Q (.inl (some (.double w))) (wm (hexc K) G' A' kp' S' (iI sv') 2 ke' le' ch' ln' ab' pt' rm' en' aa' iw' kd' n1' n2' n3' n4' gd')) (L : LPx dy' nb' B' nu' U' np' P' nf' F' nx' kp' pa' zs' sv' lr' le' ln' ch' rq' V' G' A' S' ke') : ∃ (H2 : XH) (m6 m7 : Value), LRx H2 ∧ Fn H H2 ∧ ∀ Q, EvQ 13 m_L_law 1467 [.ref 2000000, .ref 0, .ref 109, .ref 117, .ref 118, .int (iI i), l6, l7, xjunk] [] H Q = EvQ 13 m_L_law 28 [.ref 2000000, .ref 0, .ref 109, .ref 117, .ref 118, .int (iI (i + 6)), m6, m7, xjunk] [] H2 Q := by
  have M1 : MWo (hexc K) G A kp S (iI sv) tw ke le ch ln ab pt rm en aa iw kd n1 n2 n3 n4 gd := mo_exc (mo_hf M FK)
  have C1 : CW (hexc K) dy' nb' B' nu' U' np' P' nf' F' nx' kp' pa' zr0' zs' sv' lr' le' ln' ps' ch' rq' V' := st_exc CK
  have hH := lx_meanArea_5 C.2.1 hC
  obtain ⟨fs1, h9⟩ := mo_h9 M1
  have M2 : MWo (wm (hexc K) G' A' kp' S' (iI sv') 2 ke' le' ch' ln' ab' pt' rm' en' aa' iw' kd' n1' n2' n3' n4' gd') G' A' kp' S' (iI sv') 2 ke' le' ch' ln' ab' pt' rm' en' aa' iw' kd' n1' n2' n3' n4' gd' := MWo_wm
  obtain ⟨fs2, h9'⟩ := mo_h9 M2
  have hM' : ∀ Q, Call 12 m_X8_meanArea [.ref 109, .int (iI x1)] (hexc K) Q = Q (.inl (some (.double w))) (wm (hexc K) G' A' kp' S' (iI sv') 2 ke' le' ch' ln' ab' pt' rm' en' aa' iw' kd' n1' n2' n3' n4' gd') := fun Q => by
    have := hM Q
    rw [show wm (hexc K) G A kp S (iI sv) tw ke le ch ln ab pt rm en aa iw kd n1 n2 n3 n4 gd = hexc K from M1] at this
    exact this
  have k2 := FK.2
  have e1' : (hexc K).2.2.2.2 = H.2.2.2.2 := by rw [← k2]; rfl
  have e2' : (hexc K).2.2.1 = H.2.2.1 + 1 := by rw [← k2]; rfl
  have e3' : (hexc K).2.2.2.1 = H.2.2.2.1 + 6 := by rw [← k2]; rfl
  refine ⟨wm (hexc K) G' A' kp' S' (iI sv') 2 ke' le' ch' ln' ab' pt' rm' en' aa' iw' kd' n1' n2' n3' n4' gd', .int (iI 2), .double w, LRx_mk (st_wm C1) M2 (g := g) (g2 := g2) (by rw [xmm_n (by omega), hexc_get, FK.1 117 (by omega)]; exact h1) (by rw [xmm_n (by omega), hexc_get, FK.1 118 (by omega)]; exact h2) L, ⟨e1', ?_, ?_⟩, fun Q => lc_meanArea (g2 := g2) hL e1 hH e1' h9 hM' h9' (fun Q => mo_tw Q) (Or.inr (by omega))⟩
  · show (hexc K).2.2.1 ≤ _
    omega
  · show (hexc K).2.2.2.1 ≤ _
    omega
theorem fv_fullestDay (C : CW H dy nb B nu U np P nf F nx kp pa zr0 zs sv lr le ln ps ch rq V) (M : MWo H G A kp S (iI sv) tw ke le ch ln ab pt rm en aa iw kd n1 n2 n3 n4 gd) (h1 : hget H 117 = some (ola g)) (h2 : hget H 118 = some (oda g2)) (hC : ∀ Q, Call 12 m_X7_fullestDay [.ref 0] H Q = Q (.inl (some (.int (iI v)))) K) (CK : CW K dy' nb' B' nu' U' np' P' nf' F' nx' kp' pa' zr0' zs' sv' lr' le' ln' ps' ch' rq' V') (FK : HF H K) (hM : ∀ Q, Call 12 m_X8_fullestDay [.ref 109] (wm K G A kp S (iI sv) tw ke le ch ln ab pt rm en aa iw kd n1 n2 n3 n4 gd) Q = Q (.inl (some (.int (iI v)))) (wm K G' A' kp' S' (iI sv') 0 ke' le' ch' ln' ab' pt' rm' en' aa' iw' kd' n1' n2' n3' n4' gd')) (L : LPx dy' nb' B' nu' U' np' P' nf' F' nx' kp' pa' zs' sv' lr' le' ln' ch' rq' V' G' A' S' ke') : ∃ (H2 : XH) (m6 m7 : Value), LRx H2 ∧ Fn H H2 ∧ ∀ Q, EvQ 13 m_L_law 1544 [.ref 2000000, .ref 0, .ref 109, .ref 117, .ref 118, .int (iI i), l6, l7, xjunk] [] H Q = EvQ 13 m_L_law 28 [.ref 2000000, .ref 0, .ref 109, .ref 117, .ref 118, .int (iI (i + 6)), m6, m7, xjunk] [] H2 Q := by
  have M1 := mo_hf M FK
  obtain ⟨fs1, h9⟩ := mo_h9 M1
  have M2 : MWo (wm K G' A' kp' S' (iI sv') 0 ke' le' ch' ln' ab' pt' rm' en' aa' iw' kd' n1' n2' n3' n4' gd') G' A' kp' S' (iI sv') 0 ke' le' ch' ln' ab' pt' rm' en' aa' iw' kd' n1' n2' n3' n4' gd' := MWo_wm
  have hM' : ∀ Q, Call 12 m_X8_fullestDay [.ref 109] K Q = Q (.inl (some (.int (iI v)))) (wm K G' A' kp' S' (iI sv') 0 ke' le' ch' ln' ab' pt' rm' en' aa' iw' kd' n1' n2' n3' n4' gd') := fun Q => by
    have := hM Q
    rw [show wm K G A kp S (iI sv) tw ke le ch ln ab pt rm en aa iw kd n1 n2 n3 n4 gd = K from M1] at this
    exact this
  have e2 : (wm K G' A' kp' S' (iI sv') 0 ke' le' ch' ln' ab' pt' rm' en' aa' iw' kd' n1' n2' n3' n4' gd').2 = H.2 := FK.2
  exact ⟨wm K G' A' kp' S' (iI sv') 0 ke' le' ch' ln' ab' pt' rm' en' aa' iw' kd' n1' n2' n3' n4' gd', l6, l7, LRx_mk (st_wm CK) M2 (g := g) (g2 := g2) (by rw [xmm_n (by omega), FK.1 117 (by omega)]; exact h1) (by rw [xmm_n (by omega), FK.1 118 (by omega)]; exact h2) L, ⟨by rw [e2], by rw [e2]; omega, by rw [e2]; omega⟩, fun Q => lc_fullestDay C.2.1 hC h9 hM'⟩
theorem fv_check (C : CW H dy nb B nu U np P nf F nx kp pa zr0 zs sv lr le ln ps ch rq V) (M : MWo H G A kp S (iI sv) tw ke le ch ln ab pt rm en aa iw kd n1 n2 n3 n4 gd) (h1 : hget H 117 = some (ola g)) (h2 : hget H 118 = some (oda g2)) (hL : 0 ≤ i ∧ i + 6 ≤ (H.2.2.2.2.1 : Int) ∧ H.2.2.2.2.1 < 1000000) (e1 : H.2.2.2.2.2 (iI (i + 1)).toNatClampNeg = iI x1) (hC : ∀ Q, Call 11 m_X7_check [.ref 0, .int (iI x1)] H Q = Q (.inl (some (.int (iI v)))) K) (CK : CW K dy' nb' B' nu' U' np' P' nf' F' nx' kp' pa' zr0' zs' sv' lr' le' ln' ps' ch' rq' V') (FK : HF H K) (hX : X = hset K 117 (ola (vp_updL g (iI 0).toNatClampNeg (iI v).toInt64))) (hM : ∀ Q, Call 12 m_X8_check [.ref 109, .int (iI x1)] (wm X G A kp S (iI sv) tw ke le ch ln ab pt rm en aa iw kd n1 n2 n3 n4 gd) Q = Q (.inl (some (.int (iI v)))) (wm X G' A' kp' S' (iI sv') 0 ke' le' ch' ln' ab' pt' rm' en' aa' iw' kd' n1' n2' n3' n4' gd')) (L : LPx dy' nb' B' nu' U' np' P' nf' F' nx' kp' pa' zs' sv' lr' le' ln' ch' rq' V' G' A' S' ke') : ∃ (H2 : XH) (m6 m7 : Value), LRx H2 ∧ Fn H H2 ∧ ∀ Q, EvQ 13 m_L_law 1557 [.ref 2000000, .ref 0, .ref 109, .ref 117, .ref 118, .int (iI i), l6, l7, xjunk] [] H Q = EvQ 13 m_L_law 28 [.ref 2000000, .ref 0, .ref 109, .ref 117, .ref 118, .int (iI (i + 6)), m6, m7, xjunk] [] H2 Q := by
  have hK : hget K 117 = some (ola g) := by rw [FK.1 117 (by omega)]; exact h1
  have M1 : MWo X G A kp S (iI sv) tw ke le ch ln ab pt rm en aa iw kd n1 n2 n3 n4 gd := by rw [hX]; exact mo_out (mo_hf M FK)
  have C1 : CW X dy' nb' B' nu' U' np' P' nf' F' nx' kp' pa' zr0' zs' sv' lr' le' ln' ps' ch' rq' V' := by rw [hX]; exact st_out CK
  have hH := lo_check C.2.1 hK hC
  rw [← hX] at hH
  obtain ⟨fs1, h9⟩ := mo_h9 M1
  have M2 : MWo (wm X G' A' kp' S' (iI sv') 0 ke' le' ch' ln' ab' pt' rm' en' aa' iw' kd' n1' n2' n3' n4' gd') G' A' kp' S' (iI sv') 0 ke' le' ch' ln' ab' pt' rm' en' aa' iw' kd' n1' n2' n3' n4' gd' := MWo_wm
  obtain ⟨fs2, h9'⟩ := mo_h9 M2
  have hM' : ∀ Q, Call 12 m_X8_check [.ref 109, .int (iI x1)] X Q = Q (.inl (some (.int (iI v)))) (wm X G' A' kp' S' (iI sv') 0 ke' le' ch' ln' ab' pt' rm' en' aa' iw' kd' n1' n2' n3' n4' gd') := fun Q => by
    have := hM Q
    rw [show wm X G A kp S (iI sv) tw ke le ch ln ab pt rm en aa iw kd n1 n2 n3 n4 gd = X from M1] at this
    exact this
  have e1' : X.2 = H.2 := by rw [hX]; exact FK.2
  have e2' : (wm X G' A' kp' S' (iI sv') 0 ke' le' ch' ln' ab' pt' rm' en' aa' iw' kd' n1' n2' n3' n4' gd').2 = H.2 := e1'
  exact ⟨wm X G' A' kp' S' (iI sv') 0 ke' le' ch' ln' ab' pt' rm' en' aa' iw' kd' n1' n2' n3' n4' gd', .int (iI 0), .int (iI v), LRx_mk (st_wm C1) M2 (g := vp_updL g (iI 0).toNatClampNeg (iI v).toInt64) (g2 := g2) (by rw [xmm_n (by omega), hX, hget_set]) (by rw [xmm_n (by omega), hX, hget_ne (by omega), FK.1 118 (by omega)]; exact h2) L, ⟨by rw [e2'], by rw [e2']; omega, by rw [e2']; omega⟩, fun Q => lc_check hL e1 hH (by rw [e1']) h9 hM' h9' (fun Q => mo_tw Q) (Or.inl ⟨rfl, by rw [xmm_n (by omega), hX, hget_set], updL_at⟩)⟩
theorem fx_check_0 (C : CW H dy nb B nu U np P nf F nx kp pa zr0 zs sv lr le ln ps ch rq V) (M : MWo H G A kp S (iI sv) tw ke le ch ln ab pt rm en aa iw kd n1 n2 n3 n4 gd) (h1 : hget H 117 = some (ola g)) (h2 : hget H 118 = some (oda g2)) (hL : 0 ≤ i ∧ i + 6 ≤ (H.2.2.2.2.1 : Int) ∧ H.2.2.2.2.1 < 1000000) (e1 : H.2.2.2.2.2 (iI (i + 1)).toNatClampNeg = iI x1) (hC : ∀ Q, Call 11 m_X7_check [.ref 0, .int (iI x1)] H Q = Q (.inr 0) (hexc K)) (CK : CW K dy' nb' B' nu' U' np' P' nf' F' nx' kp' pa' zr0' zs' sv' lr' le' ln' ps' ch' rq' V') (FK : HF H K) (hM : ∀ Q, Call 12 m_X8_check [.ref 109, .int (iI x1)] (wm (hexc K) G A kp S (iI sv) tw ke le ch ln ab pt rm en aa iw kd n1 n2 n3 n4 gd) Q = Q (.inl (some (.int (iI b)))) (wm (hexc K) G' A' kp' S' (iI sv') 1 ke' le' ch' ln' ab' pt' rm' en' aa' iw' kd' n1' n2' n3' n4' gd')) (L : LPx dy' nb' B' nu' U' np' P' nf' F' nx' kp' pa' zs' sv' lr' le' ln' ch' rq' V' G' A' S' ke') : ∃ (H2 : XH) (m6 m7 : Value), LRx H2 ∧ Fn H H2 ∧ ∀ Q, EvQ 13 m_L_law 1557 [.ref 2000000, .ref 0, .ref 109, .ref 117, .ref 118, .int (iI i), l6, l7, xjunk] [] H Q = EvQ 13 m_L_law 28 [.ref 2000000, .ref 0, .ref 109, .ref 117, .ref 118, .int (iI (i + 6)), m6, m7, xjunk] [] H2 Q := by
  have M1 : MWo (hexc K) G A kp S (iI sv) tw ke le ch ln ab pt rm en aa iw kd n1 n2 n3 n4 gd := mo_exc (mo_hf M FK)
  have C1 : CW (hexc K) dy' nb' B' nu' U' np' P' nf' F' nx' kp' pa' zr0' zs' sv' lr' le' ln' ps' ch' rq' V' := st_exc CK
  have hH := lx_check_0 C.2.1 hC
  obtain ⟨fs1, h9⟩ := mo_h9 M1
  have M2 : MWo (wm (hexc K) G' A' kp' S' (iI sv') 1 ke' le' ch' ln' ab' pt' rm' en' aa' iw' kd' n1' n2' n3' n4' gd') G' A' kp' S' (iI sv') 1 ke' le' ch' ln' ab' pt' rm' en' aa' iw' kd' n1' n2' n3' n4' gd' := MWo_wm
  obtain ⟨fs2, h9'⟩ := mo_h9 M2
  have hM' : ∀ Q, Call 12 m_X8_check [.ref 109, .int (iI x1)] (hexc K) Q = Q (.inl (some (.int (iI b)))) (wm (hexc K) G' A' kp' S' (iI sv') 1 ke' le' ch' ln' ab' pt' rm' en' aa' iw' kd' n1' n2' n3' n4' gd') := fun Q => by
    have := hM Q
    rw [show wm (hexc K) G A kp S (iI sv) tw ke le ch ln ab pt rm en aa iw kd n1 n2 n3 n4 gd = hexc K from M1] at this
    exact this
  have k2 := FK.2
  have e1' : (hexc K).2.2.2.2 = H.2.2.2.2 := by rw [← k2]; rfl
  have e2' : (hexc K).2.2.1 = H.2.2.1 + 1 := by rw [← k2]; rfl
  have e3' : (hexc K).2.2.2.1 = H.2.2.2.1 + 6 := by rw [← k2]; rfl
  refine ⟨wm (hexc K) G' A' kp' S' (iI sv') 1 ke' le' ch' ln' ab' pt' rm' en' aa' iw' kd' n1' n2' n3' n4' gd', .int (iI 1), .int (iI b), LRx_mk (st_wm C1) M2 (g := g) (g2 := g2) (by rw [xmm_n (by omega), hexc_get, FK.1 117 (by omega)]; exact h1) (by rw [xmm_n (by omega), hexc_get, FK.1 118 (by omega)]; exact h2) L, ⟨e1', ?_, ?_⟩, fun Q => lc_check (g := g) hL e1 hH e1' h9 hM' h9' (fun Q => mo_tw Q) (Or.inr (by omega))⟩
  · show (hexc K).2.2.1 ≤ _
    omega
  · show (hexc K).2.2.2.1 ≤ _
    omega
theorem fv_feed (C : CW H dy nb B nu U np P nf F nx kp pa zr0 zs sv lr le ln ps ch rq V) (M : MWo H G A kp S (iI sv) tw ke le ch ln ab pt rm en aa iw kd n1 n2 n3 n4 gd) (h1 : hget H 117 = some (ola g)) (h2 : hget H 118 = some (oda g2)) (hL : 0 ≤ i ∧ i + 6 ≤ (H.2.2.2.2.1 : Int) ∧ H.2.2.2.2.1 < 1000000) (e1 : H.2.2.2.2.2 (iI (i + 1)).toNatClampNeg = iI x1) (hC : ∀ Q, Call 11 m_X7_feed [.ref 0, .int ((iI x1 : Int32).toUInt32 % 65536).toInt32] H Q = Q (.inl (some (.int (iI v)))) K) (CK : CW K dy' nb' B' nu' U' np' P' nf' F' nx' kp' pa' zr0' zs' sv' lr' le' ln' ps' ch' rq' V') (FK : HF H K) (hX : X = hset K 117 (ola (vp_updL g (iI 0).toNatClampNeg (iI v).toInt64))) (hM : ∀ Q, Call 12 m_X8_feed [.ref 109, .int ((iI x1 : Int32).toUInt32 % 65536).toInt32] (wm X G A kp S (iI sv) tw ke le ch ln ab pt rm en aa iw kd n1 n2 n3 n4 gd) Q = Q (.inl (some (.int (iI v)))) (wm X G' A' kp' S' (iI sv') 0 ke' le' ch' ln' ab' pt' rm' en' aa' iw' kd' n1' n2' n3' n4' gd')) (L : LPx dy' nb' B' nu' U' np' P' nf' F' nx' kp' pa' zs' sv' lr' le' ln' ch' rq' V' G' A' S' ke') : ∃ (H2 : XH) (m6 m7 : Value), LRx H2 ∧ Fn H H2 ∧ ∀ Q, EvQ 13 m_L_law 1613 [.ref 2000000, .ref 0, .ref 109, .ref 117, .ref 118, .int (iI i), l6, l7, xjunk] [] H Q = EvQ 13 m_L_law 28 [.ref 2000000, .ref 0, .ref 109, .ref 117, .ref 118, .int (iI (i + 6)), m6, m7, xjunk] [] H2 Q := by
  have hK : hget K 117 = some (ola g) := by rw [FK.1 117 (by omega)]; exact h1
  have M1 : MWo X G A kp S (iI sv) tw ke le ch ln ab pt rm en aa iw kd n1 n2 n3 n4 gd := by rw [hX]; exact mo_out (mo_hf M FK)
  have C1 : CW X dy' nb' B' nu' U' np' P' nf' F' nx' kp' pa' zr0' zs' sv' lr' le' ln' ps' ch' rq' V' := by rw [hX]; exact st_out CK
  have hH := lo_feed C.2.1 hK hC
  rw [← hX] at hH
  obtain ⟨fs1, h9⟩ := mo_h9 M1
  have M2 : MWo (wm X G' A' kp' S' (iI sv') 0 ke' le' ch' ln' ab' pt' rm' en' aa' iw' kd' n1' n2' n3' n4' gd') G' A' kp' S' (iI sv') 0 ke' le' ch' ln' ab' pt' rm' en' aa' iw' kd' n1' n2' n3' n4' gd' := MWo_wm
  obtain ⟨fs2, h9'⟩ := mo_h9 M2
  have hM' : ∀ Q, Call 12 m_X8_feed [.ref 109, .int ((iI x1 : Int32).toUInt32 % 65536).toInt32] X Q = Q (.inl (some (.int (iI v)))) (wm X G' A' kp' S' (iI sv') 0 ke' le' ch' ln' ab' pt' rm' en' aa' iw' kd' n1' n2' n3' n4' gd') := fun Q => by
    have := hM Q
    rw [show wm X G A kp S (iI sv) tw ke le ch ln ab pt rm en aa iw kd n1 n2 n3 n4 gd = X from M1] at this
    exact this
  have e1' : X.2 = H.2 := by rw [hX]; exact FK.2
  have e2' : (wm X G' A' kp' S' (iI sv') 0 ke' le' ch' ln' ab' pt' rm' en' aa' iw' kd' n1' n2' n3' n4' gd').2 = H.2 := e1'
  exact ⟨wm X G' A' kp' S' (iI sv') 0 ke' le' ch' ln' ab' pt' rm' en' aa' iw' kd' n1' n2' n3' n4' gd', .int (iI 0), .int (iI v), LRx_mk (st_wm C1) M2 (g := vp_updL g (iI 0).toNatClampNeg (iI v).toInt64) (g2 := g2) (by rw [xmm_n (by omega), hX, hget_set]) (by rw [xmm_n (by omega), hX, hget_ne (by omega), FK.1 118 (by omega)]; exact h2) L, ⟨by rw [e2'], by rw [e2']; omega, by rw [e2']; omega⟩, fun Q => lc_feed hL e1 hH (by rw [e1']) h9 hM' h9' (fun Q => mo_tw Q) (Or.inl ⟨rfl, by rw [xmm_n (by omega), hX, hget_set], updL_at⟩)⟩
theorem fx_feed_1 (C : CW H dy nb B nu U np P nf F nx kp pa zr0 zs sv lr le ln ps ch rq V) (M : MWo H G A kp S (iI sv) tw ke le ch ln ab pt rm en aa iw kd n1 n2 n3 n4 gd) (h1 : hget H 117 = some (ola g)) (h2 : hget H 118 = some (oda g2)) (hL : 0 ≤ i ∧ i + 6 ≤ (H.2.2.2.2.1 : Int) ∧ H.2.2.2.2.1 < 1000000) (e1 : H.2.2.2.2.2 (iI (i + 1)).toNatClampNeg = iI x1) (hC : ∀ Q, Call 11 m_X7_feed [.ref 0, .int ((iI x1 : Int32).toUInt32 % 65536).toInt32] H Q = Q (.inr 1) (hexc K)) (CK : CW K dy' nb' B' nu' U' np' P' nf' F' nx' kp' pa' zr0' zs' sv' lr' le' ln' ps' ch' rq' V') (FK : HF H K) (hM : ∀ Q, Call 12 m_X8_feed [.ref 109, .int ((iI x1 : Int32).toUInt32 % 65536).toInt32] (wm (hexc K) G A kp S (iI sv) tw ke le ch ln ab pt rm en aa iw kd n1 n2 n3 n4 gd) Q = Q (.inl (some (.int (iI b)))) (wm (hexc K) G' A' kp' S' (iI sv') 1 ke' le' ch' ln' ab' pt' rm' en' aa' iw' kd' n1' n2' n3' n4' gd')) (L : LPx dy' nb' B' nu' U' np' P' nf' F' nx' kp' pa' zs' sv' lr' le' ln' ch' rq' V' G' A' S' ke') : ∃ (H2 : XH) (m6 m7 : Value), LRx H2 ∧ Fn H H2 ∧ ∀ Q, EvQ 13 m_L_law 1613 [.ref 2000000, .ref 0, .ref 109, .ref 117, .ref 118, .int (iI i), l6, l7, xjunk] [] H Q = EvQ 13 m_L_law 28 [.ref 2000000, .ref 0, .ref 109, .ref 117, .ref 118, .int (iI (i + 6)), m6, m7, xjunk] [] H2 Q := by
  have M1 : MWo (hexc K) G A kp S (iI sv) tw ke le ch ln ab pt rm en aa iw kd n1 n2 n3 n4 gd := mo_exc (mo_hf M FK)
  have C1 : CW (hexc K) dy' nb' B' nu' U' np' P' nf' F' nx' kp' pa' zr0' zs' sv' lr' le' ln' ps' ch' rq' V' := st_exc CK
  have hH := lx_feed_1 C.2.1 hC
  obtain ⟨fs1, h9⟩ := mo_h9 M1
  have M2 : MWo (wm (hexc K) G' A' kp' S' (iI sv') 1 ke' le' ch' ln' ab' pt' rm' en' aa' iw' kd' n1' n2' n3' n4' gd') G' A' kp' S' (iI sv') 1 ke' le' ch' ln' ab' pt' rm' en' aa' iw' kd' n1' n2' n3' n4' gd' := MWo_wm
  obtain ⟨fs2, h9'⟩ := mo_h9 M2
  have hM' : ∀ Q, Call 12 m_X8_feed [.ref 109, .int ((iI x1 : Int32).toUInt32 % 65536).toInt32] (hexc K) Q = Q (.inl (some (.int (iI b)))) (wm (hexc K) G' A' kp' S' (iI sv') 1 ke' le' ch' ln' ab' pt' rm' en' aa' iw' kd' n1' n2' n3' n4' gd') := fun Q => by
    have := hM Q
    rw [show wm (hexc K) G A kp S (iI sv) tw ke le ch ln ab pt rm en aa iw kd n1 n2 n3 n4 gd = hexc K from M1] at this
    exact this
  have k2 := FK.2
  have e1' : (hexc K).2.2.2.2 = H.2.2.2.2 := by rw [← k2]; rfl
  have e2' : (hexc K).2.2.1 = H.2.2.1 + 1 := by rw [← k2]; rfl
  have e3' : (hexc K).2.2.2.1 = H.2.2.2.1 + 6 := by rw [← k2]; rfl
  refine ⟨wm (hexc K) G' A' kp' S' (iI sv') 1 ke' le' ch' ln' ab' pt' rm' en' aa' iw' kd' n1' n2' n3' n4' gd', .int (iI 1), .int (iI b), LRx_mk (st_wm C1) M2 (g := g) (g2 := g2) (by rw [xmm_n (by omega), hexc_get, FK.1 117 (by omega)]; exact h1) (by rw [xmm_n (by omega), hexc_get, FK.1 118 (by omega)]; exact h2) L, ⟨e1', ?_, ?_⟩, fun Q => lc_feed (g := g) hL e1 hH e1' h9 hM' h9' (fun Q => mo_tw Q) (Or.inr (by omega))⟩
  · show (hexc K).2.2.1 ≤ _
    omega
  · show (hexc K).2.2.2.1 ≤ _
    omega
theorem fv_errorPosition (C : CW H dy nb B nu U np P nf F nx kp pa zr0 zs sv lr le ln ps ch rq V) (M : MWo H G A kp S (iI sv) tw ke le ch ln ab pt rm en aa iw kd n1 n2 n3 n4 gd) (h1 : hget H 117 = some (ola g)) (h2 : hget H 118 = some (oda g2)) (hL : 0 ≤ i ∧ i + 6 ≤ (H.2.2.2.2.1 : Int) ∧ H.2.2.2.2.1 < 1000000) (hC : ∀ Q, Call 11 m_X7_errorPosition [.ref 0] H Q = Q (.inl (some (.int (iI v)))) K) (CK : CW K dy' nb' B' nu' U' np' P' nf' F' nx' kp' pa' zr0' zs' sv' lr' le' ln' ps' ch' rq' V') (FK : HF H K) (hX : X = hset K 117 (ola (vp_updL g (iI 0).toNatClampNeg (iI v).toInt64))) (hM : ∀ Q, Call 12 m_X8_errorPosition [.ref 109] (wm X G A kp S (iI sv) tw ke le ch ln ab pt rm en aa iw kd n1 n2 n3 n4 gd) Q = Q (.inl (some (.int (iI v)))) (wm X G' A' kp' S' (iI sv') 0 ke' le' ch' ln' ab' pt' rm' en' aa' iw' kd' n1' n2' n3' n4' gd')) (L : LPx dy' nb' B' nu' U' np' P' nf' F' nx' kp' pa' zs' sv' lr' le' ln' ch' rq' V' G' A' S' ke') : ∃ (H2 : XH) (m6 m7 : Value), LRx H2 ∧ Fn H H2 ∧ ∀ Q, EvQ 13 m_L_law 1671 [.ref 2000000, .ref 0, .ref 109, .ref 117, .ref 118, .int (iI i), l6, l7, xjunk] [] H Q = EvQ 13 m_L_law 28 [.ref 2000000, .ref 0, .ref 109, .ref 117, .ref 118, .int (iI (i + 6)), m6, m7, xjunk] [] H2 Q := by
  have hK : hget K 117 = some (ola g) := by rw [FK.1 117 (by omega)]; exact h1
  have M1 : MWo X G A kp S (iI sv) tw ke le ch ln ab pt rm en aa iw kd n1 n2 n3 n4 gd := by rw [hX]; exact mo_out (mo_hf M FK)
  have C1 : CW X dy' nb' B' nu' U' np' P' nf' F' nx' kp' pa' zr0' zs' sv' lr' le' ln' ps' ch' rq' V' := by rw [hX]; exact st_out CK
  have hH := lo_errorPosition C.2.1 hK hC
  rw [← hX] at hH
  obtain ⟨fs1, h9⟩ := mo_h9 M1
  have M2 : MWo (wm X G' A' kp' S' (iI sv') 0 ke' le' ch' ln' ab' pt' rm' en' aa' iw' kd' n1' n2' n3' n4' gd') G' A' kp' S' (iI sv') 0 ke' le' ch' ln' ab' pt' rm' en' aa' iw' kd' n1' n2' n3' n4' gd' := MWo_wm
  obtain ⟨fs2, h9'⟩ := mo_h9 M2
  have hM' : ∀ Q, Call 12 m_X8_errorPosition [.ref 109] X Q = Q (.inl (some (.int (iI v)))) (wm X G' A' kp' S' (iI sv') 0 ke' le' ch' ln' ab' pt' rm' en' aa' iw' kd' n1' n2' n3' n4' gd') := fun Q => by
    have := hM Q
    rw [show wm X G A kp S (iI sv) tw ke le ch ln ab pt rm en aa iw kd n1 n2 n3 n4 gd = X from M1] at this
    exact this
  have e1' : X.2 = H.2 := by rw [hX]; exact FK.2
  have e2' : (wm X G' A' kp' S' (iI sv') 0 ke' le' ch' ln' ab' pt' rm' en' aa' iw' kd' n1' n2' n3' n4' gd').2 = H.2 := e1'
  exact ⟨wm X G' A' kp' S' (iI sv') 0 ke' le' ch' ln' ab' pt' rm' en' aa' iw' kd' n1' n2' n3' n4' gd', .int (iI 0), .int (iI v), LRx_mk (st_wm C1) M2 (g := vp_updL g (iI 0).toNatClampNeg (iI v).toInt64) (g2 := g2) (by rw [xmm_n (by omega), hX, hget_set]) (by rw [xmm_n (by omega), hX, hget_ne (by omega), FK.1 118 (by omega)]; exact h2) L, ⟨by rw [e2'], by rw [e2']; omega, by rw [e2']; omega⟩, fun Q => lc_errorPosition hL hH (by rw [e1']) h9 hM' h9' (fun Q => mo_tw Q) (Or.inl ⟨rfl, by rw [xmm_n (by omega), hX, hget_set], updL_at⟩)⟩
theorem fx_errorPosition_3 (C : CW H dy nb B nu U np P nf F nx kp pa zr0 zs sv lr le ln ps ch rq V) (M : MWo H G A kp S (iI sv) tw ke le ch ln ab pt rm en aa iw kd n1 n2 n3 n4 gd) (h1 : hget H 117 = some (ola g)) (h2 : hget H 118 = some (oda g2)) (hL : 0 ≤ i ∧ i + 6 ≤ (H.2.2.2.2.1 : Int) ∧ H.2.2.2.2.1 < 1000000) (hC : ∀ Q, Call 11 m_X7_errorPosition [.ref 0] H Q = Q (.inr 3) (hexc K)) (CK : CW K dy' nb' B' nu' U' np' P' nf' F' nx' kp' pa' zr0' zs' sv' lr' le' ln' ps' ch' rq' V') (FK : HF H K) (hM : ∀ Q, Call 12 m_X8_errorPosition [.ref 109] (wm (hexc K) G A kp S (iI sv) tw ke le ch ln ab pt rm en aa iw kd n1 n2 n3 n4 gd) Q = Q (.inl (some (.int (iI b)))) (wm (hexc K) G' A' kp' S' (iI sv') 1 ke' le' ch' ln' ab' pt' rm' en' aa' iw' kd' n1' n2' n3' n4' gd')) (L : LPx dy' nb' B' nu' U' np' P' nf' F' nx' kp' pa' zs' sv' lr' le' ln' ch' rq' V' G' A' S' ke') : ∃ (H2 : XH) (m6 m7 : Value), LRx H2 ∧ Fn H H2 ∧ ∀ Q, EvQ 13 m_L_law 1671 [.ref 2000000, .ref 0, .ref 109, .ref 117, .ref 118, .int (iI i), l6, l7, xjunk] [] H Q = EvQ 13 m_L_law 28 [.ref 2000000, .ref 0, .ref 109, .ref 117, .ref 118, .int (iI (i + 6)), m6, m7, xjunk] [] H2 Q := by
  have M1 : MWo (hexc K) G A kp S (iI sv) tw ke le ch ln ab pt rm en aa iw kd n1 n2 n3 n4 gd := mo_exc (mo_hf M FK)
  have C1 : CW (hexc K) dy' nb' B' nu' U' np' P' nf' F' nx' kp' pa' zr0' zs' sv' lr' le' ln' ps' ch' rq' V' := st_exc CK
  have hH := lx_errorPosition_3 C.2.1 hC
  obtain ⟨fs1, h9⟩ := mo_h9 M1
  have M2 : MWo (wm (hexc K) G' A' kp' S' (iI sv') 1 ke' le' ch' ln' ab' pt' rm' en' aa' iw' kd' n1' n2' n3' n4' gd') G' A' kp' S' (iI sv') 1 ke' le' ch' ln' ab' pt' rm' en' aa' iw' kd' n1' n2' n3' n4' gd' := MWo_wm
  obtain ⟨fs2, h9'⟩ := mo_h9 M2
  have hM' : ∀ Q, Call 12 m_X8_errorPosition [.ref 109] (hexc K) Q = Q (.inl (some (.int (iI b)))) (wm (hexc K) G' A' kp' S' (iI sv') 1 ke' le' ch' ln' ab' pt' rm' en' aa' iw' kd' n1' n2' n3' n4' gd') := fun Q => by
    have := hM Q
    rw [show wm (hexc K) G A kp S (iI sv) tw ke le ch ln ab pt rm en aa iw kd n1 n2 n3 n4 gd = hexc K from M1] at this
    exact this
  have k2 := FK.2
  have e1' : (hexc K).2.2.2.2 = H.2.2.2.2 := by rw [← k2]; rfl
  have e2' : (hexc K).2.2.1 = H.2.2.1 + 1 := by rw [← k2]; rfl
  have e3' : (hexc K).2.2.2.1 = H.2.2.2.1 + 6 := by rw [← k2]; rfl
  refine ⟨wm (hexc K) G' A' kp' S' (iI sv') 1 ke' le' ch' ln' ab' pt' rm' en' aa' iw' kd' n1' n2' n3' n4' gd', .int (iI 1), .int (iI b), LRx_mk (st_wm C1) M2 (g := g) (g2 := g2) (by rw [xmm_n (by omega), hexc_get, FK.1 117 (by omega)]; exact h1) (by rw [xmm_n (by omega), hexc_get, FK.1 118 (by omega)]; exact h2) L, ⟨e1', ?_, ?_⟩, fun Q => lc_errorPosition (g := g) hL hH e1' h9 hM' h9' (fun Q => mo_tw Q) (Or.inr (by omega))⟩
  · show (hexc K).2.2.1 ≤ _
    omega
  · show (hexc K).2.2.2.1 ≤ _
    omega
theorem fv_total (C : CW H dy nb B nu U np P nf F nx kp pa zr0 zs sv lr le ln ps ch rq V) (M : MWo H G A kp S (iI sv) tw ke le ch ln ab pt rm en aa iw kd n1 n2 n3 n4 gd) (h1 : hget H 117 = some (ola g)) (h2 : hget H 118 = some (oda g2)) (hL : 0 ≤ i ∧ i + 6 ≤ (H.2.2.2.2.1 : Int) ∧ H.2.2.2.2.1 < 1000000) (e1 : H.2.2.2.2.2 (iI (i + 1)).toNatClampNeg = iI x1) (hC : ∀ Q, Call 11 m_X7_total [.ref 0, .int (iI x1)] H Q = Q (.inl (some (.int (iI v)))) K) (CK : CW K dy' nb' B' nu' U' np' P' nf' F' nx' kp' pa' zr0' zs' sv' lr' le' ln' ps' ch' rq' V') (FK : HF H K) (hX : X = hset K 117 (ola (vp_updL g (iI 0).toNatClampNeg (iI v).toInt64))) (hM : ∀ Q, Call 12 m_X8_total [.ref 109, .int (iI x1)] (wm X G A kp S (iI sv) tw ke le ch ln ab pt rm en aa iw kd n1 n2 n3 n4 gd) Q = Q (.inl (some (.int (iI v)))) (wm X G' A' kp' S' (iI sv') 0 ke' le' ch' ln' ab' pt' rm' en' aa' iw' kd' n1' n2' n3' n4' gd')) (L : LPx dy' nb' B' nu' U' np' P' nf' F' nx' kp' pa' zs' sv' lr' le' ln' ch' rq' V' G' A' S' ke') : ∃ (H2 : XH) (m6 m7 : Value), LRx H2 ∧ Fn H H2 ∧ ∀ Q, EvQ 13 m_L_law 1715 [.ref 2000000, .ref 0, .ref 109, .ref 117, .ref 118, .int (iI i), l6, l7, xjunk] [] H Q = EvQ 13 m_L_law 28 [.ref 2000000, .ref 0, .ref 109, .ref 117, .ref 118, .int (iI (i + 6)), m6, m7, xjunk] [] H2 Q := by
  have hK : hget K 117 = some (ola g) := by rw [FK.1 117 (by omega)]; exact h1
  have M1 : MWo X G A kp S (iI sv) tw ke le ch ln ab pt rm en aa iw kd n1 n2 n3 n4 gd := by rw [hX]; exact mo_out (mo_hf M FK)
  have C1 : CW X dy' nb' B' nu' U' np' P' nf' F' nx' kp' pa' zr0' zs' sv' lr' le' ln' ps' ch' rq' V' := by rw [hX]; exact st_out CK
  have hH := lo_total C.2.1 hK hC
  rw [← hX] at hH
  obtain ⟨fs1, h9⟩ := mo_h9 M1
  have M2 : MWo (wm X G' A' kp' S' (iI sv') 0 ke' le' ch' ln' ab' pt' rm' en' aa' iw' kd' n1' n2' n3' n4' gd') G' A' kp' S' (iI sv') 0 ke' le' ch' ln' ab' pt' rm' en' aa' iw' kd' n1' n2' n3' n4' gd' := MWo_wm
  obtain ⟨fs2, h9'⟩ := mo_h9 M2
  have hM' : ∀ Q, Call 12 m_X8_total [.ref 109, .int (iI x1)] X Q = Q (.inl (some (.int (iI v)))) (wm X G' A' kp' S' (iI sv') 0 ke' le' ch' ln' ab' pt' rm' en' aa' iw' kd' n1' n2' n3' n4' gd') := fun Q => by
    have := hM Q
    rw [show wm X G A kp S (iI sv) tw ke le ch ln ab pt rm en aa iw kd n1 n2 n3 n4 gd = X from M1] at this
    exact this
  have e1' : X.2 = H.2 := by rw [hX]; exact FK.2
  have e2' : (wm X G' A' kp' S' (iI sv') 0 ke' le' ch' ln' ab' pt' rm' en' aa' iw' kd' n1' n2' n3' n4' gd').2 = H.2 := e1'
  exact ⟨wm X G' A' kp' S' (iI sv') 0 ke' le' ch' ln' ab' pt' rm' en' aa' iw' kd' n1' n2' n3' n4' gd', .int (iI 0), .int (iI v), LRx_mk (st_wm C1) M2 (g := vp_updL g (iI 0).toNatClampNeg (iI v).toInt64) (g2 := g2) (by rw [xmm_n (by omega), hX, hget_set]) (by rw [xmm_n (by omega), hX, hget_ne (by omega), FK.1 118 (by omega)]; exact h2) L, ⟨by rw [e2'], by rw [e2']; omega, by rw [e2']; omega⟩, fun Q => lc_total hL e1 hH (by rw [e1']) h9 hM' h9' (fun Q => mo_tw Q) (Or.inl ⟨rfl, by rw [xmm_n (by omega), hX, hget_set], updL_at⟩)⟩
theorem fx_total_0 (C : CW H dy nb B nu U np P nf F nx kp pa zr0 zs sv lr le ln ps ch rq V) (M : MWo H G A kp S (iI sv) tw ke le ch ln ab pt rm en aa iw kd n1 n2 n3 n4 gd) (h1 : hget H 117 = some (ola g)) (h2 : hget H 118 = some (oda g2)) (hL : 0 ≤ i ∧ i + 6 ≤ (H.2.2.2.2.1 : Int) ∧ H.2.2.2.2.1 < 1000000) (e1 : H.2.2.2.2.2 (iI (i + 1)).toNatClampNeg = iI x1) (hC : ∀ Q, Call 11 m_X7_total [.ref 0, .int (iI x1)] H Q = Q (.inr 0) (hexc K)) (CK : CW K dy' nb' B' nu' U' np' P' nf' F' nx' kp' pa' zr0' zs' sv' lr' le' ln' ps' ch' rq' V') (FK : HF H K) (hM : ∀ Q, Call 12 m_X8_total [.ref 109, .int (iI x1)] (wm (hexc K) G A kp S (iI sv) tw ke le ch ln ab pt rm en aa iw kd n1 n2 n3 n4 gd) Q = Q (.inl (some (.int (iI b)))) (wm (hexc K) G' A' kp' S' (iI sv') 1 ke' le' ch' ln' ab' pt' rm' en' aa' iw' kd' n1' n2' n3' n4' gd')) (L : LPx dy' nb' B' nu' U' np' P' nf' F' nx' kp' pa' zs' sv' lr' le' ln' ch' rq' V' G' A' S' ke') : ∃ (H2 : XH) (m6 m7 : Value), LRx H2 ∧ Fn H H2 ∧ ∀ Q, EvQ 13 m_L_law 1715 [.ref 2000000, .ref 0, .ref 109, .ref 117, .ref 118, .int (iI i), l6, l7, xjunk] [] H Q = EvQ 13 m_L_law 28 [.ref 2000000, .ref 0, .ref 109, .ref 117, .ref 118, .int (iI (i + 6)), m6, m7, xjunk] [] H2 Q := by
  have M1 : MWo (hexc K) G A kp S (iI sv) tw ke le ch ln ab pt rm en aa iw kd n1 n2 n3 n4 gd := mo_exc (mo_hf M FK)
  have C1 : CW (hexc K) dy' nb' B' nu' U' np' P' nf' F' nx' kp' pa' zr0' zs' sv' lr' le' ln' ps' ch' rq' V' := st_exc CK
  have hH := lx_total_0 C.2.1 hC
  obtain ⟨fs1, h9⟩ := mo_h9 M1
  have M2 : MWo (wm (hexc K) G' A' kp' S' (iI sv') 1 ke' le' ch' ln' ab' pt' rm' en' aa' iw' kd' n1' n2' n3' n4' gd') G' A' kp' S' (iI sv') 1 ke' le' ch' ln' ab' pt' rm' en' aa' iw' kd' n1' n2' n3' n4' gd' := MWo_wm
  obtain ⟨fs2, h9'⟩ := mo_h9 M2
  have hM' : ∀ Q, Call 12 m_X8_total [.ref 109, .int (iI x1)] (hexc K) Q = Q (.inl (some (.int (iI b)))) (wm (hexc K) G' A' kp' S' (iI sv') 1 ke' le' ch' ln' ab' pt' rm' en' aa' iw' kd' n1' n2' n3' n4' gd') := fun Q => by
    have := hM Q
    rw [show wm (hexc K) G A kp S (iI sv) tw ke le ch ln ab pt rm en aa iw kd n1 n2 n3 n4 gd = hexc K from M1] at this
    exact this
  have k2 := FK.2
  have e1' : (hexc K).2.2.2.2 = H.2.2.2.2 := by rw [← k2]; rfl
  have e2' : (hexc K).2.2.1 = H.2.2.1 + 1 := by rw [← k2]; rfl
  have e3' : (hexc K).2.2.2.1 = H.2.2.2.1 + 6 := by rw [← k2]; rfl
  refine ⟨wm (hexc K) G' A' kp' S' (iI sv') 1 ke' le' ch' ln' ab' pt' rm' en' aa' iw' kd' n1' n2' n3' n4' gd', .int (iI 1), .int (iI b), LRx_mk (st_wm C1) M2 (g := g) (g2 := g2) (by rw [xmm_n (by omega), hexc_get, FK.1 117 (by omega)]; exact h1) (by rw [xmm_n (by omega), hexc_get, FK.1 118 (by omega)]; exact h2) L, ⟨e1', ?_, ?_⟩, fun Q => lc_total (g := g) hL e1 hH e1' h9 hM' h9' (fun Q => mo_tw Q) (Or.inr (by omega))⟩
  · show (hexc K).2.2.1 ≤ _
    omega
  · show (hexc K).2.2.2.1 ≤ _
    omega
theorem fv_undo (C : CW H dy nb B nu U np P nf F nx kp pa zr0 zs sv lr le ln ps ch rq V) (M : MWo H G A kp S (iI sv) tw ke le ch ln ab pt rm en aa iw kd n1 n2 n3 n4 gd) (h1 : hget H 117 = some (ola g)) (h2 : hget H 118 = some (oda g2)) (hL : 0 ≤ i ∧ i + 6 ≤ (H.2.2.2.2.1 : Int) ∧ H.2.2.2.2.1 < 1000000) (hC : ∀ Q, Call 11 m_X7_undo [.ref 0] H Q = Q (.inl (some (.int (iI v)))) K) (CK : CW K dy' nb' B' nu' U' np' P' nf' F' nx' kp' pa' zr0' zs' sv' lr' le' ln' ps' ch' rq' V') (FK : HF H K) (hX : X = hset K 117 (ola (vp_updL g (iI 0).toNatClampNeg (iI v).toInt64))) (hM : ∀ Q, Call 12 m_X8_undo [.ref 109] (wm X G A kp S (iI sv) tw ke le ch ln ab pt rm en aa iw kd n1 n2 n3 n4 gd) Q = Q (.inl (some (.int (iI v)))) (wm X G' A' kp' S' (iI sv') 0 ke' le' ch' ln' ab' pt' rm' en' aa' iw' kd' n1' n2' n3' n4' gd')) (L : LPx dy' nb' B' nu' U' np' P' nf' F' nx' kp' pa' zs' sv' lr' le' ln' ch' rq' V' G' A' S' ke') : ∃ (H2 : XH) (m6 m7 : Value), LRx H2 ∧ Fn H H2 ∧ ∀ Q, EvQ 13 m_L_law 1771 [.ref 2000000, .ref 0, .ref 109, .ref 117, .ref 118, .int (iI i), l6, l7, xjunk] [] H Q = EvQ 13 m_L_law 28 [.ref 2000000, .ref 0, .ref 109, .ref 117, .ref 118, .int (iI (i + 6)), m6, m7, xjunk] [] H2 Q := by
  have hK : hget K 117 = some (ola g) := by rw [FK.1 117 (by omega)]; exact h1
  have M1 : MWo X G A kp S (iI sv) tw ke le ch ln ab pt rm en aa iw kd n1 n2 n3 n4 gd := by rw [hX]; exact mo_out (mo_hf M FK)
  have C1 : CW X dy' nb' B' nu' U' np' P' nf' F' nx' kp' pa' zr0' zs' sv' lr' le' ln' ps' ch' rq' V' := by rw [hX]; exact st_out CK
  have hH := lo_undo C.2.1 hK hC
  rw [← hX] at hH
  obtain ⟨fs1, h9⟩ := mo_h9 M1
  have M2 : MWo (wm X G' A' kp' S' (iI sv') 0 ke' le' ch' ln' ab' pt' rm' en' aa' iw' kd' n1' n2' n3' n4' gd') G' A' kp' S' (iI sv') 0 ke' le' ch' ln' ab' pt' rm' en' aa' iw' kd' n1' n2' n3' n4' gd' := MWo_wm
  obtain ⟨fs2, h9'⟩ := mo_h9 M2
  have hM' : ∀ Q, Call 12 m_X8_undo [.ref 109] X Q = Q (.inl (some (.int (iI v)))) (wm X G' A' kp' S' (iI sv') 0 ke' le' ch' ln' ab' pt' rm' en' aa' iw' kd' n1' n2' n3' n4' gd') := fun Q => by
    have := hM Q
    rw [show wm X G A kp S (iI sv) tw ke le ch ln ab pt rm en aa iw kd n1 n2 n3 n4 gd = X from M1] at this
    exact this
  have e1' : X.2 = H.2 := by rw [hX]; exact FK.2
  have e2' : (wm X G' A' kp' S' (iI sv') 0 ke' le' ch' ln' ab' pt' rm' en' aa' iw' kd' n1' n2' n3' n4' gd').2 = H.2 := e1'
  exact ⟨wm X G' A' kp' S' (iI sv') 0 ke' le' ch' ln' ab' pt' rm' en' aa' iw' kd' n1' n2' n3' n4' gd', .int (iI 0), .int (iI v), LRx_mk (st_wm C1) M2 (g := vp_updL g (iI 0).toNatClampNeg (iI v).toInt64) (g2 := g2) (by rw [xmm_n (by omega), hX, hget_set]) (by rw [xmm_n (by omega), hX, hget_ne (by omega), FK.1 118 (by omega)]; exact h2) L, ⟨by rw [e2'], by rw [e2']; omega, by rw [e2']; omega⟩, fun Q => lc_undo hL hH (by rw [e1']) h9 hM' h9' (fun Q => mo_tw Q) (Or.inl ⟨rfl, by rw [xmm_n (by omega), hX, hget_set], updL_at⟩)⟩
theorem fx_undo_1 (C : CW H dy nb B nu U np P nf F nx kp pa zr0 zs sv lr le ln ps ch rq V) (M : MWo H G A kp S (iI sv) tw ke le ch ln ab pt rm en aa iw kd n1 n2 n3 n4 gd) (h1 : hget H 117 = some (ola g)) (h2 : hget H 118 = some (oda g2)) (hL : 0 ≤ i ∧ i + 6 ≤ (H.2.2.2.2.1 : Int) ∧ H.2.2.2.2.1 < 1000000) (hC : ∀ Q, Call 11 m_X7_undo [.ref 0] H Q = Q (.inr 1) (hexc K)) (CK : CW K dy' nb' B' nu' U' np' P' nf' F' nx' kp' pa' zr0' zs' sv' lr' le' ln' ps' ch' rq' V') (FK : HF H K) (hM : ∀ Q, Call 12 m_X8_undo [.ref 109] (wm (hexc K) G A kp S (iI sv) tw ke le ch ln ab pt rm en aa iw kd n1 n2 n3 n4 gd) Q = Q (.inl (some (.int (iI b)))) (wm (hexc K) G' A' kp' S' (iI sv') 1 ke' le' ch' ln' ab' pt' rm' en' aa' iw' kd' n1' n2' n3' n4' gd')) (L : LPx dy' nb' B' nu' U' np' P' nf' F' nx' kp' pa' zs' sv' lr' le' ln' ch' rq' V' G' A' S' ke') : ∃ (H2 : XH) (m6 m7 : Value), LRx H2 ∧ Fn H H2 ∧ ∀ Q, EvQ 13 m_L_law 1771 [.ref 2000000, .ref 0, .ref 109, .ref 117, .ref 118, .int (iI i), l6, l7, xjunk] [] H Q = EvQ 13 m_L_law 28 [.ref 2000000, .ref 0, .ref 109, .ref 117, .ref 118, .int (iI (i + 6)), m6, m7, xjunk] [] H2 Q := by
  have M1 : MWo (hexc K) G A kp S (iI sv) tw ke le ch ln ab pt rm en aa iw kd n1 n2 n3 n4 gd := mo_exc (mo_hf M FK)
  have C1 : CW (hexc K) dy' nb' B' nu' U' np' P' nf' F' nx' kp' pa' zr0' zs' sv' lr' le' ln' ps' ch' rq' V' := st_exc CK
  have hH := lx_undo_1 C.2.1 hC
  obtain ⟨fs1, h9⟩ := mo_h9 M1
  have M2 : MWo (wm (hexc K) G' A' kp' S' (iI sv') 1 ke' le' ch' ln' ab' pt' rm' en' aa' iw' kd' n1' n2' n3' n4' gd') G' A' kp' S' (iI sv') 1 ke' le' ch' ln' ab' pt' rm' en' aa' iw' kd' n1' n2' n3' n4' gd' := MWo_wm
  obtain ⟨fs2, h9'⟩ := mo_h9 M2
  have hM' : ∀ Q, Call 12 m_X8_undo [.ref 109] (hexc K) Q = Q (.inl (some (.int (iI b)))) (wm (hexc K) G' A' kp' S' (iI sv') 1 ke' le' ch' ln' ab' pt' rm' en' aa' iw' kd' n1' n2' n3' n4' gd') := fun Q => by
    have := hM Q
    rw [show wm (hexc K) G A kp S (iI sv) tw ke le ch ln ab pt rm en aa iw kd n1 n2 n3 n4 gd = hexc K from M1] at this
    exact this
  have k2 := FK.2
  have e1' : (hexc K).2.2.2.2 = H.2.2.2.2 := by rw [← k2]; rfl
  have e2' : (hexc K).2.2.1 = H.2.2.1 + 1 := by rw [← k2]; rfl
  have e3' : (hexc K).2.2.2.1 = H.2.2.2.1 + 6 := by rw [← k2]; rfl
  refine ⟨wm (hexc K) G' A' kp' S' (iI sv') 1 ke' le' ch' ln' ab' pt' rm' en' aa' iw' kd' n1' n2' n3' n4' gd', .int (iI 1), .int (iI b), LRx_mk (st_wm C1) M2 (g := g) (g2 := g2) (by rw [xmm_n (by omega), hexc_get, FK.1 117 (by omega)]; exact h1) (by rw [xmm_n (by omega), hexc_get, FK.1 118 (by omega)]; exact h2) L, ⟨e1', ?_, ?_⟩, fun Q => lc_undo (g := g) hL hH e1' h9 hM' h9' (fun Q => mo_tw Q) (Or.inr (by omega))⟩
  · show (hexc K).2.2.1 ≤ _
    omega
  · show (hexc K).2.2.2.1 ≤ _
    omega
theorem fv_save (C : CW H dy nb B nu U np P nf F nx kp pa zr0 zs sv lr le ln ps ch rq V) (M : MWo H G A kp S (iI sv) tw ke le ch ln ab pt rm en aa iw kd n1 n2 n3 n4 gd) (h1 : hget H 117 = some (ola g)) (h2 : hget H 118 = some (oda g2)) (hC : ∀ Q, Call 12 m_X7_save [.ref 0] H Q = Q (.inl (some (.int (iI v)))) K) (CK : CW K dy' nb' B' nu' U' np' P' nf' F' nx' kp' pa' zr0' zs' sv' lr' le' ln' ps' ch' rq' V') (FK : HF H K) (hM : ∀ Q, Call 12 m_X8_save [.ref 109] (wm K G A kp S (iI sv) tw ke le ch ln ab pt rm en aa iw kd n1 n2 n3 n4 gd) Q = Q (.inl (some (.int (iI v)))) (wm K G' A' kp' S' (iI sv') 0 ke' le' ch' ln' ab' pt' rm' en' aa' iw' kd' n1' n2' n3' n4' gd')) (L : LPx dy' nb' B' nu' U' np' P' nf' F' nx' kp' pa' zs' sv' lr' le' ln' ch' rq' V' G' A' S' ke') : ∃ (H2 : XH) (m6 m7 : Value), LRx H2 ∧ Fn H H2 ∧ ∀ Q, EvQ 13 m_L_law 1815 [.ref 2000000, .ref 0, .ref 109, .ref 117, .ref 118, .int (iI i), l6, l7, xjunk] [] H Q = EvQ 13 m_L_law 28 [.ref 2000000, .ref 0, .ref 109, .ref 117, .ref 118, .int (iI (i + 6)), m6, m7, xjunk] [] H2 Q := by
  have M1 := mo_hf M FK
  obtain ⟨fs1, h9⟩ := mo_h9 M1
  have M2 : MWo (wm K G' A' kp' S' (iI sv') 0 ke' le' ch' ln' ab' pt' rm' en' aa' iw' kd' n1' n2' n3' n4' gd') G' A' kp' S' (iI sv') 0 ke' le' ch' ln' ab' pt' rm' en' aa' iw' kd' n1' n2' n3' n4' gd' := MWo_wm
  have hM' : ∀ Q, Call 12 m_X8_save [.ref 109] K Q = Q (.inl (some (.int (iI v)))) (wm K G' A' kp' S' (iI sv') 0 ke' le' ch' ln' ab' pt' rm' en' aa' iw' kd' n1' n2' n3' n4' gd') := fun Q => by
    have := hM Q
    rw [show wm K G A kp S (iI sv) tw ke le ch ln ab pt rm en aa iw kd n1 n2 n3 n4 gd = K from M1] at this
    exact this
  have e2 : (wm K G' A' kp' S' (iI sv') 0 ke' le' ch' ln' ab' pt' rm' en' aa' iw' kd' n1' n2' n3' n4' gd').2 = H.2 := FK.2
  exact ⟨wm K G' A' kp' S' (iI sv') 0 ke' le' ch' ln' ab' pt' rm' en' aa' iw' kd' n1' n2' n3' n4' gd', l6, l7, LRx_mk (st_wm CK) M2 (g := g) (g2 := g2) (by rw [xmm_n (by omega), FK.1 117 (by omega)]; exact h1) (by rw [xmm_n (by omega), FK.1 118 (by omega)]; exact h2) L, ⟨by rw [e2], by rw [e2]; omega, by rw [e2]; omega⟩, fun Q => lc_save C.2.1 hC h9 hM'⟩
theorem fv_restore (C : CW H dy nb B nu U np P nf F nx kp pa zr0 zs sv lr le ln ps ch rq V) (M : MWo H G A kp S (iI sv) tw ke le ch ln ab pt rm en aa iw kd n1 n2 n3 n4 gd) (h1 : hget H 117 = some (ola g)) (h2 : hget H 118 = some (oda g2)) (hL : 0 ≤ i ∧ i + 6 ≤ (H.2.2.2.2.1 : Int) ∧ H.2.2.2.2.1 < 1000000) (hC : ∀ Q, Call 11 m_X7_restore [.ref 0] H Q = Q (.inl (some (.int (iI v)))) K) (CK : CW K dy' nb' B' nu' U' np' P' nf' F' nx' kp' pa' zr0' zs' sv' lr' le' ln' ps' ch' rq' V') (FK : HF H K) (hX : X = hset K 117 (ola (vp_updL g (iI 0).toNatClampNeg (iI v).toInt64))) (hM : ∀ Q, Call 12 m_X8_restore [.ref 109] (wm X G A kp S (iI sv) tw ke le ch ln ab pt rm en aa iw kd n1 n2 n3 n4 gd) Q = Q (.inl (some (.int (iI v)))) (wm X G' A' kp' S' (iI sv') 0 ke' le' ch' ln' ab' pt' rm' en' aa' iw' kd' n1' n2' n3' n4' gd')) (L : LPx dy' nb' B' nu' U' np' P' nf' F' nx' kp' pa' zs' sv' lr' le' ln' ch' rq' V' G' A' S' ke') : ∃ (H2 : XH) (m6 m7 : Value), LRx H2 ∧ Fn H H2 ∧ ∀ Q, EvQ 13 m_L_law 1828 [.ref 2000000, .ref 0, .ref 109, .ref 117, .ref 118, .int (iI i), l6, l7, xjunk] [] H Q = EvQ 13 m_L_law 28 [.ref 2000000, .ref 0, .ref 109, .ref 117, .ref 118, .int (iI (i + 6)), m6, m7, xjunk] [] H2 Q := by
  have hK : hget K 117 = some (ola g) := by rw [FK.1 117 (by omega)]; exact h1
  have M1 : MWo X G A kp S (iI sv) tw ke le ch ln ab pt rm en aa iw kd n1 n2 n3 n4 gd := by rw [hX]; exact mo_out (mo_hf M FK)
  have C1 : CW X dy' nb' B' nu' U' np' P' nf' F' nx' kp' pa' zr0' zs' sv' lr' le' ln' ps' ch' rq' V' := by rw [hX]; exact st_out CK
  have hH := lo_restore C.2.1 hK hC
  rw [← hX] at hH
  obtain ⟨fs1, h9⟩ := mo_h9 M1
  have M2 : MWo (wm X G' A' kp' S' (iI sv') 0 ke' le' ch' ln' ab' pt' rm' en' aa' iw' kd' n1' n2' n3' n4' gd') G' A' kp' S' (iI sv') 0 ke' le' ch' ln' ab' pt' rm' en' aa' iw' kd' n1' n2' n3' n4' gd' := MWo_wm
  obtain ⟨fs2, h9'⟩ := mo_h9 M2
  have hM' : ∀ Q, Call 12 m_X8_restore [.ref 109] X Q = Q (.inl (some (.int (iI v)))) (wm X G' A' kp' S' (iI sv') 0 ke' le' ch' ln' ab' pt' rm' en' aa' iw' kd' n1' n2' n3' n4' gd') := fun Q => by
    have := hM Q
    rw [show wm X G A kp S (iI sv) tw ke le ch ln ab pt rm en aa iw kd n1 n2 n3 n4 gd = X from M1] at this
    exact this
  have e1' : X.2 = H.2 := by rw [hX]; exact FK.2
  have e2' : (wm X G' A' kp' S' (iI sv') 0 ke' le' ch' ln' ab' pt' rm' en' aa' iw' kd' n1' n2' n3' n4' gd').2 = H.2 := e1'
  exact ⟨wm X G' A' kp' S' (iI sv') 0 ke' le' ch' ln' ab' pt' rm' en' aa' iw' kd' n1' n2' n3' n4' gd', .int (iI 0), .int (iI v), LRx_mk (st_wm C1) M2 (g := vp_updL g (iI 0).toNatClampNeg (iI v).toInt64) (g2 := g2) (by rw [xmm_n (by omega), hX, hget_set]) (by rw [xmm_n (by omega), hX, hget_ne (by omega), FK.1 118 (by omega)]; exact h2) L, ⟨by rw [e2'], by rw [e2']; omega, by rw [e2']; omega⟩, fun Q => lc_restore hL hH (by rw [e1']) h9 hM' h9' (fun Q => mo_tw Q) (Or.inl ⟨rfl, by rw [xmm_n (by omega), hX, hget_set], updL_at⟩)⟩
theorem fx_restore_1 (C : CW H dy nb B nu U np P nf F nx kp pa zr0 zs sv lr le ln ps ch rq V) (M : MWo H G A kp S (iI sv) tw ke le ch ln ab pt rm en aa iw kd n1 n2 n3 n4 gd) (h1 : hget H 117 = some (ola g)) (h2 : hget H 118 = some (oda g2)) (hL : 0 ≤ i ∧ i + 6 ≤ (H.2.2.2.2.1 : Int) ∧ H.2.2.2.2.1 < 1000000) (hC : ∀ Q, Call 11 m_X7_restore [.ref 0] H Q = Q (.inr 1) (hexc K)) (CK : CW K dy' nb' B' nu' U' np' P' nf' F' nx' kp' pa' zr0' zs' sv' lr' le' ln' ps' ch' rq' V') (FK : HF H K) (hM : ∀ Q, Call 12 m_X8_restore [.ref 109] (wm (hexc K) G A kp S (iI sv) tw ke le ch ln ab pt rm en aa iw kd n1 n2 n3 n4 gd) Q = Q (.inl (some (.int (iI b)))) (wm (hexc K) G' A' kp' S' (iI sv') 1 ke' le' ch' ln' ab' pt' rm' en' aa' iw' kd' n1' n2' n3' n4' gd')) (L : LPx dy' nb' B' nu' U' np' P' nf' F' nx' kp' pa' zs' sv' lr' le' ln' ch' rq' V' G' A' S' ke') : ∃ (H2 : XH) (m6 m7 : Value), LRx H2 ∧ Fn H H2 ∧ ∀ Q, EvQ 13 m_L_law 1828 [.ref 2000000, .ref 0, .ref 109, .ref 117, .ref 118, .int (iI i), l6, l7, xjunk] [] H Q = EvQ 13 m_L_law 28 [.ref 2000000, .ref 0, .ref 109, .ref 117, .ref 118, .int (iI (i + 6)), m6, m7, xjunk] [] H2 Q := by
  have M1 : MWo (hexc K) G A kp S (iI sv) tw ke le ch ln ab pt rm en aa iw kd n1 n2 n3 n4 gd := mo_exc (mo_hf M FK)
  have C1 : CW (hexc K) dy' nb' B' nu' U' np' P' nf' F' nx' kp' pa' zr0' zs' sv' lr' le' ln' ps' ch' rq' V' := st_exc CK
  have hH := lx_restore_1 C.2.1 hC
  obtain ⟨fs1, h9⟩ := mo_h9 M1
  have M2 : MWo (wm (hexc K) G' A' kp' S' (iI sv') 1 ke' le' ch' ln' ab' pt' rm' en' aa' iw' kd' n1' n2' n3' n4' gd') G' A' kp' S' (iI sv') 1 ke' le' ch' ln' ab' pt' rm' en' aa' iw' kd' n1' n2' n3' n4' gd' := MWo_wm
  obtain ⟨fs2, h9'⟩ := mo_h9 M2
  have hM' : ∀ Q, Call 12 m_X8_restore [.ref 109] (hexc K) Q = Q (.inl (some (.int (iI b)))) (wm (hexc K) G' A' kp' S' (iI sv') 1 ke' le' ch' ln' ab' pt' rm' en' aa' iw' kd' n1' n2' n3' n4' gd') := fun Q => by
    have := hM Q
    rw [show wm (hexc K) G A kp S (iI sv) tw ke le ch ln ab pt rm en aa iw kd n1 n2 n3 n4 gd = hexc K from M1] at this
    exact this
  have k2 := FK.2
  have e1' : (hexc K).2.2.2.2 = H.2.2.2.2 := by rw [← k2]; rfl
  have e2' : (hexc K).2.2.1 = H.2.2.1 + 1 := by rw [← k2]; rfl
  have e3' : (hexc K).2.2.2.1 = H.2.2.2.1 + 6 := by rw [← k2]; rfl
  refine ⟨wm (hexc K) G' A' kp' S' (iI sv') 1 ke' le' ch' ln' ab' pt' rm' en' aa' iw' kd' n1' n2' n3' n4' gd', .int (iI 1), .int (iI b), LRx_mk (st_wm C1) M2 (g := g) (g2 := g2) (by rw [xmm_n (by omega), hexc_get, FK.1 117 (by omega)]; exact h1) (by rw [xmm_n (by omega), hexc_get, FK.1 118 (by omega)]; exact h2) L, ⟨e1', ?_, ?_⟩, fun Q => lc_restore (g := g) hL hH e1' h9 hM' h9' (fun Q => mo_tw Q) (Or.inr (by omega))⟩
  · show (hexc K).2.2.1 ≤ _
    omega
  · show (hexc K).2.2.2.1 ≤ _
    omega
end Lf
