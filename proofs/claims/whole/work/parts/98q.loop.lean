/-! One call of the law, and all of them. (made by gen98q.py) -/
theorem and31 (s : Int32) : ∃ k : Int, s &&& 31 = iI k ∧ 0 ≤ k ∧ k < 32 := by
  have e : (s &&& 31).toInt = (((s &&& 31).toBitVec.toNat : Nat) : Int) := by
    show (s &&& 31).toBitVec.toInt = _
    rw [BitVec.toInt_eq_toNat_of_lt]
    rw [Int32.toBitVec_and, BitVec.toNat_and, show (31 : Int32).toBitVec.toNat = 2 ^ 5 - 1 from rfl, Nat.and_two_pow_sub_one_eq_mod]
    omega
  refine ⟨(s &&& 31).toInt, (iI_of _).symm, by rw [e]; omega, ?_⟩
  rw [e, Int32.toBitVec_and, BitVec.toNat_and, show (31 : Int32).toBitVec.toNat = 2 ^ 5 - 1 from rfl, Nat.and_two_pow_sub_one_eq_mod]
  omega
section Sq
variable {H : XH} {i : Int} {l6 l7 : Value} {Q : XO → XH → Prop}
theorem law_step (Lr : LRx H) (hL : 0 ≤ i ∧ i + 6 ≤ (H.2.2.2.2.1 : Int) ∧ H.2.2.2.2.1 < 1000000) : ∃ (H2 : XH) (m6 m7 : Value), LRx H2 ∧ Fn H H2 ∧ ∀ Q, EvQ 13 m_L_law 42 [.ref 2000000, .ref 0, .ref 109, .ref 117, .ref 118, .int (iI i), l6, l7, xjunk] [.int (H.2.2.2.2.2 (iI i).toNatClampNeg)] H Q = EvQ 13 m_L_law 28 [.ref 2000000, .ref 0, .ref 109, .ref 117, .ref 118, .int (iI (i + 6)), m6, m7, xjunk] [] H2 Q := by
  obtain ⟨x1, e1, r1⟩ := i32 (H.2.2.2.2.2 (iI (i + 1)).toNatClampNeg)
  obtain ⟨x2, e2, r2⟩ := i32 (H.2.2.2.2.2 (iI (i + 2)).toNatClampNeg)
  obtain ⟨x3, e3, r3⟩ := i32 (H.2.2.2.2.2 (iI (i + 3)).toNatClampNeg)
  obtain ⟨x4, e4, r4⟩ := i32 (H.2.2.2.2.2 (iI (i + 4)).toNatClampNeg)
  obtain ⟨x5, e5, r5⟩ := i32 (H.2.2.2.2.2 (iI (i + 5)).toNatClampNeg)
  obtain ⟨z, hz⟩ : ∃ z : Int, (x4 = 0 ∧ z = 0) ∨ ((iI x4 = iI 0) = False ∧ z = 1) := by
    by_cases c : x4 = 0
    · exact ⟨0, Or.inl ⟨c, rfl⟩⟩
    · exact ⟨1, Or.inr ⟨eq_false (by rw [iI_eq (by omega) (by omega)]; exact c), rfl⟩⟩
  obtain ⟨k, ek, k0, k1⟩ := and31 (H.2.2.2.2.2 (iI i).toNatClampNeg)
  by_cases c0 : k = 0
  · obtain ⟨H2, m6, m7, a, b, e⟩ := sp_addBuilding (l6 := l6) (l7 := l7) Lr hL e1 r1
    exact ⟨H2, m6, m7, a, b, fun Q => (w_L_law_42_0 (by rw [ek, c0]; rfl)).trans (e Q)⟩
  by_cases c1 : k = 1
  · obtain ⟨H2, m6, m7, a, b, e⟩ := sp_building (l6 := l6) (l7 := l7) Lr hL e1 r1 e2 r2
    exact ⟨H2, m6, m7, a, b, fun Q => (w_L_law_42_1 (by rw [ek, c1]; rfl)).trans (e Q)⟩
  by_cases c2 : k = 2
  · obtain ⟨H2, m6, m7, a, b, e⟩ := sp_floor (l6 := l6) (l7 := l7) Lr hL e1 r1 e2 r2 e3 r3
    exact ⟨H2, m6, m7, a, b, fun Q => (w_L_law_42_2 (by rw [ek, c2]; rfl)).trans (e Q)⟩
  by_cases c3 : k = 3
  · obtain ⟨H2, m6, m7, a, b, e⟩ := sp_unit (l6 := l6) (l7 := l7) Lr hL e1 r1 e2 r2
    exact ⟨H2, m6, m7, a, b, fun Q => (w_L_law_42_3 (by rw [ek, c3]; rfl)).trans (e Q)⟩
  by_cases c4 : k = 4
  · obtain ⟨H2, m6, m7, a, b, e⟩ := sp_parent (l6 := l6) (l7 := l7) Lr hL e1 r1 e2 r2
    exact ⟨H2, m6, m7, a, b, fun Q => (w_L_law_42_4 (by rw [ek, c4]; rfl)).trans (e Q)⟩
  by_cases c5 : k = 5
  · obtain ⟨H2, m6, m7, a, b, e⟩ := sp_isAncestor (l6 := l6) (l7 := l7) Lr hL e1 r1 e2 r2
    exact ⟨H2, m6, m7, a, b, fun Q => (w_L_law_42_5 (by rw [ek, c5]; rfl)).trans (e Q)⟩
  by_cases c6 : k = 6
  · obtain ⟨H2, m6, m7, a, b, e⟩ := sp_became (l6 := l6) (l7 := l7) Lr hL e1 r1 e2 r2
    exact ⟨H2, m6, m7, a, b, fun Q => (w_L_law_42_6 (by rw [ek, c6]; rfl)).trans (e Q)⟩
  by_cases c7 : k = 7
  · obtain ⟨H2, m6, m7, a, b, e⟩ := sp_apply (l6 := l6) (l7 := l7) Lr hL e1 r1 e2 r2 e3 r3 e4 r4 e5 r5
    exact ⟨H2, m6, m7, a, b, fun Q => (w_L_law_42_7 (by rw [ek, c7]; rfl)).trans (e Q)⟩
  by_cases c8 : k = 8
  · obtain ⟨H2, m6, m7, a, b, e⟩ := sp_applyAll (l6 := l6) (l7 := l7) Lr hL
    exact ⟨H2, m6, m7, a, b, fun Q => (w_L_law_42_8 (by rw [ek, c8]; rfl)).trans (e Q)⟩
  by_cases c9 : k = 9
  · obtain ⟨H2, m6, m7, a, b, e⟩ := sp_grant (l6 := l6) (l7 := l7) Lr hL e1 r1
    exact ⟨H2, m6, m7, a, b, fun Q => (w_L_law_42_9 (by rw [ek, c9]; rfl)).trans (e Q)⟩
  by_cases c10 : k = 10
  · obtain ⟨H2, m6, m7, a, b, e⟩ := sp_refuse (l6 := l6) (l7 := l7) Lr hL e1 r1
    exact ⟨H2, m6, m7, a, b, fun Q => (w_L_law_42_10 (by rw [ek, c10]; rfl)).trans (e Q)⟩
  by_cases c11 : k = 11
  · obtain ⟨H2, m6, m7, a, b, e⟩ := sp_begin (l6 := l6) (l7 := l7) Lr hL e1 r1
    exact ⟨H2, m6, m7, a, b, fun Q => (w_L_law_42_11 (by rw [ek, c11]; rfl)).trans (e Q)⟩
  by_cases c12 : k = 12
  · obtain ⟨H2, m6, m7, a, b, e⟩ := sp_finish (l6 := l6) (l7 := l7) Lr hL e1 r1
    exact ⟨H2, m6, m7, a, b, fun Q => (w_L_law_42_12 (by rw [ek, c12]; rfl)).trans (e Q)⟩
  by_cases c13 : k = 13
  · obtain ⟨H2, m6, m7, a, b, e⟩ := sp_withdraw (l6 := l6) (l7 := l7) Lr hL e1 r1
    exact ⟨H2, m6, m7, a, b, fun Q => (w_L_law_42_13 (by rw [ek, c13]; rfl)).trans (e Q)⟩
  by_cases c14 : k = 14
  · obtain ⟨H2, m6, m7, a, b, e⟩ := sp_permit (l6 := l6) (l7 := l7) Lr hL e1 r1 e2 r2
    exact ⟨H2, m6, m7, a, b, fun Q => (w_L_law_42_14 (by rw [ek, c14]; rfl)).trans (e Q)⟩
  by_cases c15 : k = 15
  · obtain ⟨H2, m6, m7, a, b, e⟩ := sp_reason (l6 := l6) (l7 := l7) Lr hL
    exact ⟨H2, m6, m7, a, b, fun Q => (w_L_law_42_15 (by rw [ek, c15]; rfl)).trans (e Q)⟩
  by_cases c16 : k = 16
  · obtain ⟨H2, m6, m7, a, b, e⟩ := sp_pass (l6 := l6) (l7 := l7) Lr hL e1 r1
    exact ⟨H2, m6, m7, a, b, fun Q => (w_L_law_42_16 (by rw [ek, c16]; rfl)).trans (e Q)⟩
  by_cases c17 : k = 17
  · obtain ⟨H2, m6, m7, a, b, e⟩ := sp_count (l6 := l6) (l7 := l7) Lr hL e1 r1 e2 r2 e3 r3 e4 r4 hz
    exact ⟨H2, m6, m7, a, b, fun Q => (w_L_law_42_17 (by rw [ek, c17]; rfl)).trans (e Q)⟩
  by_cases c18 : k = 18
  · obtain ⟨H2, m6, m7, a, b, e⟩ := sp_replayed (l6 := l6) (l7 := l7) Lr hL e1 r1 e2 r2 e3 r3 e4 r4 hz
    exact ⟨H2, m6, m7, a, b, fun Q => (w_L_law_42_18 (by rw [ek, c18]; rfl)).trans (e Q)⟩
  by_cases c19 : k = 19
  · obtain ⟨H2, m6, m7, a, b, e⟩ := sp_meanArea (l6 := l6) (l7 := l7) Lr hL e1 r1
    exact ⟨H2, m6, m7, a, b, fun Q => (w_L_law_42_19 (by rw [ek, c19]; rfl)).trans (e Q)⟩
  by_cases c20 : k = 20
  · obtain ⟨H2, m6, m7, a, b, e⟩ := sp_fullestDay (l6 := l6) (l7 := l7) Lr hL
    exact ⟨H2, m6, m7, a, b, fun Q => (w_L_law_42_20 (by rw [ek, c20]; rfl)).trans (e Q)⟩
  by_cases c21 : k = 21
  · obtain ⟨H2, m6, m7, a, b, e⟩ := sp_check (l6 := l6) (l7 := l7) Lr hL e1 r1
    exact ⟨H2, m6, m7, a, b, fun Q => (w_L_law_42_21 (by rw [ek, c21]; rfl)).trans (e Q)⟩
  by_cases c22 : k = 22
  · obtain ⟨H2, m6, m7, a, b, e⟩ := sp_feed (l6 := l6) (l7 := l7) Lr hL e1 r1
    exact ⟨H2, m6, m7, a, b, fun Q => (w_L_law_42_22 (by rw [ek, c22]; rfl)).trans (e Q)⟩
  by_cases c23 : k = 23
  · obtain ⟨H2, m6, m7, a, b, e⟩ := sp_errorPosition (l6 := l6) (l7 := l7) Lr hL
    exact ⟨H2, m6, m7, a, b, fun Q => (w_L_law_42_23 (by rw [ek, c23]; rfl)).trans (e Q)⟩
  by_cases c24 : k = 24
  · obtain ⟨H2, m6, m7, a, b, e⟩ := sp_total (l6 := l6) (l7 := l7) Lr hL e1 r1
    exact ⟨H2, m6, m7, a, b, fun Q => (w_L_law_42_24 (by rw [ek, c24]; rfl)).trans (e Q)⟩
  by_cases c25 : k = 25
  · obtain ⟨H2, m6, m7, a, b, e⟩ := sp_undo (l6 := l6) (l7 := l7) Lr hL
    exact ⟨H2, m6, m7, a, b, fun Q => (w_L_law_42_25 (by rw [ek, c25]; rfl)).trans (e Q)⟩
  by_cases c26 : k = 26
  · obtain ⟨H2, m6, m7, a, b, e⟩ := sp_save (l6 := l6) (l7 := l7) Lr hL
    exact ⟨H2, m6, m7, a, b, fun Q => (w_L_law_42_26 (by rw [ek, c26]; rfl)).trans (e Q)⟩
  by_cases c27 : k = 27
  · obtain ⟨H2, m6, m7, a, b, e⟩ := sp_restore (l6 := l6) (l7 := l7) Lr hL
    exact ⟨H2, m6, m7, a, b, fun Q => (w_L_law_42_27 (by rw [ek, c27]; rfl)).trans (e Q)⟩
  refine ⟨H, l6, l7, Lr, ⟨rfl, Nat.le_succ _, Nat.le_add_right _ _⟩, fun Q => (w_L_law_42_d ?_).trans ?_⟩
  · rw [ek, iI_to (by omega)]
    omega
  · rw [w_L_law_1872, il_6, iI_add]
theorem law_all : ∀ (n : Nat) (i : Int) (H : XH) (l6 l7 : Value), LRx H → (0 ≤ i ∧ i ≤ (H.2.2.2.2.1 : Int) + 6) → (H.2.2.2.2.1 : Int) < 6 * n + 6 + i → H.2.2.2.2.1 < 1000000 → ∃ H2 : XH, H2.2.2.1 ≤ H.2.2.1 + n ∧ H2.2.2.2.1 ≤ H.2.2.2.1 + 6 * n ∧ ∀ Q, EvQ 13 m_L_law 28 [.ref 2000000, .ref 0, .ref 109, .ref 117, .ref 118, .int (iI i), l6, l7, xjunk] [] H Q = Q (.inl (some (.int 1))) H2
  | n, i, H, l6, l7, Lr, h0, h1, h2 => by
    by_cases c : (H.2.2.2.2.1 : Int) - 6 < i
    · refine ⟨H, by omega, by omega, fun Q => ?_⟩
      rw [w_L_law_28, w_L_law_32, iI_ofNat, il_6, iI_sub, if_pos (by rw [iI_lt (by omega) (by omega)]; exact c), w_L_law_1878]
    · cases n with
      | zero => omega
      | succ n =>
        obtain ⟨K, m6, m7, a, ⟨f1, f2, f3⟩, e⟩ := law_step (l6 := l6) (l7 := l7) (i := i) Lr ⟨h0.1, by omega, h2⟩
        obtain ⟨H2, g1, g2, g3⟩ := law_all n (i + 6) K m6 m7 a (by rw [f1]; omega) (by rw [f1]; omega) (by rw [f1]; exact h2)
        refine ⟨H2, by omega, by omega, fun Q => ?_⟩
        rw [w_L_law_28, w_L_law_32, iI_ofNat, il_6, iI_sub, if_neg (by rw [iI_lt (by omega) (by omega)]; exact c), w_L_law_38, show (0 : Int32) = iI 0 from rfl, sal0 (by omega), e Q]
        exact g3 Q
end Sq
