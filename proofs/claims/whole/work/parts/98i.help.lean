/-! The law's helpers: what they tell and keep. (made by gen98.py) -/
section Lh
variable {d : Nat} {H K : XH} {sv lr le v : Int} {i1 i2 i3 i4 i5 : Int32} {g : Nat → Int64} {g2 : Nat → UInt64} {w : UInt64}
theorem i64_0 : (0 : Int64) = (iI 0).toInt64 := by decide
theorem i64_1 : (1 : Int64) = (iI 1).toInt64 := by decide
theorem lo_addBuilding (h0 : hget H 0 = some (bco sv lr le)) (hO : hget K 117 = some (ola g)) (hC : ∀ Q, Call d m_X7_addBuilding [.ref 0, .int i1] H Q = Q (.inl (some (.int (iI v)))) K) : ∀ Q, Call (d + 1) m_L_addBuilding [.ref 0, .int i1, .ref 117] H Q = Q (.inl (some (.int (iI 0)))) (hset K 117 (ola (vp_updL g (iI 0).toNatClampNeg (iI v).toInt64))) := by
  intro Q
  rw [c_L_addBuilding]
  simp only [w_L_addBuilding_0, w_L_addBuilding_7, w_L_addBuilding_9, w_L_addBuilding_13, w_L_addBuilding_16, w_L_addBuilding_18, h0, bco, eob_at, hC, bck_i, Nat.reduceAdd, il_0, hO, epl_o]
theorem lx_addBuilding_0 (h0 : hget H 0 = some (bco sv lr le)) (hC : ∀ Q, Call d m_X7_addBuilding [.ref 0, .int i1] H Q = Q (.inr 0) K) : ∀ Q, Call (d + 1) m_L_addBuilding [.ref 0, .int i1, .ref 117] H Q = Q (.inl (some (.int (iI 1)))) K := by
  intro Q
  rw [c_L_addBuilding, w_L_addBuilding_0, h0, bco, eob_at, hC, bck_catch (a := 13) (k := 3) (by decide +kernel) (by decide +kernel) (by decide +kernel) (Nat.le_of_ble_eq_true rfl)]
  exact (w_L_addBuilding_13 (l0 := .ref 0)).trans (by rw [il_1])
theorem lx_addBuilding_1 (h0 : hget H 0 = some (bco sv lr le)) (hC : ∀ Q, Call d m_X7_addBuilding [.ref 0, .int i1] H Q = Q (.inr 1) K) : ∀ Q, Call (d + 1) m_L_addBuilding [.ref 0, .int i1, .ref 117] H Q = Q (.inl (some (.int (iI 2)))) K := by
  intro Q
  rw [c_L_addBuilding, w_L_addBuilding_0, h0, bco, eob_at, hC, bck_catch (a := 16) (k := 3) (by decide +kernel) (by decide +kernel) (by decide +kernel) (Nat.le_of_ble_eq_true rfl)]
  exact (w_L_addBuilding_16 (l0 := .ref 0)).trans (by rw [il_2])
theorem lo_building (h0 : hget H 0 = some (bco sv lr le)) (hO : hget K 117 = some (ola g)) (hC : ∀ Q, Call d m_X7_building [.ref 0, .int i1, .int i2] H Q = Q (.inl (some (.int (iI v)))) K) : ∀ Q, Call (d + 1) m_L_building [.ref 0, .int i1, .int i2, .ref 117] H Q = Q (.inl (some (.int (iI 0)))) (hset K 117 (ola (vp_updL g (iI 0).toNatClampNeg (iI v).toInt64))) := by
  intro Q
  rw [c_L_building]
  simp only [w_L_building_0, w_L_building_8, w_L_building_10, w_L_building_15, w_L_building_19, w_L_building_21, h0, bco, eob_at, hC, bck_i, Nat.reduceAdd, il_0, hO, epl_o]
theorem lx_building_2 (h0 : hget H 0 = some (bco sv lr le)) (hC : ∀ Q, Call d m_X7_building [.ref 0, .int i1, .int i2] H Q = Q (.inr 2) K) : ∀ Q, Call (d + 1) m_L_building [.ref 0, .int i1, .int i2, .ref 117] H Q = Q (.inl (some (.int (iI 1)))) K := by
  intro Q
  rw [c_L_building, w_L_building_0, h0, bco, eob_at, hC, bck_catch (a := 15) (k := 4) (by decide +kernel) (by decide +kernel) (by decide +kernel) (Nat.le_of_ble_eq_true rfl)]
  exact (w_L_building_15 (l0 := .ref 0)).trans (by rw [il_1])
theorem lx_building_0 (h0 : hget H 0 = some (bco sv lr le)) (hC : ∀ Q, Call d m_X7_building [.ref 0, .int i1, .int i2] H Q = Q (.inr 0) K) : ∀ Q, Call (d + 1) m_L_building [.ref 0, .int i1, .int i2, .ref 117] H Q = Q (.inl (some (.int (iI 2)))) K := by
  intro Q
  rw [c_L_building, w_L_building_0, h0, bco, eob_at, hC, bck_catch (a := 19) (k := 4) (by decide +kernel) (by decide +kernel) (by decide +kernel) (Nat.le_of_ble_eq_true rfl)]
  exact (w_L_building_19 (l0 := .ref 0)).trans (by rw [il_2])
theorem lo_floor (h0 : hget H 0 = some (bco sv lr le)) (hO : hget K 117 = some (ola g)) (hC : ∀ Q, Call d m_X7_floor [.ref 0, .int i1, .int i2, .int i3] H Q = Q (.inl (some (.int (iI v)))) K) : ∀ Q, Call (d + 1) m_L_floor [.ref 0, .int i1, .int i2, .int i3, .ref 117] H Q = Q (.inl (some (.int (iI 0)))) (hset K 117 (ola (vp_updL g (iI 0).toNatClampNeg (iI v).toInt64))) := by
  intro Q
  rw [c_L_floor]
  simp only [w_L_floor_0, w_L_floor_10, w_L_floor_12, w_L_floor_17, w_L_floor_21, w_L_floor_23, h0, bco, eob_at, hC, bck_i, Nat.reduceAdd, il_0, hO, epl_o]
theorem lx_floor_2 (h0 : hget H 0 = some (bco sv lr le)) (hC : ∀ Q, Call d m_X7_floor [.ref 0, .int i1, .int i2, .int i3] H Q = Q (.inr 2) K) : ∀ Q, Call (d + 1) m_L_floor [.ref 0, .int i1, .int i2, .int i3, .ref 117] H Q = Q (.inl (some (.int (iI 1)))) K := by
  intro Q
  rw [c_L_floor, w_L_floor_0, h0, bco, eob_at, hC, bck_catch (a := 17) (k := 5) (by decide +kernel) (by decide +kernel) (by decide +kernel) (Nat.le_of_ble_eq_true rfl)]
  exact (w_L_floor_17 (l0 := .ref 0)).trans (by rw [il_1])
theorem lx_floor_0 (h0 : hget H 0 = some (bco sv lr le)) (hC : ∀ Q, Call d m_X7_floor [.ref 0, .int i1, .int i2, .int i3] H Q = Q (.inr 0) K) : ∀ Q, Call (d + 1) m_L_floor [.ref 0, .int i1, .int i2, .int i3, .ref 117] H Q = Q (.inl (some (.int (iI 2)))) K := by
  intro Q
  rw [c_L_floor, w_L_floor_0, h0, bco, eob_at, hC, bck_catch (a := 21) (k := 5) (by decide +kernel) (by decide +kernel) (by decide +kernel) (Nat.le_of_ble_eq_true rfl)]
  exact (w_L_floor_21 (l0 := .ref 0)).trans (by rw [il_2])
theorem lo_unit (h0 : hget H 0 = some (bco sv lr le)) (hO : hget K 117 = some (ola g)) (hC : ∀ Q, Call d m_X7_unit [.ref 0, .int i1, .int i2] H Q = Q (.inl (some (.int (iI v)))) K) : ∀ Q, Call (d + 1) m_L_unit [.ref 0, .int i1, .int i2, .ref 117] H Q = Q (.inl (some (.int (iI 0)))) (hset K 117 (ola (vp_updL g (iI 0).toNatClampNeg (iI v).toInt64))) := by
  intro Q
  rw [c_L_unit]
  simp only [w_L_unit_0, w_L_unit_8, w_L_unit_10, w_L_unit_15, w_L_unit_19, w_L_unit_21, h0, bco, eob_at, hC, bck_i, Nat.reduceAdd, il_0, hO, epl_o]
theorem lx_unit_2 (h0 : hget H 0 = some (bco sv lr le)) (hC : ∀ Q, Call d m_X7_unit [.ref 0, .int i1, .int i2] H Q = Q (.inr 2) K) : ∀ Q, Call (d + 1) m_L_unit [.ref 0, .int i1, .int i2, .ref 117] H Q = Q (.inl (some (.int (iI 1)))) K := by
  intro Q
  rw [c_L_unit, w_L_unit_0, h0, bco, eob_at, hC, bck_catch (a := 15) (k := 4) (by decide +kernel) (by decide +kernel) (by decide +kernel) (Nat.le_of_ble_eq_true rfl)]
  exact (w_L_unit_15 (l0 := .ref 0)).trans (by rw [il_1])
theorem lx_unit_0 (h0 : hget H 0 = some (bco sv lr le)) (hC : ∀ Q, Call d m_X7_unit [.ref 0, .int i1, .int i2] H Q = Q (.inr 0) K) : ∀ Q, Call (d + 1) m_L_unit [.ref 0, .int i1, .int i2, .ref 117] H Q = Q (.inl (some (.int (iI 2)))) K := by
  intro Q
  rw [c_L_unit, w_L_unit_0, h0, bco, eob_at, hC, bck_catch (a := 19) (k := 4) (by decide +kernel) (by decide +kernel) (by decide +kernel) (Nat.le_of_ble_eq_true rfl)]
  exact (w_L_unit_19 (l0 := .ref 0)).trans (by rw [il_2])
theorem lo_parent (h0 : hget H 0 = some (bco sv lr le)) (hO : hget K 117 = some (ola g)) (hC : ∀ Q, Call d m_X7_parent [.ref 0, .int i1, .int i2] H Q = Q (.inl (some (.int (iI v)))) K) : ∀ Q, Call (d + 1) m_L_parent [.ref 0, .int i1, .int i2, .ref 117] H Q = Q (.inl (some (.int (iI 0)))) (hset K 117 (ola (vp_updL g (iI 0).toNatClampNeg (iI v).toInt64))) := by
  intro Q
  rw [c_L_parent]
  simp only [w_L_parent_0, w_L_parent_8, w_L_parent_10, w_L_parent_15, w_L_parent_19, w_L_parent_21, h0, bco, eob_at, hC, bck_i, Nat.reduceAdd, il_0, hO, epl_o]
theorem lx_parent_2 (h0 : hget H 0 = some (bco sv lr le)) (hC : ∀ Q, Call d m_X7_parent [.ref 0, .int i1, .int i2] H Q = Q (.inr 2) K) : ∀ Q, Call (d + 1) m_L_parent [.ref 0, .int i1, .int i2, .ref 117] H Q = Q (.inl (some (.int (iI 1)))) K := by
  intro Q
  rw [c_L_parent, w_L_parent_0, h0, bco, eob_at, hC, bck_catch (a := 15) (k := 4) (by decide +kernel) (by decide +kernel) (by decide +kernel) (Nat.le_of_ble_eq_true rfl)]
  exact (w_L_parent_15 (l0 := .ref 0)).trans (by rw [il_1])
theorem lx_parent_3 (h0 : hget H 0 = some (bco sv lr le)) (hC : ∀ Q, Call d m_X7_parent [.ref 0, .int i1, .int i2] H Q = Q (.inr 3) K) : ∀ Q, Call (d + 1) m_L_parent [.ref 0, .int i1, .int i2, .ref 117] H Q = Q (.inl (some (.int (iI 2)))) K := by
  intro Q
  rw [c_L_parent, w_L_parent_0, h0, bco, eob_at, hC, bck_catch (a := 19) (k := 4) (by decide +kernel) (by decide +kernel) (by decide +kernel) (Nat.le_of_ble_eq_true rfl)]
  exact (w_L_parent_19 (l0 := .ref 0)).trans (by rw [il_2])
theorem lo_isAncestor (hv : v = 0 ∨ v = 1) (h0 : hget H 0 = some (bco sv lr le)) (hO : hget K 117 = some (ola g)) (hC : ∀ Q, Call d m_X7_isAncestor [.ref 0, .int i1, .int i2] H Q = Q (.inl (some (.int (iI v)))) K) : ∀ Q, Call (d + 1) m_L_isAncestor [.ref 0, .int i1, .int i2, .ref 117] H Q = Q (.inl (some (.int (iI 0)))) (hset K 117 (ola (vp_updL g (iI 0).toNatClampNeg (iI v).toInt64))) := by
  intro Q
  rw [c_L_isAncestor]
  rcases hv with rfl | rfl
  · simp only [w_L_isAncestor_0, w_L_isAncestor_8, w_L_isAncestor_11, w_L_isAncestor_15, w_L_isAncestor_16, w_L_isAncestor_17, w_L_isAncestor_22, w_L_isAncestor_24, h0, bco, eob_at, hC, bck_i, Nat.reduceAdd, il_0, hO, epl_o, if_true, i64_0]
  · simp only [w_L_isAncestor_0, w_L_isAncestor_8, w_L_isAncestor_11, w_L_isAncestor_15, w_L_isAncestor_16, w_L_isAncestor_17, w_L_isAncestor_22, w_L_isAncestor_24, h0, bco, eob_at, hC, bck_i, Nat.reduceAdd, il_0, hO, epl_o, iI_10, if_false, i64_1]
theorem lx_isAncestor_2 (h0 : hget H 0 = some (bco sv lr le)) (hC : ∀ Q, Call d m_X7_isAncestor [.ref 0, .int i1, .int i2] H Q = Q (.inr 2) K) : ∀ Q, Call (d + 1) m_L_isAncestor [.ref 0, .int i1, .int i2, .ref 117] H Q = Q (.inl (some (.int (iI 1)))) K := by
  intro Q
  rw [c_L_isAncestor, w_L_isAncestor_0, h0, bco, eob_at, hC, bck_catch (a := 22) (k := 4) (by decide +kernel) (by decide +kernel) (by decide +kernel) (Nat.le_of_ble_eq_true rfl)]
  exact (w_L_isAncestor_22 (l0 := .ref 0)).trans (by rw [il_1])
theorem lo_became (h0 : hget H 0 = some (bco sv lr le)) (hO : hget K 117 = some (ola g)) (hC : ∀ Q, Call d m_X7_became [.ref 0, .int i1, .int i2] H Q = Q (.inl (some (.int (iI v)))) K) : ∀ Q, Call (d + 1) m_L_became [.ref 0, .int i1, .int i2, .ref 117] H Q = Q (.inl (some (.int (iI 0)))) (hset K 117 (ola (vp_updL g (iI 0).toNatClampNeg (iI v).toInt64))) := by
  intro Q
  rw [c_L_became]
  simp only [w_L_became_0, w_L_became_8, w_L_became_10, w_L_became_15, w_L_became_19, w_L_became_21, h0, bco, eob_at, hC, bck_i, Nat.reduceAdd, il_0, hO, epl_o]
theorem lx_became_2 (h0 : hget H 0 = some (bco sv lr le)) (hC : ∀ Q, Call d m_X7_became [.ref 0, .int i1, .int i2] H Q = Q (.inr 2) K) : ∀ Q, Call (d + 1) m_L_became [.ref 0, .int i1, .int i2, .ref 117] H Q = Q (.inl (some (.int (iI 1)))) K := by
  intro Q
  rw [c_L_became, w_L_became_0, h0, bco, eob_at, hC, bck_catch (a := 15) (k := 4) (by decide +kernel) (by decide +kernel) (by decide +kernel) (Nat.le_of_ble_eq_true rfl)]
  exact (w_L_became_15 (l0 := .ref 0)).trans (by rw [il_1])
theorem lx_became_3 (h0 : hget H 0 = some (bco sv lr le)) (hC : ∀ Q, Call d m_X7_became [.ref 0, .int i1, .int i2] H Q = Q (.inr 3) K) : ∀ Q, Call (d + 1) m_L_became [.ref 0, .int i1, .int i2, .ref 117] H Q = Q (.inl (some (.int (iI 2)))) K := by
  intro Q
  rw [c_L_became, w_L_became_0, h0, bco, eob_at, hC, bck_catch (a := 19) (k := 4) (by decide +kernel) (by decide +kernel) (by decide +kernel) (Nat.le_of_ble_eq_true rfl)]
  exact (w_L_became_19 (l0 := .ref 0)).trans (by rw [il_2])
theorem lo_apply (h0 : hget H 0 = some (bco sv lr le)) (hO : hget K 117 = some (ola g)) (hC : ∀ Q, Call d m_X7_apply [.ref 0, .int i1, .int i2, .int i3, .int i4, .int i5] H Q = Q (.inl (some (.int (iI v)))) K) : ∀ Q, Call (d + 1) m_L_apply [.ref 0, .int i1, .int i2, .int i3, .int i4, .int i5, .ref 117] H Q = Q (.inl (some (.int (iI 0)))) (hset K 117 (ola (vp_updL g (iI 0).toNatClampNeg (iI v).toInt64))) := by
  intro Q
  rw [c_L_apply]
  simp only [w_L_apply_0, w_L_apply_14, w_L_apply_16, w_L_apply_21, w_L_apply_25, w_L_apply_27, h0, bco, eob_at, hC, bck_i, Nat.reduceAdd, il_0, hO, epl_o]
theorem lx_apply_0 (h0 : hget H 0 = some (bco sv lr le)) (hC : ∀ Q, Call d m_X7_apply [.ref 0, .int i1, .int i2, .int i3, .int i4, .int i5] H Q = Q (.inr 0) K) : ∀ Q, Call (d + 1) m_L_apply [.ref 0, .int i1, .int i2, .int i3, .int i4, .int i5, .ref 117] H Q = Q (.inl (some (.int (iI 1)))) K := by
  intro Q
  rw [c_L_apply, w_L_apply_0, h0, bco, eob_at, hC, bck_catch (a := 21) (k := 7) (by decide +kernel) (by decide +kernel) (by decide +kernel) (Nat.le_of_ble_eq_true rfl)]
  exact (w_L_apply_21 (l0 := .ref 0)).trans (by rw [il_1])
theorem lx_apply_1 (h0 : hget H 0 = some (bco sv lr le)) (hC : ∀ Q, Call d m_X7_apply [.ref 0, .int i1, .int i2, .int i3, .int i4, .int i5] H Q = Q (.inr 1) K) : ∀ Q, Call (d + 1) m_L_apply [.ref 0, .int i1, .int i2, .int i3, .int i4, .int i5, .ref 117] H Q = Q (.inl (some (.int (iI 2)))) K := by
  intro Q
  rw [c_L_apply, w_L_apply_0, h0, bco, eob_at, hC, bck_catch (a := 25) (k := 7) (by decide +kernel) (by decide +kernel) (by decide +kernel) (Nat.le_of_ble_eq_true rfl)]
  exact (w_L_apply_25 (l0 := .ref 0)).trans (by rw [il_2])
theorem lo_applyAll (h0 : hget H 0 = some (bco sv lr le)) (hO : hget K 117 = some (ola g)) (hC : ∀ Q, Call d m_X7_applyAll [.ref 0] H Q = Q (.inl (some (.int (iI v)))) K) : ∀ Q, Call (d + 1) m_L_applyAll [.ref 0, .ref 117] H Q = Q (.inl (some (.int (iI 0)))) (hset K 117 (ola (vp_updL g (iI 0).toNatClampNeg (iI v).toInt64))) := by
  intro Q
  rw [c_L_applyAll]
  simp only [w_L_applyAll_0, w_L_applyAll_6, w_L_applyAll_8, w_L_applyAll_12, w_L_applyAll_15, w_L_applyAll_17, h0, bco, eob_at, hC, bck_i, Nat.reduceAdd, il_0, hO, epl_o]
theorem lx_applyAll_0 (h0 : hget H 0 = some (bco sv lr le)) (hC : ∀ Q, Call d m_X7_applyAll [.ref 0] H Q = Q (.inr 0) K) : ∀ Q, Call (d + 1) m_L_applyAll [.ref 0, .ref 117] H Q = Q (.inl (some (.int (iI 1)))) K := by
  intro Q
  rw [c_L_applyAll, w_L_applyAll_0, h0, bco, eob_at, hC, bck_catch (a := 12) (k := 2) (by decide +kernel) (by decide +kernel) (by decide +kernel) (Nat.le_of_ble_eq_true rfl)]
  exact (w_L_applyAll_12 (l0 := .ref 0)).trans (by rw [il_1])
theorem lx_applyAll_1 (h0 : hget H 0 = some (bco sv lr le)) (hC : ∀ Q, Call d m_X7_applyAll [.ref 0] H Q = Q (.inr 1) K) : ∀ Q, Call (d + 1) m_L_applyAll [.ref 0, .ref 117] H Q = Q (.inl (some (.int (iI 2)))) K := by
  intro Q
  rw [c_L_applyAll, w_L_applyAll_0, h0, bco, eob_at, hC, bck_catch (a := 15) (k := 2) (by decide +kernel) (by decide +kernel) (by decide +kernel) (Nat.le_of_ble_eq_true rfl)]
  exact (w_L_applyAll_15 (l0 := .ref 0)).trans (by rw [il_2])
theorem lo_grant (h0 : hget H 0 = some (bco sv lr le)) (hO : hget K 117 = some (ola g)) (hC : ∀ Q, Call d m_X7_grant [.ref 0, .int i1] H Q = Q (.inl (some (.int (iI v)))) K) : ∀ Q, Call (d + 1) m_L_grant [.ref 0, .int i1, .ref 117] H Q = Q (.inl (some (.int (iI 0)))) (hset K 117 (ola (vp_updL g (iI 0).toNatClampNeg (iI v).toInt64))) := by
  intro Q
  rw [c_L_grant]
  simp only [w_L_grant_0, w_L_grant_7, w_L_grant_9, w_L_grant_13, w_L_grant_16, w_L_grant_19, w_L_grant_21, h0, bco, eob_at, hC, bck_i, Nat.reduceAdd, il_0, hO, epl_o]
theorem lx_grant_2 (h0 : hget H 0 = some (bco sv lr le)) (hC : ∀ Q, Call d m_X7_grant [.ref 0, .int i1] H Q = Q (.inr 2) K) : ∀ Q, Call (d + 1) m_L_grant [.ref 0, .int i1, .ref 117] H Q = Q (.inl (some (.int (iI 1)))) K := by
  intro Q
  rw [c_L_grant, w_L_grant_0, h0, bco, eob_at, hC, bck_catch (a := 13) (k := 3) (by decide +kernel) (by decide +kernel) (by decide +kernel) (Nat.le_of_ble_eq_true rfl)]
  exact (w_L_grant_13 (l0 := .ref 0)).trans (by rw [il_1])
theorem lx_grant_4 (h0 : hget H 0 = some (bco sv lr le)) (hC : ∀ Q, Call d m_X7_grant [.ref 0, .int i1] H Q = Q (.inr 4) K) : ∀ Q, Call (d + 1) m_L_grant [.ref 0, .int i1, .ref 117] H Q = Q (.inl (some (.int (iI 2)))) K := by
  intro Q
  rw [c_L_grant, w_L_grant_0, h0, bco, eob_at, hC, bck_catch (a := 16) (k := 3) (by decide +kernel) (by decide +kernel) (by decide +kernel) (Nat.le_of_ble_eq_true rfl)]
  exact (w_L_grant_16 (l0 := .ref 0)).trans (by rw [il_2])
theorem lx_grant_1 (h0 : hget H 0 = some (bco sv lr le)) (hC : ∀ Q, Call d m_X7_grant [.ref 0, .int i1] H Q = Q (.inr 1) K) : ∀ Q, Call (d + 1) m_L_grant [.ref 0, .int i1, .ref 117] H Q = Q (.inl (some (.int (iI 3)))) K := by
  intro Q
  rw [c_L_grant, w_L_grant_0, h0, bco, eob_at, hC, bck_catch (a := 19) (k := 3) (by decide +kernel) (by decide +kernel) (by decide +kernel) (Nat.le_of_ble_eq_true rfl)]
  exact (w_L_grant_19 (l0 := .ref 0)).trans (by rw [il_3])
theorem lo_refuse (h0 : hget H 0 = some (bco sv lr le)) (hO : hget K 117 = some (ola g)) (hC : ∀ Q, Call d m_X7_refuse [.ref 0, .int i1] H Q = Q (.inl (some (.int (iI v)))) K) : ∀ Q, Call (d + 1) m_L_refuse [.ref 0, .int i1, .ref 117] H Q = Q (.inl (some (.int (iI 0)))) (hset K 117 (ola (vp_updL g (iI 0).toNatClampNeg (iI v).toInt64))) := by
  intro Q
  rw [c_L_refuse]
  simp only [w_L_refuse_0, w_L_refuse_7, w_L_refuse_9, w_L_refuse_13, w_L_refuse_16, w_L_refuse_18, h0, bco, eob_at, hC, bck_i, Nat.reduceAdd, il_0, hO, epl_o]
theorem lx_refuse_2 (h0 : hget H 0 = some (bco sv lr le)) (hC : ∀ Q, Call d m_X7_refuse [.ref 0, .int i1] H Q = Q (.inr 2) K) : ∀ Q, Call (d + 1) m_L_refuse [.ref 0, .int i1, .ref 117] H Q = Q (.inl (some (.int (iI 1)))) K := by
  intro Q
  rw [c_L_refuse, w_L_refuse_0, h0, bco, eob_at, hC, bck_catch (a := 13) (k := 3) (by decide +kernel) (by decide +kernel) (by decide +kernel) (Nat.le_of_ble_eq_true rfl)]
  exact (w_L_refuse_13 (l0 := .ref 0)).trans (by rw [il_1])
theorem lx_refuse_4 (h0 : hget H 0 = some (bco sv lr le)) (hC : ∀ Q, Call d m_X7_refuse [.ref 0, .int i1] H Q = Q (.inr 4) K) : ∀ Q, Call (d + 1) m_L_refuse [.ref 0, .int i1, .ref 117] H Q = Q (.inl (some (.int (iI 2)))) K := by
  intro Q
  rw [c_L_refuse, w_L_refuse_0, h0, bco, eob_at, hC, bck_catch (a := 16) (k := 3) (by decide +kernel) (by decide +kernel) (by decide +kernel) (Nat.le_of_ble_eq_true rfl)]
  exact (w_L_refuse_16 (l0 := .ref 0)).trans (by rw [il_2])
theorem lo_begin (h0 : hget H 0 = some (bco sv lr le)) (hO : hget K 117 = some (ola g)) (hC : ∀ Q, Call d m_X7_begin [.ref 0, .int i1] H Q = Q (.inl (some (.int (iI v)))) K) : ∀ Q, Call (d + 1) m_L_begin [.ref 0, .int i1, .ref 117] H Q = Q (.inl (some (.int (iI 0)))) (hset K 117 (ola (vp_updL g (iI 0).toNatClampNeg (iI v).toInt64))) := by
  intro Q
  rw [c_L_begin]
  simp only [w_L_begin_0, w_L_begin_7, w_L_begin_9, w_L_begin_13, w_L_begin_16, w_L_begin_18, h0, bco, eob_at, hC, bck_i, Nat.reduceAdd, il_0, hO, epl_o]
theorem lx_begin_2 (h0 : hget H 0 = some (bco sv lr le)) (hC : ∀ Q, Call d m_X7_begin [.ref 0, .int i1] H Q = Q (.inr 2) K) : ∀ Q, Call (d + 1) m_L_begin [.ref 0, .int i1, .ref 117] H Q = Q (.inl (some (.int (iI 1)))) K := by
  intro Q
  rw [c_L_begin, w_L_begin_0, h0, bco, eob_at, hC, bck_catch (a := 13) (k := 3) (by decide +kernel) (by decide +kernel) (by decide +kernel) (Nat.le_of_ble_eq_true rfl)]
  exact (w_L_begin_13 (l0 := .ref 0)).trans (by rw [il_1])
theorem lx_begin_4 (h0 : hget H 0 = some (bco sv lr le)) (hC : ∀ Q, Call d m_X7_begin [.ref 0, .int i1] H Q = Q (.inr 4) K) : ∀ Q, Call (d + 1) m_L_begin [.ref 0, .int i1, .ref 117] H Q = Q (.inl (some (.int (iI 2)))) K := by
  intro Q
  rw [c_L_begin, w_L_begin_0, h0, bco, eob_at, hC, bck_catch (a := 16) (k := 3) (by decide +kernel) (by decide +kernel) (by decide +kernel) (Nat.le_of_ble_eq_true rfl)]
  exact (w_L_begin_16 (l0 := .ref 0)).trans (by rw [il_2])
theorem lo_finish (h0 : hget H 0 = some (bco sv lr le)) (hO : hget K 117 = some (ola g)) (hC : ∀ Q, Call d m_X7_finish [.ref 0, .int i1] H Q = Q (.inl (some (.int (iI v)))) K) : ∀ Q, Call (d + 1) m_L_finish [.ref 0, .int i1, .ref 117] H Q = Q (.inl (some (.int (iI 0)))) (hset K 117 (ola (vp_updL g (iI 0).toNatClampNeg (iI v).toInt64))) := by
  intro Q
  rw [c_L_finish]
  simp only [w_L_finish_0, w_L_finish_7, w_L_finish_9, w_L_finish_13, w_L_finish_16, w_L_finish_18, h0, bco, eob_at, hC, bck_i, Nat.reduceAdd, il_0, hO, epl_o]
theorem lx_finish_2 (h0 : hget H 0 = some (bco sv lr le)) (hC : ∀ Q, Call d m_X7_finish [.ref 0, .int i1] H Q = Q (.inr 2) K) : ∀ Q, Call (d + 1) m_L_finish [.ref 0, .int i1, .ref 117] H Q = Q (.inl (some (.int (iI 1)))) K := by
  intro Q
  rw [c_L_finish, w_L_finish_0, h0, bco, eob_at, hC, bck_catch (a := 13) (k := 3) (by decide +kernel) (by decide +kernel) (by decide +kernel) (Nat.le_of_ble_eq_true rfl)]
  exact (w_L_finish_13 (l0 := .ref 0)).trans (by rw [il_1])
theorem lx_finish_4 (h0 : hget H 0 = some (bco sv lr le)) (hC : ∀ Q, Call d m_X7_finish [.ref 0, .int i1] H Q = Q (.inr 4) K) : ∀ Q, Call (d + 1) m_L_finish [.ref 0, .int i1, .ref 117] H Q = Q (.inl (some (.int (iI 2)))) K := by
  intro Q
  rw [c_L_finish, w_L_finish_0, h0, bco, eob_at, hC, bck_catch (a := 16) (k := 3) (by decide +kernel) (by decide +kernel) (by decide +kernel) (Nat.le_of_ble_eq_true rfl)]
  exact (w_L_finish_16 (l0 := .ref 0)).trans (by rw [il_2])
theorem lo_withdraw (h0 : hget H 0 = some (bco sv lr le)) (hO : hget K 117 = some (ola g)) (hC : ∀ Q, Call d m_X7_withdraw [.ref 0, .int i1] H Q = Q (.inl (some (.int (iI v)))) K) : ∀ Q, Call (d + 1) m_L_withdraw [.ref 0, .int i1, .ref 117] H Q = Q (.inl (some (.int (iI 0)))) (hset K 117 (ola (vp_updL g (iI 0).toNatClampNeg (iI v).toInt64))) := by
  intro Q
  rw [c_L_withdraw]
  simp only [w_L_withdraw_0, w_L_withdraw_7, w_L_withdraw_9, w_L_withdraw_13, w_L_withdraw_16, w_L_withdraw_18, h0, bco, eob_at, hC, bck_i, Nat.reduceAdd, il_0, hO, epl_o]
theorem lx_withdraw_2 (h0 : hget H 0 = some (bco sv lr le)) (hC : ∀ Q, Call d m_X7_withdraw [.ref 0, .int i1] H Q = Q (.inr 2) K) : ∀ Q, Call (d + 1) m_L_withdraw [.ref 0, .int i1, .ref 117] H Q = Q (.inl (some (.int (iI 1)))) K := by
  intro Q
  rw [c_L_withdraw, w_L_withdraw_0, h0, bco, eob_at, hC, bck_catch (a := 13) (k := 3) (by decide +kernel) (by decide +kernel) (by decide +kernel) (Nat.le_of_ble_eq_true rfl)]
  exact (w_L_withdraw_13 (l0 := .ref 0)).trans (by rw [il_1])
theorem lx_withdraw_4 (h0 : hget H 0 = some (bco sv lr le)) (hC : ∀ Q, Call d m_X7_withdraw [.ref 0, .int i1] H Q = Q (.inr 4) K) : ∀ Q, Call (d + 1) m_L_withdraw [.ref 0, .int i1, .ref 117] H Q = Q (.inl (some (.int (iI 2)))) K := by
  intro Q
  rw [c_L_withdraw, w_L_withdraw_0, h0, bco, eob_at, hC, bck_catch (a := 16) (k := 3) (by decide +kernel) (by decide +kernel) (by decide +kernel) (Nat.le_of_ble_eq_true rfl)]
  exact (w_L_withdraw_16 (l0 := .ref 0)).trans (by rw [il_2])
theorem lo_permit (h0 : hget H 0 = some (bco sv lr le)) (hO : hget K 117 = some (ola g)) (hC : ∀ Q, Call d m_X7_permit [.ref 0, .int i1, .int i2] H Q = Q (.inl (some (.int (iI v)))) K) : ∀ Q, Call (d + 1) m_L_permit [.ref 0, .int i1, .int i2, .ref 117] H Q = Q (.inl (some (.int (iI 0)))) (hset K 117 (ola (vp_updL g (iI 0).toNatClampNeg (iI v).toInt64))) := by
  intro Q
  rw [c_L_permit]
  simp only [w_L_permit_0, w_L_permit_8, w_L_permit_10, w_L_permit_15, w_L_permit_19, w_L_permit_21, h0, bco, eob_at, hC, bck_i, Nat.reduceAdd, il_0, hO, epl_o]
theorem lx_permit_2 (h0 : hget H 0 = some (bco sv lr le)) (hC : ∀ Q, Call d m_X7_permit [.ref 0, .int i1, .int i2] H Q = Q (.inr 2) K) : ∀ Q, Call (d + 1) m_L_permit [.ref 0, .int i1, .int i2, .ref 117] H Q = Q (.inl (some (.int (iI 1)))) K := by
  intro Q
  rw [c_L_permit, w_L_permit_0, h0, bco, eob_at, hC, bck_catch (a := 15) (k := 4) (by decide +kernel) (by decide +kernel) (by decide +kernel) (Nat.le_of_ble_eq_true rfl)]
  exact (w_L_permit_15 (l0 := .ref 0)).trans (by rw [il_1])
theorem lx_permit_0 (h0 : hget H 0 = some (bco sv lr le)) (hC : ∀ Q, Call d m_X7_permit [.ref 0, .int i1, .int i2] H Q = Q (.inr 0) K) : ∀ Q, Call (d + 1) m_L_permit [.ref 0, .int i1, .int i2, .ref 117] H Q = Q (.inl (some (.int (iI 2)))) K := by
  intro Q
  rw [c_L_permit, w_L_permit_0, h0, bco, eob_at, hC, bck_catch (a := 19) (k := 4) (by decide +kernel) (by decide +kernel) (by decide +kernel) (Nat.le_of_ble_eq_true rfl)]
  exact (w_L_permit_19 (l0 := .ref 0)).trans (by rw [il_2])
theorem lo_reason (h0 : hget H 0 = some (bco sv lr le)) (hO : hget K 117 = some (ola g)) (hC : ∀ Q, Call d m_X7_reason [.ref 0] H Q = Q (.inl (some (.int (iI v)))) K) : ∀ Q, Call (d + 1) m_L_reason [.ref 0, .ref 117] H Q = Q (.inl (some (.int (iI 0)))) (hset K 117 (ola (vp_updL g (iI 0).toNatClampNeg (iI v).toInt64))) := by
  intro Q
  rw [c_L_reason]
  simp only [w_L_reason_0, w_L_reason_6, w_L_reason_8, w_L_reason_12, w_L_reason_14, h0, bco, eob_at, hC, bck_i, Nat.reduceAdd, il_0, hO, epl_o]
theorem lx_reason_3 (h0 : hget H 0 = some (bco sv lr le)) (hC : ∀ Q, Call d m_X7_reason [.ref 0] H Q = Q (.inr 3) K) : ∀ Q, Call (d + 1) m_L_reason [.ref 0, .ref 117] H Q = Q (.inl (some (.int (iI 1)))) K := by
  intro Q
  rw [c_L_reason, w_L_reason_0, h0, bco, eob_at, hC, bck_catch (a := 12) (k := 2) (by decide +kernel) (by decide +kernel) (by decide +kernel) (Nat.le_of_ble_eq_true rfl)]
  exact (w_L_reason_12 (l0 := .ref 0)).trans (by rw [il_1])
theorem lo_pass (h0 : hget H 0 = some (bco sv lr le)) (hO : hget K 117 = some (ola g)) (hC : ∀ Q, Call d m_X7_pass [.ref 0, .int i1] H Q = Q (.inl (some (.int (iI v)))) K) : ∀ Q, Call (d + 1) m_L_pass [.ref 0, .int i1, .ref 117] H Q = Q (.inl (some (.int (iI 0)))) (hset K 117 (ola (vp_updL g (iI 0).toNatClampNeg (iI v).toInt64))) := by
  intro Q
  rw [c_L_pass]
  simp only [w_L_pass_0, w_L_pass_7, w_L_pass_9, w_L_pass_13, w_L_pass_16, w_L_pass_18, h0, bco, eob_at, hC, bck_i, Nat.reduceAdd, il_0, hO, epl_o]
theorem lx_pass_0 (h0 : hget H 0 = some (bco sv lr le)) (hC : ∀ Q, Call d m_X7_pass [.ref 0, .int i1] H Q = Q (.inr 0) K) : ∀ Q, Call (d + 1) m_L_pass [.ref 0, .int i1, .ref 117] H Q = Q (.inl (some (.int (iI 1)))) K := by
  intro Q
  rw [c_L_pass, w_L_pass_0, h0, bco, eob_at, hC, bck_catch (a := 13) (k := 3) (by decide +kernel) (by decide +kernel) (by decide +kernel) (Nat.le_of_ble_eq_true rfl)]
  exact (w_L_pass_13 (l0 := .ref 0)).trans (by rw [il_1])
theorem lx_pass_1 (h0 : hget H 0 = some (bco sv lr le)) (hC : ∀ Q, Call d m_X7_pass [.ref 0, .int i1] H Q = Q (.inr 1) K) : ∀ Q, Call (d + 1) m_L_pass [.ref 0, .int i1, .ref 117] H Q = Q (.inl (some (.int (iI 2)))) K := by
  intro Q
  rw [c_L_pass, w_L_pass_0, h0, bco, eob_at, hC, bck_catch (a := 16) (k := 3) (by decide +kernel) (by decide +kernel) (by decide +kernel) (Nat.le_of_ble_eq_true rfl)]
  exact (w_L_pass_16 (l0 := .ref 0)).trans (by rw [il_2])
theorem lo_count (h0 : hget H 0 = some (bco sv lr le)) (hO : hget K 117 = some (ola g)) (hC : ∀ Q, Call d m_X7_count [.ref 0, .int i1, .int i2, .int i3, .int i4] H Q = Q (.inl (some (.int (iI v)))) K) : ∀ Q, Call (d + 1) m_L_count [.ref 0, .int i1, .int i2, .int i3, .int i4, .ref 117] H Q = Q (.inl (some (.int (iI 0)))) (hset K 117 (ola (vp_updL g (iI 0).toNatClampNeg (iI v).toInt64))) := by
  intro Q
  rw [c_L_count]
  simp only [w_L_count_0, w_L_count_12, w_L_count_14, w_L_count_19, w_L_count_23, w_L_count_25, h0, bco, eob_at, hC, bck_i, Nat.reduceAdd, il_0, hO, epl_o]
theorem lx_count_2 (h0 : hget H 0 = some (bco sv lr le)) (hC : ∀ Q, Call d m_X7_count [.ref 0, .int i1, .int i2, .int i3, .int i4] H Q = Q (.inr 2) K) : ∀ Q, Call (d + 1) m_L_count [.ref 0, .int i1, .int i2, .int i3, .int i4, .ref 117] H Q = Q (.inl (some (.int (iI 1)))) K := by
  intro Q
  rw [c_L_count, w_L_count_0, h0, bco, eob_at, hC, bck_catch (a := 19) (k := 6) (by decide +kernel) (by decide +kernel) (by decide +kernel) (Nat.le_of_ble_eq_true rfl)]
  exact (w_L_count_19 (l0 := .ref 0)).trans (by rw [il_1])
theorem lx_count_0 (h0 : hget H 0 = some (bco sv lr le)) (hC : ∀ Q, Call d m_X7_count [.ref 0, .int i1, .int i2, .int i3, .int i4] H Q = Q (.inr 0) K) : ∀ Q, Call (d + 1) m_L_count [.ref 0, .int i1, .int i2, .int i3, .int i4, .ref 117] H Q = Q (.inl (some (.int (iI 2)))) K := by
  intro Q
  rw [c_L_count, w_L_count_0, h0, bco, eob_at, hC, bck_catch (a := 23) (k := 6) (by decide +kernel) (by decide +kernel) (by decide +kernel) (Nat.le_of_ble_eq_true rfl)]
  exact (w_L_count_23 (l0 := .ref 0)).trans (by rw [il_2])
theorem lo_replayed (h0 : hget H 0 = some (bco sv lr le)) (hO : hget K 117 = some (ola g)) (hC : ∀ Q, Call d m_X7_replayed [.ref 0, .int i1, .int i2, .int i3, .int i4] H Q = Q (.inl (some (.int (iI v)))) K) : ∀ Q, Call (d + 1) m_L_replayed [.ref 0, .int i1, .int i2, .int i3, .int i4, .ref 117] H Q = Q (.inl (some (.int (iI 0)))) (hset K 117 (ola (vp_updL g (iI 0).toNatClampNeg (iI v).toInt64))) := by
  intro Q
  rw [c_L_replayed]
  simp only [w_L_replayed_0, w_L_replayed_12, w_L_replayed_14, w_L_replayed_19, w_L_replayed_23, w_L_replayed_25, h0, bco, eob_at, hC, bck_i, Nat.reduceAdd, il_0, hO, epl_o]
theorem lx_replayed_2 (h0 : hget H 0 = some (bco sv lr le)) (hC : ∀ Q, Call d m_X7_replayed [.ref 0, .int i1, .int i2, .int i3, .int i4] H Q = Q (.inr 2) K) : ∀ Q, Call (d + 1) m_L_replayed [.ref 0, .int i1, .int i2, .int i3, .int i4, .ref 117] H Q = Q (.inl (some (.int (iI 1)))) K := by
  intro Q
  rw [c_L_replayed, w_L_replayed_0, h0, bco, eob_at, hC, bck_catch (a := 19) (k := 6) (by decide +kernel) (by decide +kernel) (by decide +kernel) (Nat.le_of_ble_eq_true rfl)]
  exact (w_L_replayed_19 (l0 := .ref 0)).trans (by rw [il_1])
theorem lx_replayed_0 (h0 : hget H 0 = some (bco sv lr le)) (hC : ∀ Q, Call d m_X7_replayed [.ref 0, .int i1, .int i2, .int i3, .int i4] H Q = Q (.inr 0) K) : ∀ Q, Call (d + 1) m_L_replayed [.ref 0, .int i1, .int i2, .int i3, .int i4, .ref 117] H Q = Q (.inl (some (.int (iI 2)))) K := by
  intro Q
  rw [c_L_replayed, w_L_replayed_0, h0, bco, eob_at, hC, bck_catch (a := 23) (k := 6) (by decide +kernel) (by decide +kernel) (by decide +kernel) (Nat.le_of_ble_eq_true rfl)]
  exact (w_L_replayed_23 (l0 := .ref 0)).trans (by rw [il_2])
theorem lo_meanArea (h0 : hget H 0 = some (bco sv lr le)) (hO : hget K 118 = some (oda g2)) (hC : ∀ Q, Call d m_X7_meanArea [.ref 0, .int i1] H Q = Q (.inl (some (.double w))) K) : ∀ Q, Call (d + 1) m_L_meanArea [.ref 0, .int i1, .ref 118] H Q = Q (.inl (some (.int (iI 0)))) (hset K 118 (oda (vf_upd g2 (iI 0).toNatClampNeg w))) := by
  intro Q
  rw [c_L_meanArea]
  simp only [w_L_meanArea_0, w_L_meanArea_7, w_L_meanArea_8, w_L_meanArea_12, w_L_meanArea_15, w_L_meanArea_17, h0, bco, eob_at, hC, bck_i, Nat.reduceAdd, il_0, hO, epd_o]
theorem lx_meanArea_0 (h0 : hget H 0 = some (bco sv lr le)) (hC : ∀ Q, Call d m_X7_meanArea [.ref 0, .int i1] H Q = Q (.inr 0) K) : ∀ Q, Call (d + 1) m_L_meanArea [.ref 0, .int i1, .ref 118] H Q = Q (.inl (some (.int (iI 1)))) K := by
  intro Q
  rw [c_L_meanArea, w_L_meanArea_0, h0, bco, eob_at, hC, bck_catch (a := 12) (k := 3) (by decide +kernel) (by decide +kernel) (by decide +kernel) (Nat.le_of_ble_eq_true rfl)]
  exact (w_L_meanArea_12 (l0 := .ref 0)).trans (by rw [il_1])
theorem lx_meanArea_5 (h0 : hget H 0 = some (bco sv lr le)) (hC : ∀ Q, Call d m_X7_meanArea [.ref 0, .int i1] H Q = Q (.inr 5) K) : ∀ Q, Call (d + 1) m_L_meanArea [.ref 0, .int i1, .ref 118] H Q = Q (.inl (some (.int (iI 2)))) K := by
  intro Q
  rw [c_L_meanArea, w_L_meanArea_0, h0, bco, eob_at, hC, bck_catch (a := 15) (k := 3) (by decide +kernel) (by decide +kernel) (by decide +kernel) (Nat.le_of_ble_eq_true rfl)]
  exact (w_L_meanArea_15 (l0 := .ref 0)).trans (by rw [il_2])
theorem lo_check (h0 : hget H 0 = some (bco sv lr le)) (hO : hget K 117 = some (ola g)) (hC : ∀ Q, Call d m_X7_check [.ref 0, .int i1] H Q = Q (.inl (some (.int (iI v)))) K) : ∀ Q, Call (d + 1) m_L_check [.ref 0, .int i1, .ref 117] H Q = Q (.inl (some (.int (iI 0)))) (hset K 117 (ola (vp_updL g (iI 0).toNatClampNeg (iI v).toInt64))) := by
  intro Q
  rw [c_L_check]
  simp only [w_L_check_0, w_L_check_7, w_L_check_9, w_L_check_13, w_L_check_15, h0, bco, eob_at, hC, bck_i, Nat.reduceAdd, il_0, hO, epl_o]
theorem lx_check_0 (h0 : hget H 0 = some (bco sv lr le)) (hC : ∀ Q, Call d m_X7_check [.ref 0, .int i1] H Q = Q (.inr 0) K) : ∀ Q, Call (d + 1) m_L_check [.ref 0, .int i1, .ref 117] H Q = Q (.inl (some (.int (iI 1)))) K := by
  intro Q
  rw [c_L_check, w_L_check_0, h0, bco, eob_at, hC, bck_catch (a := 13) (k := 3) (by decide +kernel) (by decide +kernel) (by decide +kernel) (Nat.le_of_ble_eq_true rfl)]
  exact (w_L_check_13 (l0 := .ref 0)).trans (by rw [il_1])
theorem lo_feed (h0 : hget H 0 = some (bco sv lr le)) (hO : hget K 117 = some (ola g)) (hC : ∀ Q, Call d m_X7_feed [.ref 0, .int i1] H Q = Q (.inl (some (.int (iI v)))) K) : ∀ Q, Call (d + 1) m_L_feed [.ref 0, .int i1, .ref 117] H Q = Q (.inl (some (.int (iI 0)))) (hset K 117 (ola (vp_updL g (iI 0).toNatClampNeg (iI v).toInt64))) := by
  intro Q
  rw [c_L_feed]
  simp only [w_L_feed_0, w_L_feed_7, w_L_feed_9, w_L_feed_13, w_L_feed_15, h0, bco, eob_at, hC, bck_i, Nat.reduceAdd, il_0, hO, epl_o]
theorem lx_feed_1 (h0 : hget H 0 = some (bco sv lr le)) (hC : ∀ Q, Call d m_X7_feed [.ref 0, .int i1] H Q = Q (.inr 1) K) : ∀ Q, Call (d + 1) m_L_feed [.ref 0, .int i1, .ref 117] H Q = Q (.inl (some (.int (iI 1)))) K := by
  intro Q
  rw [c_L_feed, w_L_feed_0, h0, bco, eob_at, hC, bck_catch (a := 13) (k := 3) (by decide +kernel) (by decide +kernel) (by decide +kernel) (Nat.le_of_ble_eq_true rfl)]
  exact (w_L_feed_13 (l0 := .ref 0)).trans (by rw [il_1])
theorem lo_errorPosition (h0 : hget H 0 = some (bco sv lr le)) (hO : hget K 117 = some (ola g)) (hC : ∀ Q, Call d m_X7_errorPosition [.ref 0] H Q = Q (.inl (some (.int (iI v)))) K) : ∀ Q, Call (d + 1) m_L_errorPosition [.ref 0, .ref 117] H Q = Q (.inl (some (.int (iI 0)))) (hset K 117 (ola (vp_updL g (iI 0).toNatClampNeg (iI v).toInt64))) := by
  intro Q
  rw [c_L_errorPosition]
  simp only [w_L_errorPosition_0, w_L_errorPosition_6, w_L_errorPosition_8, w_L_errorPosition_12, w_L_errorPosition_14, h0, bco, eob_at, hC, bck_i, Nat.reduceAdd, il_0, hO, epl_o]
theorem lx_errorPosition_3 (h0 : hget H 0 = some (bco sv lr le)) (hC : ∀ Q, Call d m_X7_errorPosition [.ref 0] H Q = Q (.inr 3) K) : ∀ Q, Call (d + 1) m_L_errorPosition [.ref 0, .ref 117] H Q = Q (.inl (some (.int (iI 1)))) K := by
  intro Q
  rw [c_L_errorPosition, w_L_errorPosition_0, h0, bco, eob_at, hC, bck_catch (a := 12) (k := 2) (by decide +kernel) (by decide +kernel) (by decide +kernel) (Nat.le_of_ble_eq_true rfl)]
  exact (w_L_errorPosition_12 (l0 := .ref 0)).trans (by rw [il_1])
theorem lo_total (h0 : hget H 0 = some (bco sv lr le)) (hO : hget K 117 = some (ola g)) (hC : ∀ Q, Call d m_X7_total [.ref 0, .int i1] H Q = Q (.inl (some (.int (iI v)))) K) : ∀ Q, Call (d + 1) m_L_total [.ref 0, .int i1, .ref 117] H Q = Q (.inl (some (.int (iI 0)))) (hset K 117 (ola (vp_updL g (iI 0).toNatClampNeg (iI v).toInt64))) := by
  intro Q
  rw [c_L_total]
  simp only [w_L_total_0, w_L_total_7, w_L_total_9, w_L_total_13, w_L_total_15, h0, bco, eob_at, hC, bck_i, Nat.reduceAdd, il_0, hO, epl_o]
theorem lx_total_0 (h0 : hget H 0 = some (bco sv lr le)) (hC : ∀ Q, Call d m_X7_total [.ref 0, .int i1] H Q = Q (.inr 0) K) : ∀ Q, Call (d + 1) m_L_total [.ref 0, .int i1, .ref 117] H Q = Q (.inl (some (.int (iI 1)))) K := by
  intro Q
  rw [c_L_total, w_L_total_0, h0, bco, eob_at, hC, bck_catch (a := 13) (k := 3) (by decide +kernel) (by decide +kernel) (by decide +kernel) (Nat.le_of_ble_eq_true rfl)]
  exact (w_L_total_13 (l0 := .ref 0)).trans (by rw [il_1])
theorem lo_undo (h0 : hget H 0 = some (bco sv lr le)) (hO : hget K 117 = some (ola g)) (hC : ∀ Q, Call d m_X7_undo [.ref 0] H Q = Q (.inl (some (.int (iI v)))) K) : ∀ Q, Call (d + 1) m_L_undo [.ref 0, .ref 117] H Q = Q (.inl (some (.int (iI 0)))) (hset K 117 (ola (vp_updL g (iI 0).toNatClampNeg (iI v).toInt64))) := by
  intro Q
  rw [c_L_undo]
  simp only [w_L_undo_0, w_L_undo_6, w_L_undo_8, w_L_undo_12, w_L_undo_14, h0, bco, eob_at, hC, bck_i, Nat.reduceAdd, il_0, hO, epl_o]
theorem lx_undo_1 (h0 : hget H 0 = some (bco sv lr le)) (hC : ∀ Q, Call d m_X7_undo [.ref 0] H Q = Q (.inr 1) K) : ∀ Q, Call (d + 1) m_L_undo [.ref 0, .ref 117] H Q = Q (.inl (some (.int (iI 1)))) K := by
  intro Q
  rw [c_L_undo, w_L_undo_0, h0, bco, eob_at, hC, bck_catch (a := 12) (k := 2) (by decide +kernel) (by decide +kernel) (by decide +kernel) (Nat.le_of_ble_eq_true rfl)]
  exact (w_L_undo_12 (l0 := .ref 0)).trans (by rw [il_1])
theorem lo_restore (h0 : hget H 0 = some (bco sv lr le)) (hO : hget K 117 = some (ola g)) (hC : ∀ Q, Call d m_X7_restore [.ref 0] H Q = Q (.inl (some (.int (iI v)))) K) : ∀ Q, Call (d + 1) m_L_restore [.ref 0, .ref 117] H Q = Q (.inl (some (.int (iI 0)))) (hset K 117 (ola (vp_updL g (iI 0).toNatClampNeg (iI v).toInt64))) := by
  intro Q
  rw [c_L_restore]
  simp only [w_L_restore_0, w_L_restore_6, w_L_restore_8, w_L_restore_12, w_L_restore_14, h0, bco, eob_at, hC, bck_i, Nat.reduceAdd, il_0, hO, epl_o]
theorem lx_restore_1 (h0 : hget H 0 = some (bco sv lr le)) (hC : ∀ Q, Call d m_X7_restore [.ref 0] H Q = Q (.inr 1) K) : ∀ Q, Call (d + 1) m_L_restore [.ref 0, .ref 117] H Q = Q (.inl (some (.int (iI 1)))) K := by
  intro Q
  rw [c_L_restore, w_L_restore_0, h0, bco, eob_at, hC, bck_catch (a := 12) (k := 2) (by decide +kernel) (by decide +kernel) (by decide +kernel) (Nat.le_of_ble_eq_true rfl)]
  exact (w_L_restore_12 (l0 := .ref 0)).trans (by rw [il_1])
end Lh
