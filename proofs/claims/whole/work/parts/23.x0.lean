theorem w_X0_formOf_0 {d : Nat} {h : XH} {Q : XO → XH → Prop} {i0 : Int32}  : EvQ d m_X0_formOf 0 [.int i0] [] h Q = (if i0 = 0 then EvQ d m_X0_formOf 40 [.int i0] [] h Q else if i0 = 1 then EvQ d m_X0_formOf 43 [.int i0] [] h Q else if i0 = 2 then EvQ d m_X0_formOf 46 [.int i0] [] h Q else if i0 = 3 then EvQ d m_X0_formOf 49 [.int i0] [] h Q else if i0 = 4 then EvQ d m_X0_formOf 52 [.int i0] [] h Q else if i0 = 5 then EvQ d m_X0_formOf 55 [.int i0] [] h Q else EvQ d m_X0_formOf 58 [.int i0] [] h Q) := by
  refine (f_iload_n rfl rfl).trans <| ?_
  rw [evq (i := .tableswitch 57 0 5 #[39, 42, 45, 48, 51, 54]) (n := 39) rfl]
  by_cases q0 : i0 = 0
  · rw [if_pos q0, q0]; rfl
  rw [if_neg q0]
  by_cases q1 : i0 = 1
  · rw [if_pos q1, q1]; rfl
  rw [if_neg q1]
  by_cases q2 : i0 = 2
  · rw [if_pos q2, q2]; rfl
  rw [if_neg q2]
  by_cases q3 : i0 = 3
  · rw [if_pos q3, q3]; rfl
  rw [if_neg q3]
  by_cases q4 : i0 = 4
  · rw [if_pos q4, q4]; rfl
  rw [if_neg q4]
  by_cases q5 : i0 = 5
  · rw [if_pos q5, q5]; rfl
  rw [if_neg q5]
  have e0 : (i0 : Int32).toInt ≠ 0 := fun z => q0 (Int32.toInt_inj.mp z)
  have e1 : (i0 : Int32).toInt ≠ 1 := fun z => q1 (Int32.toInt_inj.mp z)
  have e2 : (i0 : Int32).toInt ≠ 2 := fun z => q2 (Int32.toInt_inj.mp z)
  have e3 : (i0 : Int32).toInt ≠ 3 := fun z => q3 (Int32.toInt_inj.mp z)
  have e4 : (i0 : Int32).toInt ≠ 4 := fun z => q4 (Int32.toInt_inj.mp z)
  have e5 : (i0 : Int32).toInt ≠ 5 := fun z => q5 (Int32.toInt_inj.mp z)
  exact aft_ite.trans (if_pos (by omega))
theorem w_X0_formOf_40 {d : Nat} {h : XH} {Q : XO → XH → Prop} {i0 : Int32}  : EvQ d m_X0_formOf 40 [.int i0] [] h Q = (Q (.inl (some (.ref (1000000 + 0)))) h) := (f_ldc (j := 0) rfl u_sT_12009 rfl).trans (f_areturn rfl rfl)
theorem w_X0_formOf_43 {d : Nat} {h : XH} {Q : XO → XH → Prop} {i0 : Int32}  : EvQ d m_X0_formOf 43 [.int i0] [] h Q = (Q (.inl (some (.ref (1000000 + 1)))) h) := (f_ldc (j := 1) rfl u_sT_12011 rfl).trans (f_areturn rfl rfl)
theorem w_X0_formOf_46 {d : Nat} {h : XH} {Q : XO → XH → Prop} {i0 : Int32}  : EvQ d m_X0_formOf 46 [.int i0] [] h Q = (Q (.inl (some (.ref (1000000 + 2)))) h) := (f_ldc (j := 2) rfl u_sT_12013 rfl).trans (f_areturn rfl rfl)
theorem w_X0_formOf_49 {d : Nat} {h : XH} {Q : XO → XH → Prop} {i0 : Int32}  : EvQ d m_X0_formOf 49 [.int i0] [] h Q = (Q (.inl (some (.ref (1000000 + 3)))) h) := (f_ldc (j := 3) rfl u_sT_12015 rfl).trans (f_areturn rfl rfl)
theorem w_X0_formOf_52 {d : Nat} {h : XH} {Q : XO → XH → Prop} {i0 : Int32}  : EvQ d m_X0_formOf 52 [.int i0] [] h Q = (Q (.inl (some (.ref (1000000 + 4)))) h) := (f_ldc (j := 4) rfl u_sT_12017 rfl).trans (f_areturn rfl rfl)
theorem w_X0_formOf_55 {d : Nat} {h : XH} {Q : XO → XH → Prop} {i0 : Int32}  : EvQ d m_X0_formOf 55 [.int i0] [] h Q = (Q (.inl (some (.ref (1000000 + 5)))) h) := (f_ldc (j := 5) rfl u_sT_12019 rfl).trans (f_areturn rfl rfl)
theorem w_X0_formOf_58 {d : Nat} {h : XH} {Q : XO → XH → Prop} {i0 : Int32}  : EvQ d m_X0_formOf 58 [.int i0] [] h Q = (Q (.inl (some (.ref (1000000 + 6)))) h) := (f_ldc (j := 6) rfl u_sT_12021 rfl).trans (f_areturn rfl rfl)
theorem c_X0_formOf {d : Nat} {h : XH} {Q : XO → XH → Prop} {i0 : Int32} : Call d m_X0_formOf [.int i0] h Q = EvQ d m_X0_formOf 0 [.int i0] [] h Q := rfl
theorem w_X0_kindOf_0 {d : Nat} {h : XH} {Q : XO → XH → Prop} {i0 : Int32}  : EvQ d m_X0_kindOf 0 [.int i0, xjunk, xjunk] [] h Q = (EvQ d m_X0_kindOf 2 [.int i0, .int 0, xjunk] [] h Q) := (f_iconst rfl ci_0).trans (f_istore_n rfl (by decide) rfl)
theorem w_X0_kindOf_2 {d : Nat} {h : XH} {Q : XO → XH → Prop} {i0 i1 : Int32} {l2 : Value}  : EvQ d m_X0_kindOf 2 [.int i0, .int i1, l2] [] h Q = (if 6 ≤ i1 then EvQ d m_X0_kindOf 37 [.int i0, .int i1, l2] [] h Q else EvQ d m_X0_kindOf 8 [.int i0, .int i1, l2] [] h Q) := (f_iload_n rfl rfl).trans ((f_bipush rfl cb_6).trans (f_icmp (c := .ge) (q := 37) rfl rfl))
theorem w_X0_kindOf_8 {d : Nat} {h : XH} {Q : XO → XH → Prop} {i0 i1 : Int32} {l2 : Value}  : EvQ (d + 1) m_X0_kindOf 8 [.int i0, .int i1, l2] [] h Q = (Call d m_X0_formOf [.int i1] h (Bck (d + 1) m_X0_kindOf m_X0_formOf 9 [.int i0, .int i1, l2] [] Q)) := (f_iload_n rfl rfl).trans (f_static (M' := m_X0_formOf) rfl u_pn_12023 u_mT_12023 rfl rfl ⟨rfl, rfl, Nat.le_of_ble_eq_true rfl⟩)
theorem w_X0_kindOf_12 {d : Nat} {h : XH} {Q : XO → XH → Prop} {i0 i1 : Int32} {l2 : Value} {js : Nat} (hj : js < 7) : EvQ d m_X0_kindOf 12 [.int i0, .int i1, l2] [.ref (1000000 + js)] h Q = (EvQ d m_X0_kindOf 17 [.int i0, .int i1, .ref (1000000 + js)] [.int 0] h Q) := (f_astore_n rfl (by decide) rfl).trans ((f_aload_n rfl rfl).trans (f_sempty rfl u_pT_12029 rfl hj))
theorem w_X0_kindOf_17 {d : Nat} {h : XH} {Q : XO → XH → Prop} {i0 i1 s0 : Int32} {a2 : Nat}  : EvQ d m_X0_kindOf 17 [.int i0, .int i1, .ref a2] [.int s0] h Q = (if s0 ≠ 0 then EvQ d m_X0_kindOf 31 [.int i0, .int i1, .ref a2] [] h Q else EvQ d m_X0_kindOf 20 [.int i0, .int i1, .ref a2] [] h Q) := f_if (c := .ne) (q := 31) rfl rfl
theorem w_X0_kindOf_20 {d : Nat} {h : XH} {Q : XO → XH → Prop} {i0 i1 : Int32} {js : Nat} (hj : js < 7) : EvQ d m_X0_kindOf 20 [.int i0, .int i1, .ref (1000000 + js)] [] h Q = (if 0 < 0 ∨ (xstr js).length ≤ (0 : Int32).toNatClampNeg then False else EvQ d m_X0_kindOf 25 [.int i0, .int i1, .ref (1000000 + js)] [.int (Int32.ofNat ((xstr js).getD (0 : Int32).toNatClampNeg 0))] h Q) := (f_aload_n rfl rfl).trans ((f_iconst rfl ci_0).trans (f_charAt rfl u_pT_12035 rfl hj))
theorem w_X0_kindOf_25 {d : Nat} {h : XH} {Q : XO → XH → Prop} {i0 i1 s0 : Int32} {a2 : Nat}  : EvQ d m_X0_kindOf 25 [.int i0, .int i1, .ref a2] [.int s0] h Q = (if s0 ≠ i0 then EvQ d m_X0_kindOf 31 [.int i0, .int i1, .ref a2] [] h Q else EvQ d m_X0_kindOf 29 [.int i0, .int i1, .ref a2] [] h Q) := (f_iload_n rfl rfl).trans (f_icmp (c := .ne) (q := 31) rfl rfl)
theorem w_X0_kindOf_29 {d : Nat} {h : XH} {Q : XO → XH → Prop} {i0 i1 : Int32} {a2 : Nat}  : EvQ d m_X0_kindOf 29 [.int i0, .int i1, .ref a2] [] h Q = (Q (.inl (some (.int i1))) h) := (f_iload_n rfl rfl).trans (f_ireturn rfl rfl)
theorem w_X0_kindOf_31 {d : Nat} {h : XH} {Q : XO → XH → Prop} {i0 i1 : Int32} {a2 : Nat}  : EvQ d m_X0_kindOf 31 [.int i0, .int i1, .ref a2] [] h Q = (EvQ d m_X0_kindOf 2 [.int i0, .int (i1 + 1), .ref a2] [] h Q) := (f_iinc rfl rfl ci_1 rfl).trans (f_goto (q := 2) rfl rfl)
theorem w_X0_kindOf_37 {d : Nat} {h : XH} {Q : XO → XH → Prop} {i0 i1 : Int32} {l2 : Value}  : EvQ d m_X0_kindOf 37 [.int i0, .int i1, l2] [] h Q = (Q (.inl (some (.int (-1)))) h) := (f_iconst rfl ci_m1).trans (f_ireturn rfl rfl)
theorem c_X0_kindOf {d : Nat} {h : XH} {Q : XO → XH → Prop} {i0 : Int32} : Call d m_X0_kindOf [.int i0] h Q = EvQ d m_X0_kindOf 0 [.int i0, xjunk, xjunk] [] h Q := rfl
theorem w_X0_isNumber_0 {d : Nat} {h : XH} {Q : XO → XH → Prop} {i0 : Int32}  : EvQ d m_X0_isNumber 0 [.int i0] [] h Q = (if i0 = 35 then EvQ d m_X0_isNumber 30 [.int i0] [] h Q else EvQ d m_X0_isNumber 6 [.int i0] [] h Q) := (f_iload_n rfl rfl).trans ((f_bipush rfl cb_35).trans (f_icmp (c := .eq) (q := 30) rfl rfl))
theorem w_X0_isNumber_6 {d : Nat} {h : XH} {Q : XO → XH → Prop} {i0 : Int32}  : EvQ d m_X0_isNumber 6 [.int i0] [] h Q = (if i0 = 78 then EvQ d m_X0_isNumber 30 [.int i0] [] h Q else EvQ d m_X0_isNumber 12 [.int i0] [] h Q) := (f_iload_n rfl rfl).trans ((f_bipush rfl cb_78).trans (f_icmp (c := .eq) (q := 30) rfl rfl))
theorem w_X0_isNumber_12 {d : Nat} {h : XH} {Q : XO → XH → Prop} {i0 : Int32}  : EvQ d m_X0_isNumber 12 [.int i0] [] h Q = (if i0 = 65 then EvQ d m_X0_isNumber 30 [.int i0] [] h Q else EvQ d m_X0_isNumber 18 [.int i0] [] h Q) := (f_iload_n rfl rfl).trans ((f_bipush rfl cb_65).trans (f_icmp (c := .eq) (q := 30) rfl rfl))
theorem w_X0_isNumber_18 {d : Nat} {h : XH} {Q : XO → XH → Prop} {i0 : Int32}  : EvQ d m_X0_isNumber 18 [.int i0] [] h Q = (if i0 = 70 then EvQ d m_X0_isNumber 30 [.int i0] [] h Q else EvQ d m_X0_isNumber 24 [.int i0] [] h Q) := (f_iload_n rfl rfl).trans ((f_bipush rfl cb_70).trans (f_icmp (c := .eq) (q := 30) rfl rfl))
theorem w_X0_isNumber_24 {d : Nat} {h : XH} {Q : XO → XH → Prop} {i0 : Int32}  : EvQ d m_X0_isNumber 24 [.int i0] [] h Q = (if i0 ≠ 64 then EvQ d m_X0_isNumber 34 [.int i0] [] h Q else EvQ d m_X0_isNumber 30 [.int i0] [] h Q) := (f_iload_n rfl rfl).trans ((f_bipush rfl cb_64).trans (f_icmp (c := .ne) (q := 34) rfl rfl))
theorem w_X0_isNumber_30 {d : Nat} {h : XH} {Q : XO → XH → Prop} {i0 : Int32}  : EvQ d m_X0_isNumber 30 [.int i0] [] h Q = (EvQ d m_X0_isNumber 35 [.int i0] [.int 1] h Q) := (f_iconst rfl ci_1).trans (f_goto (q := 35) rfl rfl)
theorem w_X0_isNumber_34 {d : Nat} {h : XH} {Q : XO → XH → Prop} {i0 : Int32}  : EvQ d m_X0_isNumber 34 [.int i0] [] h Q = (EvQ d m_X0_isNumber 35 [.int i0] [.int 0] h Q) := f_iconst rfl ci_0
theorem w_X0_isNumber_35 {d : Nat} {h : XH} {Q : XO → XH → Prop} {i0 s0 : Int32}  : EvQ d m_X0_isNumber 35 [.int i0] [.int s0] h Q = (if s0 = 0 ∨ s0 = 1 then Q (.inl (some (.int s0))) h else False) := f_zreturn rfl rfl
theorem c_X0_isNumber {d : Nat} {h : XH} {Q : XO → XH → Prop} {i0 : Int32} : Call d m_X0_isNumber [.int i0] h Q = EvQ d m_X0_isNumber 0 [.int i0] [] h Q := rfl
theorem w_X0_isInRange_0 {d : Nat} {h : XH} {Q : XO → XH → Prop} {a0 : Nat} {i1 : Int32}  : EvQ (d + 1) m_X0_isInRange 0 [.ref a0, .int i1, xjunk, xjunk, xjunk, xjunk, xjunk, xjunk] [] h Q = (eob (hget h a0) 6 (Call d m_X5_get [.ref a0, .int i1, .int 0] h (Bck (d + 1) m_X0_isInRange m_X5_get 3 [.ref a0, .int i1, xjunk, xjunk, xjunk, xjunk, xjunk, xjunk] [] Q))) := (f_aload_n rfl rfl).trans ((f_iload_n rfl rfl).trans ((f_iconst rfl ci_0).trans (f_virtual (M' := m_X5_get) rfl u_pn_12039 u_mT_12039 rfl rfl ⟨rfl, rfl, Nat.le_of_ble_eq_true rfl⟩)))
theorem w_X0_isInRange_6 {d : Nat} {h : XH} {Q : XO → XH → Prop} {a0 : Nat} {i1 s0 : Int32}  : EvQ d m_X0_isInRange 6 [.ref a0, .int i1, xjunk, xjunk, xjunk, xjunk, xjunk, xjunk] [.int s0] h Q = (if s0 < 0 then EvQ d m_X0_isInRange 17 [.ref a0, .int i1, .int s0, xjunk, xjunk, xjunk, xjunk, xjunk] [] h Q else EvQ d m_X0_isInRange 11 [.ref a0, .int i1, .int s0, xjunk, xjunk, xjunk, xjunk, xjunk] [] h Q) := (f_istore_n rfl (by decide) rfl).trans ((f_iload_n rfl rfl).trans (f_if (c := .lt) (q := 17) rfl rfl))
theorem w_X0_isInRange_11 {d : Nat} {h : XH} {Q : XO → XH → Prop} {a0 : Nat} {i1 i2 : Int32}  : EvQ d m_X0_isInRange 11 [.ref a0, .int i1, .int i2, xjunk, xjunk, xjunk, xjunk, xjunk] [] h Q = (if i2 < 6 then EvQ d m_X0_isInRange 19 [.ref a0, .int i1, .int i2, xjunk, xjunk, xjunk, xjunk, xjunk] [] h Q else EvQ d m_X0_isInRange 17 [.ref a0, .int i1, .int i2, xjunk, xjunk, xjunk, xjunk, xjunk] [] h Q) := (f_iload_n rfl rfl).trans ((f_bipush rfl cb_6).trans (f_icmp (c := .lt) (q := 19) rfl rfl))
theorem w_X0_isInRange_17 {d : Nat} {h : XH} {Q : XO → XH → Prop} {a0 : Nat} {i1 i2 : Int32}  : EvQ d m_X0_isInRange 17 [.ref a0, .int i1, .int i2, xjunk, xjunk, xjunk, xjunk, xjunk] [] h Q = (Q (.inl (some (.int 0))) h) := (f_iconst rfl ci_0).trans (((f_zreturn rfl rfl).trans (if_pos (by decide))))
theorem w_X0_isInRange_19 {d : Nat} {h : XH} {Q : XO → XH → Prop} {a0 : Nat} {i1 i2 : Int32}  : EvQ (d + 1) m_X0_isInRange 19 [.ref a0, .int i1, .int i2, xjunk, xjunk, xjunk, xjunk, xjunk] [] h Q = (Call d m_X0_formOf [.int i2] h (Bck (d + 1) m_X0_isInRange m_X0_formOf 20 [.ref a0, .int i1, .int i2, xjunk, xjunk, xjunk, xjunk, xjunk] [] Q)) := (f_iload_n rfl rfl).trans (f_static (M' := m_X0_formOf) rfl u_pn_12023 u_mT_12023 rfl rfl ⟨rfl, rfl, Nat.le_of_ble_eq_true rfl⟩)
theorem w_X0_isInRange_23 {d : Nat} {h : XH} {Q : XO → XH → Prop} {a0 s0 : Nat} {i1 i2 : Int32}  : EvQ d m_X0_isInRange 23 [.ref a0, .int i1, .int i2, xjunk, xjunk, xjunk, xjunk, xjunk] [.ref s0] h Q = (EvQ d m_X0_isInRange 30 [.ref a0, .int i1, .int i2, .ref s0, .int 1, .int 0, xjunk, xjunk] [] h Q) := (f_astore_n rfl (by decide) rfl).trans ((f_iconst rfl ci_1).trans ((f_istore rfl (by decide) rfl).trans ((f_iconst rfl ci_0).trans (f_istore rfl (by decide) rfl))))
theorem w_X0_isInRange_30 {d : Nat} {h : XH} {Q : XO → XH → Prop} {a0 js : Nat} {i1 i2 i4 i5 : Int32} {l6 l7 : Value} (hj : js < 7) : EvQ d m_X0_isInRange 30 [.ref a0, .int i1, .int i2, .ref (1000000 + js), .int i4, .int i5, l6, l7] [] h Q = (EvQ d m_X0_isInRange 36 [.ref a0, .int i1, .int i2, .ref (1000000 + js), .int i4, .int i5, l6, l7] [.int (Int32.ofNat (xstr js).length), .int i5] h Q) := (f_iload rfl rfl).trans ((f_aload_n rfl rfl).trans (f_slen rfl u_pT_12045 rfl hj))
theorem w_X0_isInRange_36 {d : Nat} {h : XH} {Q : XO → XH → Prop} {a0 a3 : Nat} {i1 i2 i4 i5 s0 s1 : Int32} {l6 l7 : Value}  : EvQ d m_X0_isInRange 36 [.ref a0, .int i1, .int i2, .ref a3, .int i4, .int i5, l6, l7] [.int s0, .int s1] h Q = (if s0 ≤ s1 then EvQ d m_X0_isInRange 95 [.ref a0, .int i1, .int i2, .ref a3, .int i4, .int i5, l6, l7] [] h Q else EvQ d m_X0_isInRange 39 [.ref a0, .int i1, .int i2, .ref a3, .int i4, .int i5, l6, l7] [] h Q) := f_icmp (c := .ge) (q := 95) rfl rfl
theorem w_X0_isInRange_39 {d : Nat} {h : XH} {Q : XO → XH → Prop} {a0 js : Nat} {i1 i2 i4 i5 : Int32} {l6 l7 : Value} (hj : js < 7) : EvQ d m_X0_isInRange 39 [.ref a0, .int i1, .int i2, .ref (1000000 + js), .int i4, .int i5, l6, l7] [] h Q = (if i5 < 0 ∨ (xstr js).length ≤ (i5 : Int32).toNatClampNeg then False else EvQ d m_X0_isInRange 45 [.ref a0, .int i1, .int i2, .ref (1000000 + js), .int i4, .int i5, l6, l7] [.int (Int32.ofNat ((xstr js).getD (i5 : Int32).toNatClampNeg 0))] h Q) := (f_aload_n rfl rfl).trans ((f_iload rfl rfl).trans (f_charAt rfl u_pT_12035 rfl hj))
theorem w_X0_isInRange_45 {d : Nat} {h : XH} {Q : XO → XH → Prop} {a0 a3 : Nat} {i1 i2 i4 i5 s0 : Int32} {l6 l7 : Value}  : EvQ (d + 1) m_X0_isInRange 45 [.ref a0, .int i1, .int i2, .ref a3, .int i4, .int i5, l6, l7] [.int s0] h Q = (Call d m_X0_isNumber [.int s0] h (Bck (d + 1) m_X0_isInRange m_X0_isNumber 49 [.ref a0, .int i1, .int i2, .ref a3, .int i4, .int i5, .int s0, l7] [] Q)) := (f_istore rfl (by decide) rfl).trans ((f_iload rfl rfl).trans (f_static (M' := m_X0_isNumber) rfl u_pn_12049 u_mT_12049 rfl rfl ⟨rfl, rfl, Nat.le_of_ble_eq_true rfl⟩))
theorem w_X0_isInRange_52 {d : Nat} {h : XH} {Q : XO → XH → Prop} {a0 a3 : Nat} {i1 i2 i4 i5 i6 s0 : Int32} {l7 : Value}  : EvQ d m_X0_isInRange 52 [.ref a0, .int i1, .int i2, .ref a3, .int i4, .int i5, .int i6, l7] [.int s0] h Q = (if s0 = 0 then EvQ d m_X0_isInRange 89 [.ref a0, .int i1, .int i2, .ref a3, .int i4, .int i5, .int i6, l7] [] h Q else EvQ d m_X0_isInRange 55 [.ref a0, .int i1, .int i2, .ref a3, .int i4, .int i5, .int i6, l7] [] h Q) := f_if (c := .eq) (q := 89) rfl rfl
theorem w_X0_isInRange_55 {d : Nat} {h : XH} {Q : XO → XH → Prop} {a0 a3 : Nat} {i1 i2 i4 i5 i6 : Int32} {l7 : Value}  : EvQ (d + 1) m_X0_isInRange 55 [.ref a0, .int i1, .int i2, .ref a3, .int i4, .int i5, .int i6, l7] [] h Q = (eob (hget h a0) 6 (Call d m_X5_get [.ref a0, .int i1, .int i4] h (Bck (d + 1) m_X0_isInRange m_X5_get 59 [.ref a0, .int i1, .int i2, .ref a3, .int i4, .int i5, .int i6, l7] [] Q))) := (f_aload_n rfl rfl).trans ((f_iload_n rfl rfl).trans ((f_iload rfl rfl).trans (f_virtual (M' := m_X5_get) rfl u_pn_12039 u_mT_12039 rfl rfl ⟨rfl, rfl, Nat.le_of_ble_eq_true rfl⟩)))
theorem w_X0_isInRange_62 {d : Nat} {h : XH} {Q : XO → XH → Prop} {a0 a3 : Nat} {i1 i2 i4 i5 i6 s0 : Int32} {l7 : Value}  : EvQ (d + 1) m_X0_isInRange 62 [.ref a0, .int i1, .int i2, .ref a3, .int i4, .int i5, .int i6, l7] [.int s0] h Q = (Call d m_X0_lowest [.int i6] h (Bck (d + 1) m_X0_isInRange m_X0_lowest 68 [.ref a0, .int i1, .int i2, .ref a3, .int i4, .int i5, .int i6, .int s0] [.int s0] Q)) := (f_istore rfl (by decide) rfl).trans ((f_iload rfl rfl).trans ((f_iload rfl rfl).trans (f_static (M' := m_X0_lowest) rfl u_pn_12053 u_mT_12053 rfl rfl ⟨rfl, rfl, Nat.le_of_ble_eq_true rfl⟩)))
theorem w_X0_isInRange_71 {d : Nat} {h : XH} {Q : XO → XH → Prop} {a0 a3 : Nat} {i1 i2 i4 i5 i6 i7 s0 s1 : Int32}  : EvQ d m_X0_isInRange 71 [.ref a0, .int i1, .int i2, .ref a3, .int i4, .int i5, .int i6, .int i7] [.int s0, .int s1] h Q = (if s1 < s0 then EvQ d m_X0_isInRange 84 [.ref a0, .int i1, .int i2, .ref a3, .int i4, .int i5, .int i6, .int i7] [] h Q else EvQ d m_X0_isInRange 74 [.ref a0, .int i1, .int i2, .ref a3, .int i4, .int i5, .int i6, .int i7] [] h Q) := f_icmp (c := .lt) (q := 84) rfl rfl
theorem w_X0_isInRange_74 {d : Nat} {h : XH} {Q : XO → XH → Prop} {a0 a3 : Nat} {i1 i2 i4 i5 i6 i7 : Int32}  : EvQ (d + 1) m_X0_isInRange 74 [.ref a0, .int i1, .int i2, .ref a3, .int i4, .int i5, .int i6, .int i7] [] h Q = (Call d m_X0_highest [.int i6] h (Bck (d + 1) m_X0_isInRange m_X0_highest 78 [.ref a0, .int i1, .int i2, .ref a3, .int i4, .int i5, .int i6, .int i7] [.int i7] Q)) := (f_iload rfl rfl).trans ((f_iload rfl rfl).trans (f_static (M' := m_X0_highest) rfl u_pn_12057 u_mT_12057 rfl rfl ⟨rfl, rfl, Nat.le_of_ble_eq_true rfl⟩))
theorem w_X0_isInRange_81 {d : Nat} {h : XH} {Q : XO → XH → Prop} {a0 a3 : Nat} {i1 i2 i4 i5 i6 i7 s0 s1 : Int32}  : EvQ d m_X0_isInRange 81 [.ref a0, .int i1, .int i2, .ref a3, .int i4, .int i5, .int i6, .int i7] [.int s0, .int s1] h Q = (if s1 ≤ s0 then EvQ d m_X0_isInRange 86 [.ref a0, .int i1, .int i2, .ref a3, .int i4, .int i5, .int i6, .int i7] [] h Q else EvQ d m_X0_isInRange 84 [.ref a0, .int i1, .int i2, .ref a3, .int i4, .int i5, .int i6, .int i7] [] h Q) := f_icmp (c := .le) (q := 86) rfl rfl
theorem w_X0_isInRange_84 {d : Nat} {h : XH} {Q : XO → XH → Prop} {a0 a3 : Nat} {i1 i2 i4 i5 i6 i7 : Int32}  : EvQ d m_X0_isInRange 84 [.ref a0, .int i1, .int i2, .ref a3, .int i4, .int i5, .int i6, .int i7] [] h Q = (Q (.inl (some (.int 0))) h) := (f_iconst rfl ci_0).trans (((f_zreturn rfl rfl).trans (if_pos (by decide))))
theorem w_X0_isInRange_86 {d : Nat} {h : XH} {Q : XO → XH → Prop} {a0 a3 : Nat} {i1 i2 i4 i5 i6 i7 : Int32}  : EvQ d m_X0_isInRange 86 [.ref a0, .int i1, .int i2, .ref a3, .int i4, .int i5, .int i6, .int i7] [] h Q = (EvQ d m_X0_isInRange 89 [.ref a0, .int i1, .int i2, .ref a3, .int (i4 + 1), .int i5, .int i6, .int i7] [] h Q) := f_iinc rfl rfl ci_1 rfl
theorem w_X0_isInRange_89 {d : Nat} {h : XH} {Q : XO → XH → Prop} {a0 a3 : Nat} {i1 i2 i4 i5 i6 : Int32} {l7 : Value}  : EvQ d m_X0_isInRange 89 [.ref a0, .int i1, .int i2, .ref a3, .int i4, .int i5, .int i6, l7] [] h Q = (EvQ d m_X0_isInRange 30 [.ref a0, .int i1, .int i2, .ref a3, .int i4, .int (i5 + 1), .int i6, l7] [] h Q) := (f_iinc rfl rfl ci_1 rfl).trans (f_goto (q := 30) rfl rfl)
theorem w_X0_isInRange_95 {d : Nat} {h : XH} {Q : XO → XH → Prop} {a0 a3 : Nat} {i1 i2 i4 i5 : Int32} {l6 l7 : Value}  : EvQ d m_X0_isInRange 95 [.ref a0, .int i1, .int i2, .ref a3, .int i4, .int i5, l6, l7] [] h Q = (EvQ d m_X0_isInRange 99 [.ref a0, .int i1, .int i2, .ref a3, .int i4, .int i4, l6, l7] [] h Q) := (f_iload rfl rfl).trans (f_istore rfl (by decide) rfl)
theorem w_X0_isInRange_99 {d : Nat} {h : XH} {Q : XO → XH → Prop} {a0 a3 : Nat} {i1 i2 i4 i5 : Int32} {l6 l7 : Value}  : EvQ d m_X0_isInRange 99 [.ref a0, .int i1, .int i2, .ref a3, .int i4, .int i5, l6, l7] [] h Q = (if 4 < i5 then EvQ d m_X0_isInRange 123 [.ref a0, .int i1, .int i2, .ref a3, .int i4, .int i5, l6, l7] [] h Q else EvQ d m_X0_isInRange 105 [.ref a0, .int i1, .int i2, .ref a3, .int i4, .int i5, l6, l7] [] h Q) := (f_iload rfl rfl).trans ((f_iconst rfl ci_4).trans (f_icmp (c := .gt) (q := 123) rfl rfl))
theorem w_X0_isInRange_105 {d : Nat} {h : XH} {Q : XO → XH → Prop} {a0 a3 : Nat} {i1 i2 i4 i5 : Int32} {l6 l7 : Value}  : EvQ (d + 1) m_X0_isInRange 105 [.ref a0, .int i1, .int i2, .ref a3, .int i4, .int i5, l6, l7] [] h Q = (eob (hget h a0) 6 (Call d m_X5_get [.ref a0, .int i1, .int i5] h (Bck (d + 1) m_X0_isInRange m_X5_get 109 [.ref a0, .int i1, .int i2, .ref a3, .int i4, .int i5, l6, l7] [] Q))) := (f_aload_n rfl rfl).trans ((f_iload_n rfl rfl).trans ((f_iload rfl rfl).trans (f_virtual (M' := m_X5_get) rfl u_pn_12039 u_mT_12039 rfl rfl ⟨rfl, rfl, Nat.le_of_ble_eq_true rfl⟩)))
theorem w_X0_isInRange_112 {d : Nat} {h : XH} {Q : XO → XH → Prop} {a0 a3 : Nat} {i1 i2 i4 i5 s0 : Int32} {l6 l7 : Value}  : EvQ d m_X0_isInRange 112 [.ref a0, .int i1, .int i2, .ref a3, .int i4, .int i5, l6, l7] [.int s0] h Q = (if s0 = 0 then EvQ d m_X0_isInRange 117 [.ref a0, .int i1, .int i2, .ref a3, .int i4, .int i5, l6, l7] [] h Q else EvQ d m_X0_isInRange 115 [.ref a0, .int i1, .int i2, .ref a3, .int i4, .int i5, l6, l7] [] h Q) := f_if (c := .eq) (q := 117) rfl rfl
theorem w_X0_isInRange_115 {d : Nat} {h : XH} {Q : XO → XH → Prop} {a0 a3 : Nat} {i1 i2 i4 i5 : Int32} {l6 l7 : Value}  : EvQ d m_X0_isInRange 115 [.ref a0, .int i1, .int i2, .ref a3, .int i4, .int i5, l6, l7] [] h Q = (Q (.inl (some (.int 0))) h) := (f_iconst rfl ci_0).trans (((f_zreturn rfl rfl).trans (if_pos (by decide))))
theorem w_X0_isInRange_117 {d : Nat} {h : XH} {Q : XO → XH → Prop} {a0 a3 : Nat} {i1 i2 i4 i5 : Int32} {l6 l7 : Value}  : EvQ d m_X0_isInRange 117 [.ref a0, .int i1, .int i2, .ref a3, .int i4, .int i5, l6, l7] [] h Q = (EvQ d m_X0_isInRange 99 [.ref a0, .int i1, .int i2, .ref a3, .int i4, .int (i5 + 1), l6, l7] [] h Q) := (f_iinc rfl rfl ci_1 rfl).trans (f_goto (q := 99) rfl rfl)
theorem w_X0_isInRange_123 {d : Nat} {h : XH} {Q : XO → XH → Prop} {a0 a3 : Nat} {i1 i2 i4 i5 : Int32} {l6 l7 : Value}  : EvQ d m_X0_isInRange 123 [.ref a0, .int i1, .int i2, .ref a3, .int i4, .int i5, l6, l7] [] h Q = (Q (.inl (some (.int 1))) h) := (f_iconst rfl ci_1).trans (((f_zreturn rfl rfl).trans (if_pos (by decide))))
theorem c_X0_isInRange {d : Nat} {h : XH} {Q : XO → XH → Prop} {a0 : Nat} {i1 : Int32} : Call d m_X0_isInRange [.ref a0, .int i1] h Q = EvQ d m_X0_isInRange 0 [.ref a0, .int i1, xjunk, xjunk, xjunk, xjunk, xjunk, xjunk] [] h Q := rfl
theorem w_X0_lowest_0 {d : Nat} {h : XH} {Q : XO → XH → Prop} {i0 : Int32}  : EvQ d m_X0_lowest 0 [.int i0] [] h Q = (if i0 = 65 then EvQ d m_X0_lowest 28 [.int i0] [] h Q else if i0 = 70 then EvQ d m_X0_lowest 30 [.int i0] [] h Q else EvQ d m_X0_lowest 33 [.int i0] [] h Q) := by
  refine (f_iload_n rfl rfl).trans <| ?_
  rw [evq (i := .lookupswitch 32 #[(65, 27), (70, 29)]) (n := 27) rfl]
  by_cases q65 : i0 = 65
  · rw [if_pos q65, q65]; rfl
  rw [if_neg q65]
  by_cases q70 : i0 = 70
  · rw [if_pos q70, q70]; rfl
  rw [if_neg q70]
  have e65 : (i0 : Int32).toInt ≠ 65 := fun z => q65 (Int32.toInt_inj.mp z)
  have e70 : (i0 : Int32).toInt ≠ 70 := fun z => q70 (Int32.toInt_inj.mp z)
  have eo : Op.lookupswitch.offset (#[(65, 27), (70, 29)] : Array (Int × Int)).toList 32 (i0 : Int32).toInt = 32 := by
    show Op.lookupswitch.offset [(65, 27), (70, 29)] 32 (i0 : Int32).toInt = 32
    rw [lv_osw (k := 65) q65 (by decide), lv_osw (k := 70) q70 (by decide)]
    rfl
  show Aft _ _ _ _ _ (bif _ then xj _ (Op.lookupswitch.offset (#[(65, 27), (70, 29)] : Array (Int × Int)).toList 32 (i0 : Int32).toInt) _ _ _ else none) = _
  rw [eo]
  rfl
theorem w_X0_lowest_28 {d : Nat} {h : XH} {Q : XO → XH → Prop} {i0 : Int32}  : EvQ d m_X0_lowest 28 [.int i0] [] h Q = (Q (.inl (some (.int 1))) h) := (f_iconst rfl ci_1).trans (f_ireturn rfl rfl)
theorem w_X0_lowest_30 {d : Nat} {h : XH} {Q : XO → XH → Prop} {i0 : Int32}  : EvQ d m_X0_lowest 30 [.int i0] [] h Q = (Q (.inl (some (.int 10))) h) := (f_bipush rfl cb_10).trans (f_ireturn rfl rfl)
theorem w_X0_lowest_33 {d : Nat} {h : XH} {Q : XO → XH → Prop} {i0 : Int32}  : EvQ d m_X0_lowest 33 [.int i0] [] h Q = (Q (.inl (some (.int 0))) h) := (f_iconst rfl ci_0).trans (f_ireturn rfl rfl)
theorem c_X0_lowest {d : Nat} {h : XH} {Q : XO → XH → Prop} {i0 : Int32} : Call d m_X0_lowest [.int i0] h Q = EvQ d m_X0_lowest 0 [.int i0] [] h Q := rfl
theorem w_X0_highest_0 {d : Nat} {h : XH} {Q : XO → XH → Prop} {i0 : Int32}  : EvQ d m_X0_highest 0 [.int i0] [] h Q = (if i0 = 35 then EvQ d m_X0_highest 28 [.int i0] [] h Q else if i0 = 64 then EvQ d m_X0_highest 31 [.int i0] [] h Q else EvQ d m_X0_highest 33 [.int i0] [] h Q) := by
  refine (f_iload_n rfl rfl).trans <| ?_
  rw [evq (i := .lookupswitch 32 #[(35, 27), (64, 30)]) (n := 27) rfl]
  by_cases q35 : i0 = 35
  · rw [if_pos q35, q35]; rfl
  rw [if_neg q35]
  by_cases q64 : i0 = 64
  · rw [if_pos q64, q64]; rfl
  rw [if_neg q64]
  have e35 : (i0 : Int32).toInt ≠ 35 := fun z => q35 (Int32.toInt_inj.mp z)
  have e64 : (i0 : Int32).toInt ≠ 64 := fun z => q64 (Int32.toInt_inj.mp z)
  have eo : Op.lookupswitch.offset (#[(35, 27), (64, 30)] : Array (Int × Int)).toList 32 (i0 : Int32).toInt = 32 := by
    show Op.lookupswitch.offset [(35, 27), (64, 30)] 32 (i0 : Int32).toInt = 32
    rw [lv_osw (k := 35) q35 (by decide), lv_osw (k := 64) q64 (by decide)]
    rfl
  show Aft _ _ _ _ _ (bif _ then xj _ (Op.lookupswitch.offset (#[(35, 27), (64, 30)] : Array (Int × Int)).toList 32 (i0 : Int32).toInt) _ _ _ else none) = _
  rw [eo]
  rfl
theorem w_X0_highest_28 {d : Nat} {h : XH} {Q : XO → XH → Prop} {i0 : Int32}  : EvQ d m_X0_highest 28 [.int i0] [] h Q = (Q (.inl (some (.int 9))) h) := (f_bipush rfl cb_9).trans (f_ireturn rfl rfl)
theorem w_X0_highest_31 {d : Nat} {h : XH} {Q : XO → XH → Prop} {i0 : Int32}  : EvQ d m_X0_highest 31 [.int i0] [] h Q = (Q (.inl (some (.int 4))) h) := (f_iconst rfl ci_4).trans (f_ireturn rfl rfl)
theorem w_X0_highest_33 {d : Nat} {h : XH} {Q : XO → XH → Prop} {i0 : Int32}  : EvQ d m_X0_highest 33 [.int i0] [] h Q = (Q (.inl (some (.int 999))) h) := (f_sipush rfl cs_999).trans (f_ireturn rfl rfl)
theorem c_X0_highest {d : Nat} {h : XH} {Q : XO → XH → Prop} {i0 : Int32} : Call d m_X0_highest [.int i0] h Q = EvQ d m_X0_highest 0 [.int i0] [] h Q := rfl
