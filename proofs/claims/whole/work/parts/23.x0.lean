set_option maxRecDepth 3000
theorem w_X0_formOf_40 {d : Nat} {h : XH} {Q : XO → XH → Prop} {i0 : Int32}  : EvQ d m_X0_formOf 40 [.int i0] [] h Q = (Q (.inl (some (.ref (1000000 + 0)))) h) := (f_ldc (j := 0) (o := 12) (idx := 9) rfl rfl u_sT_12009 u_ldc_12009).trans (f_areturn rfl rfl)
theorem w_X0_formOf_43 {d : Nat} {h : XH} {Q : XO → XH → Prop} {i0 : Int32}  : EvQ d m_X0_formOf 43 [.int i0] [] h Q = (Q (.inl (some (.ref (1000000 + 1)))) h) := (f_ldc (j := 1) (o := 12) (idx := 11) rfl rfl u_sT_12011 u_ldc_12011).trans (f_areturn rfl rfl)
