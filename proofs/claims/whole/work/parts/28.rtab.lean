/-! Records: its tables. -/
noncomputable def bI (p : Prop) : Int32 := @ite Int32 p (Classical.propDecidable p) (iI 1) (iI 0)
theorem bI_t {p : Prop} (h : p) : bI p = iI 1 := @if_pos p (Classical.propDecidable p) h Int32 (iI 1) (iI 0)
theorem bI_f {p : Prop} (h : ¬ p) : bI p = iI 0 := @if_neg p (Classical.propDecidable p) h Int32 (iI 1) (iI 0)
theorem iI_10 : ¬ iI 1 = iI 0 := by decide
theorem bI_e0 (p : Prop) : (bI p = iI 0) = ¬ p := by
  by_cases h : p
  · rw [bI_t h]; exact propext ⟨fun z => absurd z iI_10, fun z => absurd h z⟩
  · rw [bI_f h]; exact propext ⟨fun _ => h, fun _ => rfl⟩
theorem bI_n0 (p : Prop) : (bI p ≠ iI 0) = p := by
  rw [ne_eq, bI_e0]
  exact propext Classical.not_not
theorem bI_z (p : Prop) : (bI p = iI 0 ∨ bI p = iI 1) = True := by
  by_cases h : p
  · rw [bI_t h]; exact propext ⟨fun _ => trivial, fun _ => Or.inr rfl⟩
  · rw [bI_f h]; exact propext ⟨fun _ => trivial, fun _ => Or.inl rfl⟩
theorem bI_zr (p : Prop) : (bI p = 0 ∨ bI p = 1) = True := bI_z p
theorem bI_e1 (p : Prop) : (bI p = iI 1) = p := by
  by_cases h : p
  · rw [bI_t h]; exact propext ⟨fun _ => h, fun _ => rfl⟩
  · rw [bI_f h]; exact propext ⟨fun z => absurd z.symm iI_10, fun z => absurd z h⟩
theorem nor_em (p : Prop) : (¬ p ∨ p) = True := eq_true (Classical.em p).symm
theorem bI_if {p : Prop} {inst : Decidable p} : (@ite Int32 p inst (iI 1) (iI 0)) = bI p := by
  by_cases h : p
  · rw [if_pos h, bI_t h]
  · rw [if_neg h, bI_f h]
theorem dle_t {a b : Int} (h : a ≤ b) : (a ≤ b) = True := eq_true h
theorem dle_f {a b : Int} (h : b < a) : (a ≤ b) = False := eq_false (by omega)
theorem dlt_t {a b : Int} (h : a < b) : (a < b) = True := eq_true h
theorem dlt_f {a b : Int} (h : b ≤ a) : (a < b) = False := eq_false (by omega)
theorem deq_t {a b : Int} (h : a = b) : (a = b) = True := eq_true h
theorem deq_f {a b : Int} (h : a < b ∨ b < a) : (a = b) = False := eq_false (by omega)
def RU (U : Int → Int) : Prop := ∀ k, -2147483648 ≤ U k ∧ U k < 2147483648
theorem tgR {c w : Int} {U : Int → Int} {i j : Int} (h : RU U) : -2147483648 ≤ tg c w U i j ∧ tg c w U i j < 2147483648 := by
  unfold tg
  split
  · exact h _
  · omega
theorem iupR {U : Int → Int} {i x : Int} (h : RU U) (hx : -2147483648 ≤ x ∧ x < 2147483648) : RU (iup U i x) := by
  intro k
  unfold iup
  split
  · exact hx
  · exact h k
theorem tuR {c w : Int} {U : Int → Int} {i j x : Int} (h : RU U) (hx : -2147483648 ≤ x ∧ x < 2147483648) : RU (tu c w U i j x) := by
  unfold tu
  split
  · exact iupR h hx
  · exact h
theorem zrR {c w : Int} {U : Int → Int} (h : RU U) : RU (zr w c U) := by
  intro k
  unfold zr
  split
  · omega
  · exact h k
def WF (dy nb : Int) (B : Int → Int) (nu : Int) (U : Int → Int) (np : Int) (P : Int → Int) (nf : Int) (F : Int → Int) : Prop :=
  (0 ≤ dy ∧ dy ≤ 9999) ∧ (0 ≤ nb ∧ nb ≤ 4) ∧ (0 ≤ nu ∧ nu ≤ 60) ∧ (0 ≤ np ∧ np ≤ 40) ∧ (0 ≤ nf ∧ nf ≤ 40) ∧ RU B ∧ RU U ∧ RU P ∧ RU F
section Rec
variable {d : Nat} {h : XH} {r : Nat} {dy nb nu np nf : Int} {B U P F : Int → Int} {Q : XO → XH → Prop} {i j x : Int}

theorem ta_B : TA (wr h r dy nb B nu U np P nf F) (r + 1) 28 7 nb B := ⟨hw_1, hw_2⟩
theorem r_sizeB : Call d m_X5_size [.ref (r + 1)] (wr h r dy nb B nu U np P nf F) Q = Q (.inl (some (.int (iI nb)))) (wr h r dy nb B nu U np P nf F) := t_size ta_B
theorem r_hasB (hw : (0 ≤ nb ∧ nb ≤ 4) ∧ (0 ≤ nu ∧ nu ≤ 60) ∧ (0 ≤ np ∧ np ≤ 40) ∧ (0 ≤ nf ∧ nf ≤ 40)) (hi : -2147483648 ≤ i ∧ i < 2147483648) : Call d m_X5_has [.ref (r + 1), .int (iI i)] (wr h r dy nb B nu U np P nf F) Q = Q (.inl (some (.int (bI (0 ≤ i ∧ i < nb))))) (wr h r dy nb B nu U np P nf F) := by
  obtain ⟨⟨b1, b2⟩, ⟨u1, u2⟩, ⟨p1, p2⟩, f1, f2⟩ := hw
  rw [t_has ta_B hi (by omega), bI_if]
theorem r_getB (hw : (0 ≤ nb ∧ nb ≤ 4) ∧ (0 ≤ nu ∧ nu ≤ 60) ∧ (0 ≤ np ∧ np ≤ 40) ∧ (0 ≤ nf ∧ nf ≤ 40)) (hi : -2147483648 ≤ i ∧ i < 2147483648) (hj : -2147483648 ≤ j ∧ j < 2147483648) : Call d m_X5_get [.ref (r + 1), .int (iI i), .int (iI j)] (wr h r dy nb B nu U np P nf F) Q = Q (.inl (some (.int (iI (tg nb 7 B i j))))) (wr h r dy nb B nu U np P nf F) := by
  obtain ⟨⟨b1, b2⟩, ⟨u1, u2⟩, ⟨p1, p2⟩, f1, f2⟩ := hw
  exact t_get ta_B hi hj (by omega) (by omega)
theorem r_putB (hw : (0 ≤ nb ∧ nb ≤ 4) ∧ (0 ≤ nu ∧ nu ≤ 60) ∧ (0 ≤ np ∧ np ≤ 40) ∧ (0 ≤ nf ∧ nf ≤ 40)) (hi : -2147483648 ≤ i ∧ i < 2147483648) (hj : -2147483648 ≤ j ∧ j < 2147483648) : Call d m_X5_put [.ref (r + 1), .int (iI i), .int (iI j), .int (iI x)] (wr h r dy nb B nu U np P nf F) Q = Q (.inl none) (wr h r dy nb (tu nb 7 B i j x) nu U np P nf F) := by
  obtain ⟨⟨b1, b2⟩, ⟨u1, u2⟩, ⟨p1, p2⟩, f1, f2⟩ := hw
  rw [t_put ta_B hi hj (by omega) (by omega)]
  exact congrArg (Q (.inl none)) pw_2
theorem r_clearB : Call d m_X5_clear [.ref (r + 1)] (wr h r dy nb B nu U np P nf F) Q = Q (.inl none) (wr h r dy 0 B nu U np P nf F) := by
  rw [t_clear ta_B]
  exact congrArg (Q (.inl none)) pw_1
theorem r_appendB (hw : (0 ≤ nb ∧ nb ≤ 4) ∧ (0 ≤ nu ∧ nu ≤ 60) ∧ (0 ≤ np ∧ np ≤ 40) ∧ (0 ≤ nf ∧ nf ≤ 40)) (hc : nb < 4) : Call (d + 1) m_X5_append [.ref (r + 1)] (wr h r dy nb B nu U np P nf F) Q = Q (.inl (some (.int (iI nb)))) (wr h r dy (nb + 1) (zr 7 nb B) nu U np P nf F) := by
  obtain ⟨⟨b1, b2⟩, ⟨u1, u2⟩, ⟨p1, p2⟩, f1, f2⟩ := hw
  rw [t_append ta_B (by omega) (by omega) (by omega), if_pos (by omega), pw_1]
  exact congrArg (Q _) pw_2
theorem ta_U : TA (wr h r dy nb B nu U np P nf F) (r + 3) 660 11 nu U := ⟨hw_3, hw_4⟩
theorem r_sizeU : Call d m_X5_size [.ref (r + 3)] (wr h r dy nb B nu U np P nf F) Q = Q (.inl (some (.int (iI nu)))) (wr h r dy nb B nu U np P nf F) := t_size ta_U
theorem r_hasU (hw : (0 ≤ nb ∧ nb ≤ 4) ∧ (0 ≤ nu ∧ nu ≤ 60) ∧ (0 ≤ np ∧ np ≤ 40) ∧ (0 ≤ nf ∧ nf ≤ 40)) (hi : -2147483648 ≤ i ∧ i < 2147483648) : Call d m_X5_has [.ref (r + 3), .int (iI i)] (wr h r dy nb B nu U np P nf F) Q = Q (.inl (some (.int (bI (0 ≤ i ∧ i < nu))))) (wr h r dy nb B nu U np P nf F) := by
  obtain ⟨⟨b1, b2⟩, ⟨u1, u2⟩, ⟨p1, p2⟩, f1, f2⟩ := hw
  rw [t_has ta_U hi (by omega), bI_if]
theorem r_getU (hw : (0 ≤ nb ∧ nb ≤ 4) ∧ (0 ≤ nu ∧ nu ≤ 60) ∧ (0 ≤ np ∧ np ≤ 40) ∧ (0 ≤ nf ∧ nf ≤ 40)) (hi : -2147483648 ≤ i ∧ i < 2147483648) (hj : -2147483648 ≤ j ∧ j < 2147483648) : Call d m_X5_get [.ref (r + 3), .int (iI i), .int (iI j)] (wr h r dy nb B nu U np P nf F) Q = Q (.inl (some (.int (iI (tg nu 11 U i j))))) (wr h r dy nb B nu U np P nf F) := by
  obtain ⟨⟨b1, b2⟩, ⟨u1, u2⟩, ⟨p1, p2⟩, f1, f2⟩ := hw
  exact t_get ta_U hi hj (by omega) (by omega)
theorem r_putU (hw : (0 ≤ nb ∧ nb ≤ 4) ∧ (0 ≤ nu ∧ nu ≤ 60) ∧ (0 ≤ np ∧ np ≤ 40) ∧ (0 ≤ nf ∧ nf ≤ 40)) (hi : -2147483648 ≤ i ∧ i < 2147483648) (hj : -2147483648 ≤ j ∧ j < 2147483648) : Call d m_X5_put [.ref (r + 3), .int (iI i), .int (iI j), .int (iI x)] (wr h r dy nb B nu U np P nf F) Q = Q (.inl none) (wr h r dy nb B nu (tu nu 11 U i j x) np P nf F) := by
  obtain ⟨⟨b1, b2⟩, ⟨u1, u2⟩, ⟨p1, p2⟩, f1, f2⟩ := hw
  rw [t_put ta_U hi hj (by omega) (by omega)]
  exact congrArg (Q (.inl none)) pw_4
theorem r_clearU : Call d m_X5_clear [.ref (r + 3)] (wr h r dy nb B nu U np P nf F) Q = Q (.inl none) (wr h r dy nb B 0 U np P nf F) := by
  rw [t_clear ta_U]
  exact congrArg (Q (.inl none)) pw_3
theorem r_appendU (hw : (0 ≤ nb ∧ nb ≤ 4) ∧ (0 ≤ nu ∧ nu ≤ 60) ∧ (0 ≤ np ∧ np ≤ 40) ∧ (0 ≤ nf ∧ nf ≤ 40)) (hc : nu < 60) : Call (d + 1) m_X5_append [.ref (r + 3)] (wr h r dy nb B nu U np P nf F) Q = Q (.inl (some (.int (iI nu)))) (wr h r dy nb B (nu + 1) (zr 11 nu U) np P nf F) := by
  obtain ⟨⟨b1, b2⟩, ⟨u1, u2⟩, ⟨p1, p2⟩, f1, f2⟩ := hw
  rw [t_append ta_U (by omega) (by omega) (by omega), if_pos (by omega), pw_3]
  exact congrArg (Q _) pw_4
theorem ta_P : TA (wr h r dy nb B nu U np P nf F) (r + 5) 280 7 np P := ⟨hw_5, hw_6⟩
theorem r_sizeP : Call d m_X5_size [.ref (r + 5)] (wr h r dy nb B nu U np P nf F) Q = Q (.inl (some (.int (iI np)))) (wr h r dy nb B nu U np P nf F) := t_size ta_P
theorem r_hasP (hw : (0 ≤ nb ∧ nb ≤ 4) ∧ (0 ≤ nu ∧ nu ≤ 60) ∧ (0 ≤ np ∧ np ≤ 40) ∧ (0 ≤ nf ∧ nf ≤ 40)) (hi : -2147483648 ≤ i ∧ i < 2147483648) : Call d m_X5_has [.ref (r + 5), .int (iI i)] (wr h r dy nb B nu U np P nf F) Q = Q (.inl (some (.int (bI (0 ≤ i ∧ i < np))))) (wr h r dy nb B nu U np P nf F) := by
  obtain ⟨⟨b1, b2⟩, ⟨u1, u2⟩, ⟨p1, p2⟩, f1, f2⟩ := hw
  rw [t_has ta_P hi (by omega), bI_if]
theorem r_getP (hw : (0 ≤ nb ∧ nb ≤ 4) ∧ (0 ≤ nu ∧ nu ≤ 60) ∧ (0 ≤ np ∧ np ≤ 40) ∧ (0 ≤ nf ∧ nf ≤ 40)) (hi : -2147483648 ≤ i ∧ i < 2147483648) (hj : -2147483648 ≤ j ∧ j < 2147483648) : Call d m_X5_get [.ref (r + 5), .int (iI i), .int (iI j)] (wr h r dy nb B nu U np P nf F) Q = Q (.inl (some (.int (iI (tg np 7 P i j))))) (wr h r dy nb B nu U np P nf F) := by
  obtain ⟨⟨b1, b2⟩, ⟨u1, u2⟩, ⟨p1, p2⟩, f1, f2⟩ := hw
  exact t_get ta_P hi hj (by omega) (by omega)
theorem r_putP (hw : (0 ≤ nb ∧ nb ≤ 4) ∧ (0 ≤ nu ∧ nu ≤ 60) ∧ (0 ≤ np ∧ np ≤ 40) ∧ (0 ≤ nf ∧ nf ≤ 40)) (hi : -2147483648 ≤ i ∧ i < 2147483648) (hj : -2147483648 ≤ j ∧ j < 2147483648) : Call d m_X5_put [.ref (r + 5), .int (iI i), .int (iI j), .int (iI x)] (wr h r dy nb B nu U np P nf F) Q = Q (.inl none) (wr h r dy nb B nu U np (tu np 7 P i j x) nf F) := by
  obtain ⟨⟨b1, b2⟩, ⟨u1, u2⟩, ⟨p1, p2⟩, f1, f2⟩ := hw
  rw [t_put ta_P hi hj (by omega) (by omega)]
  exact congrArg (Q (.inl none)) pw_6
theorem r_clearP : Call d m_X5_clear [.ref (r + 5)] (wr h r dy nb B nu U np P nf F) Q = Q (.inl none) (wr h r dy nb B nu U 0 P nf F) := by
  rw [t_clear ta_P]
  exact congrArg (Q (.inl none)) pw_5
theorem r_appendP (hw : (0 ≤ nb ∧ nb ≤ 4) ∧ (0 ≤ nu ∧ nu ≤ 60) ∧ (0 ≤ np ∧ np ≤ 40) ∧ (0 ≤ nf ∧ nf ≤ 40)) (hc : np < 40) : Call (d + 1) m_X5_append [.ref (r + 5)] (wr h r dy nb B nu U np P nf F) Q = Q (.inl (some (.int (iI np)))) (wr h r dy nb B nu U (np + 1) (zr 7 np P) nf F) := by
  obtain ⟨⟨b1, b2⟩, ⟨u1, u2⟩, ⟨p1, p2⟩, f1, f2⟩ := hw
  rw [t_append ta_P (by omega) (by omega) (by omega), if_pos (by omega), pw_5]
  exact congrArg (Q _) pw_6
theorem ta_F : TA (wr h r dy nb B nu U np P nf F) (r + 7) 40 1 nf F := ⟨hw_7, hw_8⟩
theorem r_sizeF : Call d m_X5_size [.ref (r + 7)] (wr h r dy nb B nu U np P nf F) Q = Q (.inl (some (.int (iI nf)))) (wr h r dy nb B nu U np P nf F) := t_size ta_F
theorem r_hasF (hw : (0 ≤ nb ∧ nb ≤ 4) ∧ (0 ≤ nu ∧ nu ≤ 60) ∧ (0 ≤ np ∧ np ≤ 40) ∧ (0 ≤ nf ∧ nf ≤ 40)) (hi : -2147483648 ≤ i ∧ i < 2147483648) : Call d m_X5_has [.ref (r + 7), .int (iI i)] (wr h r dy nb B nu U np P nf F) Q = Q (.inl (some (.int (bI (0 ≤ i ∧ i < nf))))) (wr h r dy nb B nu U np P nf F) := by
  obtain ⟨⟨b1, b2⟩, ⟨u1, u2⟩, ⟨p1, p2⟩, f1, f2⟩ := hw
  rw [t_has ta_F hi (by omega), bI_if]
theorem r_getF (hw : (0 ≤ nb ∧ nb ≤ 4) ∧ (0 ≤ nu ∧ nu ≤ 60) ∧ (0 ≤ np ∧ np ≤ 40) ∧ (0 ≤ nf ∧ nf ≤ 40)) (hi : -2147483648 ≤ i ∧ i < 2147483648) (hj : -2147483648 ≤ j ∧ j < 2147483648) : Call d m_X5_get [.ref (r + 7), .int (iI i), .int (iI j)] (wr h r dy nb B nu U np P nf F) Q = Q (.inl (some (.int (iI (tg nf 1 F i j))))) (wr h r dy nb B nu U np P nf F) := by
  obtain ⟨⟨b1, b2⟩, ⟨u1, u2⟩, ⟨p1, p2⟩, f1, f2⟩ := hw
  exact t_get ta_F hi hj (by omega) (by omega)
theorem r_putF (hw : (0 ≤ nb ∧ nb ≤ 4) ∧ (0 ≤ nu ∧ nu ≤ 60) ∧ (0 ≤ np ∧ np ≤ 40) ∧ (0 ≤ nf ∧ nf ≤ 40)) (hi : -2147483648 ≤ i ∧ i < 2147483648) (hj : -2147483648 ≤ j ∧ j < 2147483648) : Call d m_X5_put [.ref (r + 7), .int (iI i), .int (iI j), .int (iI x)] (wr h r dy nb B nu U np P nf F) Q = Q (.inl none) (wr h r dy nb B nu U np P nf (tu nf 1 F i j x)) := by
  obtain ⟨⟨b1, b2⟩, ⟨u1, u2⟩, ⟨p1, p2⟩, f1, f2⟩ := hw
  rw [t_put ta_F hi hj (by omega) (by omega)]
  exact congrArg (Q (.inl none)) pw_8
theorem r_clearF : Call d m_X5_clear [.ref (r + 7)] (wr h r dy nb B nu U np P nf F) Q = Q (.inl none) (wr h r dy nb B nu U np P 0 F) := by
  rw [t_clear ta_F]
  exact congrArg (Q (.inl none)) pw_7
theorem r_appendF (hw : (0 ≤ nb ∧ nb ≤ 4) ∧ (0 ≤ nu ∧ nu ≤ 60) ∧ (0 ≤ np ∧ np ≤ 40) ∧ (0 ≤ nf ∧ nf ≤ 40)) (hc : nf < 40) : Call (d + 1) m_X5_append [.ref (r + 7)] (wr h r dy nb B nu U np P nf F) Q = Q (.inl (some (.int (iI nf)))) (wr h r dy nb B nu U np P (nf + 1) (zr 1 nf F)) := by
  obtain ⟨⟨b1, b2⟩, ⟨u1, u2⟩, ⟨p1, p2⟩, f1, f2⟩ := hw
  rw [t_append ta_F (by omega) (by omega) (by omega), if_pos (by omega), pw_7]
  exact congrArg (Q _) pw_8
end Rec
