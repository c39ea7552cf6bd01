/-! The class Table over whole numbers. -/
def tg (c w : Int) (U : Int → Int) (i j : Int) : Int := if 0 ≤ i ∧ i < c ∧ 0 ≤ j ∧ j < w then U (i * w + j) else 0
def tu (c w : Int) (U : Int → Int) (i j x : Int) : Int → Int := if 0 ≤ i ∧ i < c ∧ 0 ≤ j ∧ j < w then iup U (i * w + j) x else U
theorem tg_in {c w : Int} {U : Int → Int} {i j : Int} (h : 0 ≤ i ∧ i < c ∧ 0 ≤ j ∧ j < w) : tg c w U i j = U (i * w + j) := if_pos h
theorem tu_in {c w : Int} {U : Int → Int} {i j x : Int} (h : 0 ≤ i ∧ i < c ∧ 0 ≤ j ∧ j < w) : tu c w U i j x = iup U (i * w + j) x := if_pos h
/-- a new row of zeros -/
def zr (w c : Int) (U : Int → Int) : Int → Int := fun k => if c * w ≤ k ∧ k < c * w + w then 0 else U k
/-- the Table at t: columns, rows, numbers -/
def TA (h : XH) (t N : Nat) (w c : Int) (U : Int → Int) : Prop := hget h t = some (tbl t w c) ∧ hget h (t + 1) = some (nar N U)
section Tab
variable {d : Nat} {h : XH} {t N : Nat} {w c i j x : Int} {U : Int → Int} {Q : XO → XH → Prop}
theorem TA.at (T : TA h t N w c U) : TabAt h t (t + 1) N (fun k => iI (if (k : Int) < N then U k else 0)) (iI w) (iI c) := T
theorem t_size (T : TA h t N w c U) : Call d m_X5_size [.ref t] h Q = Q (.inl (some (.int (iI c)))) h := s_X5_size T.at
theorem t_has (T : TA h t N w c U) (hi : -2147483648 ≤ i ∧ i < 2147483648) (hc : 0 ≤ c ∧ c < 1000) : Call d m_X5_has [.ref t, .int (iI i)] h Q = Q (.inl (some (.int (if 0 ≤ i ∧ i < c then iI 1 else iI 0)))) h := by
  rw [s_X5_has T.at, il_0, il_1]
  by_cases hh : 0 ≤ i ∧ i < c
  · rw [if_pos hh, if_neg (by rw [iI_lt (by omega) (by omega), iI_le (by omega) (by omega)]; omega)]
  · rw [if_neg hh, if_pos (by rw [iI_lt (by omega) (by omega), iI_le (by omega) (by omega)]; omega)]
theorem t_get (T : TA h t N w c U) (hi : -2147483648 ≤ i ∧ i < 2147483648) (hj : -2147483648 ≤ j ∧ j < 2147483648) (hw : 0 ≤ c ∧ c < 1000 ∧ 0 ≤ w ∧ w < 1000 ∧ N < 1000000) (hN : ∀ a b : Int, 0 ≤ a → a < c → 0 ≤ b → b < w → 0 ≤ a * w + b ∧ a * w + b < N) : Call d m_X5_get [.ref t, .int (iI i), .int (iI j)] h Q = Q (.inl (some (.int (iI (tg c w U i j))))) h := by
  rw [s_X5_get T.at (by omega)]
  unfold tabget tg
  rw [il_0]
  by_cases hh : 0 ≤ i ∧ i < c ∧ 0 ≤ j ∧ j < w
  · have q := hN i j hh.1 hh.2.1 hh.2.2.1 hh.2.2.2
    rw [if_pos hh, if_neg (by rw [iI_lt (by omega) (by omega), iI_le (by omega) (by omega), iI_lt (by omega) (by omega), iI_le (by omega) (by omega)]; omega), iI_mul, iI_add, iI_nat (by omega), if_neg (by rw [iI_lt (by omega) (by omega)]; omega)]
    try dsimp only
    have e : (((i * w + j).toNat : Nat) : Int) = i * w + j := by omega
    rw [e, if_pos q.2]
  · rw [if_neg hh, if_pos (by rw [iI_lt (by omega) (by omega), iI_le (by omega) (by omega), iI_lt (by omega) (by omega), iI_le (by omega) (by omega)]; omega)]
theorem t_put (T : TA h t N w c U) (hi : -2147483648 ≤ i ∧ i < 2147483648) (hj : -2147483648 ≤ j ∧ j < 2147483648) (hw : 0 ≤ c ∧ c < 1000 ∧ 0 ≤ w ∧ w < 1000 ∧ N < 1000000) (hN : ∀ a b : Int, 0 ≤ a → a < c → 0 ≤ b → b < w → 0 ≤ a * w + b ∧ a * w + b < N) : Call d m_X5_put [.ref t, .int (iI i), .int (iI j), .int (iI x)] h Q = Q (.inl none) (hset h (t + 1) (nar N (tu c w U i j x))) := by
  rw [s_X5_put T.at (by omega)]
  unfold tabput tu
  rw [il_0]
  by_cases hh : 0 ≤ i ∧ i < c ∧ 0 ≤ j ∧ j < w
  · have q := hN i j hh.1 hh.2.1 hh.2.2.1 hh.2.2.2
    rw [if_pos hh, if_neg (by rw [iI_lt (by omega) (by omega), iI_le (by omega) (by omega), iI_lt (by omega) (by omega), iI_le (by omega) (by omega)]; omega), iI_mul, iI_add, iI_nat (by omega), if_neg (by rw [iI_lt (by omega) (by omega)]; omega), upd_n (by omega)]
    rfl
  · rw [if_neg hh, if_pos (by rw [iI_lt (by omega) (by omega), iI_le (by omega) (by omega), iI_lt (by omega) (by omega), iI_le (by omega) (by omega)]; omega), hset_same T.2]
theorem t_clear (T : TA h t N w c U) : Call d m_X5_clear [.ref t] h Q = Q (.inl none) (hset h t (tbl t w 0)) := by
  rw [c_X5_clear, w_X5_clear_0, T.1]
  unfold tbl
  rw [epf_at rfl rfl, w_X5_clear_5, il_0]
  rfl
theorem t_append (T : TA h t N w c U) (hw : 0 ≤ c ∧ c < 999 ∧ 0 ≤ w ∧ w < 1000 ∧ N < 1000000) (hN : ∀ a b : Int, 0 ≤ a → a < c + 1 → 0 ≤ b → b < w → (c + 1) * w ≤ N → 0 ≤ a * w + b ∧ a * w + b < N) (hb : (c + 1) * w < 2147483648 ∧ 0 ≤ (c + 1) * w) : Call (d + 1) m_X5_append [.ref t] h Q = if (c + 1) * w ≤ N then Q (.inl (some (.int (iI c)))) (hset (hset h t (tbl t w (c + 1))) (t + 1) (nar N (zr w c U))) else Q (.inl (some (.int (iI (-1))))) h := by
  have hT := T.1
  unfold tbl at hT
  rw [c_X5_append, w_X5_append_0, hT, egf2, w_X5_append_4, hT, egf0, w_X5_append_10, hT, egf1, w_X5_append_15, T.2, elen_n, w_X5_append_16, il_1, iI_add, iI_mul]
  simp (disch := omega) only [iI_le]
  by_cases hc : (c + 1) * w ≤ N
  · rw [if_pos hc, if_pos hc, w_X5_append_21, hT, egf2, w_X5_append_26, hT, il_1, iI_add, epf_at rfl rfl, w_X5_append_31, il_0]
    have e0 : hset h t (Sum.inr (6, [Value.int (iI w), Value.ref (t + 1), Value.int (iI c)].set 2 (Value.int (iI (c + 1))))) = hset (hset h t (tbl t w (c + 1))) (t + 1) (nar N (fun k => if c * w ≤ k ∧ k < c * w + 0 then 0 else U k)) := by
      rw [hset_same (q := t + 1)]
      · rfl
      · rw [hget_ne (by omega), T.2]
        refine congrArg (fun f => some (nar N f)) (funext fun k => ?_)
        rw [if_neg (by omega)]
    rw [e0]
    exact lp (n := w) (E := fun j (_ : Unit) => EvQ (d + 1) m_X5_append 33 [.ref t, .int (iI j)] [] (hset (hset h t (tbl t w (c + 1))) (t + 1) (nar N (fun k => if c * w ≤ k ∧ k < c * w + j then 0 else U k))) Q) (V := fun _ _ => Q (.inl (some (.int (iI c)))) (hset (hset h t (tbl t w (c + 1))) (t + 1) (nar N (zr w c U))))
      (by
        intro _
        try dsimp only
        have g1 : hget (hset (hset h t (tbl t w (c + 1))) (t + 1) (nar N (fun k => if c * w ≤ k ∧ k < c * w + w then 0 else U k))) t = some (tbl t w (c + 1)) := by rw [hget_ne (by omega), hget_set]
        have g2 : hget (hset (hset h t (tbl t w (c + 1))) (t + 1) (nar N (fun k => if c * w ≤ k ∧ k < c * w + w then 0 else U k))) t = some (.inr (6, [.int (iI w), .ref (t + 1), .int (iI (c + 1))])) := g1
        rw [w_X5_append_33, g2, egf0, w_X5_append_38, if_pos ((iI_le (by omega) (by omega)).mpr (by omega)), w_X5_append_59, g2, egf2, w_X5_append_63, il_1, iI_sub]
        rw [show c + 1 - 1 = c by omega]
        rfl)
      (by
        intro j _ hj0 hj1 ih
        try dsimp only at ih ⊢
        have g1 : hget (hset (hset h t (tbl t w (c + 1))) (t + 1) (nar N (fun k => if c * w ≤ k ∧ k < c * w + j then 0 else U k))) t = some (tbl t w (c + 1)) := by rw [hget_ne (by omega), hget_set]
        have g3 : TA (hset (hset h t (tbl t w (c + 1))) (t + 1) (nar N (fun k => if c * w ≤ k ∧ k < c * w + j then 0 else U k))) t N w (c + 1) (fun k => if c * w ≤ k ∧ k < c * w + j then 0 else U k) := ⟨g1, hget_set⟩
        have g2 : hget (hset (hset h t (tbl t w (c + 1))) (t + 1) (nar N (fun k => if c * w ≤ k ∧ k < c * w + j then 0 else U k))) t = some (.inr (6, [.int (iI w), .ref (t + 1), .int (iI (c + 1))])) := g1
        rw [w_X5_append_33, g2, egf0, w_X5_append_38, if_neg (fun z => absurd ((iI_le (by omega) (by omega)).mp z) (by omega)), w_X5_append_41, g2, egf2, w_X5_append_46, g2, eob_at, il_0, il_1, iI_sub, show c + 1 - 1 = c by omega]
        rw [t_put g3 (by omega) (by omega) (by omega) (fun a b h1 h2 h3 h4 => hN a b h1 h2 h3 h4 hc), bck_v, w_X5_append_53, il_1, iI_add]
        rw [hset_set, ← ih ()]
        refine congrArg (fun f => EvQ (d + 1) m_X5_append 33 [.ref t, .int (iI (j + 1))] [] (hset (hset h t (tbl t w (c + 1))) (t + 1) (nar N f)) Q) (funext fun k => ?_)
        rw [tu_in (by omega)]
        unfold iup
        generalize c * w = y
        by_cases hk : k = y + j
        · rw [if_pos hk, if_pos (by omega)]
        · rw [if_neg hk]
          dsimp only
          by_cases hk2 : y ≤ k ∧ k < y + j
          · rw [if_pos hk2, if_pos (by omega)]
          · rw [if_neg hk2, if_neg (by omega)])
      0 () (by omega) (by omega)
  · rw [if_neg hc, if_neg hc, w_X5_append_19, il_m1]
theorem t_copy {o : Nat} {c' : Int} {V : Int → Int} (T : TA h t N w c U) (T' : TA h o N w c' V) (ho : o ≠ t ∧ o ≠ t + 1 ∧ o + 1 ≠ t) (hN : N < 1000000) : Call d m_X5_copyFrom [.ref t, .ref o] h Q = Q (.inl none) (hset (hset h (t + 1) (nar N V)) t (tbl t w c')) := by
  have h1 := T.1
  have h2 := T'.1
  unfold tbl at h1 h2
  rw [c_X5_copyFrom, w_X5_copyFrom_0, h2, egf1, w_X5_copyFrom_4, T'.2, elen_n, w_X5_copyFrom_5, h1, egf1, w_X5_copyFrom_9, T.2, elen_n, w_X5_copyFrom_10, if_neg (fun z => z rfl), w_X5_copyFrom_13, h2, egf1, w_X5_copyFrom_17, h1, egf1, w_X5_copyFrom_22, h1, egf1, w_X5_copyFrom_27, T.2, elen_n, w_X5_copyFrom_28, T.2, T'.2, il_0, ecp_n (by omega), w_X5_copyFrom_31, hget_ne (by omega), h2, egf2, w_X5_copyFrom_36, hget_ne (by omega), h1, epf_at rfl rfl, w_X5_copyFrom_39]
  rfl
end Tab
