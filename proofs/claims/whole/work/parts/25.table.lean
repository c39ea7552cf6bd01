/-! The class Table: what its methods come to. -/
theorem egf_at {c k : Nat} {fs : List Value} {v : Value} {K : Value → Prop} (hv : fs[k]? = some v) : egf (some (.inr (c, fs))) c k K = K v := by
  unfold egf
  have hc : Nat.beq c c = true := Nat.beq_refl c
  simp only [hc, cond_true, hv]
theorem elen_at {t n : Nat} {g} {K : Int32 → Prop} : elen (some (.inl (t, n, g))) K = K (Int32.ofNat n) := rfl
theorem ega_at {t n : Nat} {g : Nat → Int32} {i : Int32} {K : Int32 → Prop} (h0 : ¬ i < 0) (h1 : i.toNatClampNeg < n) : ega (some (.inl (t, n, .inl g))) t i K = K (g i.toNatClampNeg) := by
  unfold ega
  have hc : Nat.beq t t = true := Nat.beq_refl t
  simp only [hc, cond_true]
  rw [if_neg (fun z => z.elim h0 (fun q => absurd h1 (Nat.not_lt.mpr q)))]
/-- the Table at t with its numbers at q -/
def TabAt (h : XH) (t q N : Nat) (g : Nat → Int32) (w c : Int32) : Prop := hget h t = some (.inr (6, [.int w, .ref q, .int c])) ∧ hget h q = some (.inl (0, N, .inl g))
section Tab
variable {d : Nat} {h : XH} {t q N : Nat} {g : Nat → Int32} {w c i j : Int32} {Q : XO → XH → Prop}
theorem s_X5_size (T : TabAt h t q N g w c) : Call d m_X5_size [.ref t] h Q = Q (.inl (some (.int c))) h := by
  rw [c_X5_size, w_X5_size_0, T.1, egf_at (v := .int c) rfl, w_X5_size_4]
theorem s_X5_has (T : TabAt h t q N g w c) : Call d m_X5_has [.ref t, .int i] h Q = Q (.inl (some (.int (if i < 0 ∨ c ≤ i then 0 else 1)))) h := by
  rw [c_X5_has, w_X5_has_0]
  by_cases h0 : i < 0
  · rw [if_pos h0, if_pos (Or.inl h0), w_X5_has_16, w_X5_has_17, if_pos (Or.inl rfl)]
  · rw [if_neg h0, w_X5_has_4, T.1, egf_at (v := .int c) rfl, w_X5_has_9]
    by_cases h1 : c ≤ i
    · rw [if_pos h1, if_pos (Or.inr h1), w_X5_has_16, w_X5_has_17, if_pos (Or.inl rfl)]
    · rw [if_neg h1, if_neg (fun z => z.elim h0 h1), w_X5_has_12, w_X5_has_17, if_pos (Or.inr rfl)]
/-- what get answers -/
def tabget (N : Nat) (g : Nat → Int32) (w c i j : Int32) : Int32 :=
  if i < 0 ∨ c ≤ i ∨ j < 0 ∨ w ≤ j then 0 else if i * w + j < 0 ∨ N ≤ (i * w + j).toNatClampNeg then 0 else g (i * w + j).toNatClampNeg
theorem i32_ofNat_le {n : Nat} {x : Int32} (hn : n < 2147483648) (hx : ¬ x < 0) : (Int32.ofNat n ≤ x) ↔ n ≤ x.toNatClampNeg := by
  rw [Int32.le_iff_toInt_le, Int32.toInt_ofNat_of_lt hn]
  have h1 : (0 : Int) ≤ x.toInt := Int.not_lt.mp fun z => hx (Int32.lt_iff_toInt_lt.mpr z)
  have h2 : ((x.toNatClampNeg : Nat) : Int) = x.toInt := Int.toNat_of_nonneg h1
  omega
theorem s_X5_get (T : TabAt h t q N g w c) (hN : N < 2147483648) : Call d m_X5_get [.ref t, .int i, .int j] h Q = Q (.inl (some (.int (tabget N g w c i j)))) h := by
  rw [c_X5_get, w_X5_get_0]
  by_cases h0 : i < 0
  · rw [if_pos h0, w_X5_get_24, tabget, if_pos (Or.inl h0)]
  rw [if_neg h0, w_X5_get_4, T.1, egf_at (v := .int c) rfl, w_X5_get_9]
  by_cases h1 : c ≤ i
  · rw [if_pos h1, w_X5_get_24, tabget, if_pos (Or.inr (Or.inl h1))]
  rw [if_neg h1, w_X5_get_12]
  by_cases h2 : j < 0
  · rw [if_pos h2, w_X5_get_24, tabget, if_pos (Or.inr (Or.inr (Or.inl h2)))]
  rw [if_neg h2, w_X5_get_16, T.1, egf_at (v := .int w) rfl, w_X5_get_21]
  by_cases h3 : j < w
  · have hc : ¬ (i < 0 ∨ c ≤ i ∨ j < 0 ∨ w ≤ j) := by
      rintro (z | z | z | z)
      · exact h0 z
      · exact h1 z
      · exact h2 z
      · exact absurd h3 (Int32.not_lt.mpr z)
    rw [if_pos h3, w_X5_get_26, T.1, egf_at (v := .int w) rfl, w_X5_get_31, tabget, if_neg hc]
    by_cases h4 : i * w + j < 0
    · rw [if_pos h4, w_X5_get_57, w_X5_get_58, if_pos (Or.inl h4)]
    rw [if_neg h4, w_X5_get_39, T.1, egf_at (v := .ref q) rfl, w_X5_get_44, T.2, elen_at, w_X5_get_45]
    by_cases h5 : N ≤ (i * w + j).toNatClampNeg
    · rw [if_pos ((i32_ofNat_le hN h4).mpr h5), w_X5_get_57, w_X5_get_58, if_pos (Or.inr h5)]
    · rw [if_neg (fun z => h5 ((i32_ofNat_le hN h4).mp z)), w_X5_get_48, T.1, egf_at (v := .ref q) rfl, w_X5_get_52, T.2, ega_at h4 (Nat.not_le.mp h5), w_X5_get_54, w_X5_get_58, if_neg (fun z => z.elim h4 h5)]
  · rw [if_neg h3, w_X5_get_24, tabget, if_pos (Or.inr (Or.inr (Or.inr (Int32.not_lt.mp h3))))]
theorem epa_at {t n : Nat} {g : Nat → Int32} {i x : Int32} {K : va_E → Prop} (h0 : ¬ i < 0) (h1 : i.toNatClampNeg < n) : epa (some (.inl (t, n, .inl g))) t i x K = K (.inl (t, n, .inl (upd g i.toNatClampNeg x))) := by
  unfold epa
  have hc : Nat.beq t t = true := Nat.beq_refl t
  simp only [hc, cond_true]
  rw [if_neg (fun z => z.elim h0 (fun q => absurd h1 (Nat.not_lt.mpr q)))]
theorem epf_at {c k : Nat} {fs : List Value} {v : Value} {K : va_E → Prop} (hk : Nat.blt k fs.length = true) (hf : xfit (fty c k) v = true) : epf (some (.inr (c, fs))) c k v K = K (.inr (c, fs.set k v)) := by
  unfold epf
  have hc : Nat.beq c c = true := Nat.beq_refl c
  simp only [hc, hk, hf, Bool.and_self, cond_true]
/-- what put leaves -/
def tabput (h : XH) (q N : Nat) (g : Nat → Int32) (w c i j x : Int32) : XH :=
  if i < 0 ∨ c ≤ i ∨ j < 0 ∨ w ≤ j then h else if i * w + j < 0 ∨ N ≤ (i * w + j).toNatClampNeg then h else hset h q (.inl (0, N, .inl (upd g (i * w + j).toNatClampNeg x)))
theorem s_X5_put {x : Int32} (T : TabAt h t q N g w c) (hN : N < 2147483648) : Call d m_X5_put [.ref t, .int i, .int j, .int x] h Q = Q (.inl none) (tabput h q N g w c i j x) := by
  rw [c_X5_put, w_X5_put_0]
  by_cases h0 : i < 0
  · rw [if_pos h0, w_X5_put_24, tabput, if_pos (Or.inl h0)]
  rw [if_neg h0, w_X5_put_4, T.1, egf_at (v := .int c) rfl, w_X5_put_9]
  by_cases h1 : c ≤ i
  · rw [if_pos h1, w_X5_put_24, tabput, if_pos (Or.inr (Or.inl h1))]
  rw [if_neg h1, w_X5_put_12]
  by_cases h2 : j < 0
  · rw [if_pos h2, w_X5_put_24, tabput, if_pos (Or.inr (Or.inr (Or.inl h2)))]
  rw [if_neg h2, w_X5_put_16, T.1, egf_at (v := .int w) rfl, w_X5_put_21]
  by_cases h3 : j < w
  · have hc : ¬ (i < 0 ∨ c ≤ i ∨ j < 0 ∨ w ≤ j) := by
      rintro (z | z | z | z)
      · exact h0 z
      · exact h1 z
      · exact h2 z
      · exact absurd h3 (Int32.not_lt.mpr z)
    rw [if_pos h3, w_X5_put_25, T.1, egf_at (v := .int w) rfl, w_X5_put_30, tabput, if_neg hc]
    by_cases h4 : i * w + j < 0
    · rw [if_pos h4, w_X5_put_58, if_pos (Or.inl h4)]
    rw [if_neg h4, w_X5_put_40, T.1, egf_at (v := .ref q) rfl, w_X5_put_46, T.2, elen_at, w_X5_put_47]
    by_cases h5 : N ≤ (i * w + j).toNatClampNeg
    · rw [if_pos ((i32_ofNat_le hN h4).mpr h5), w_X5_put_58, if_pos (Or.inr h5)]
    · rw [if_neg (fun z => h5 ((i32_ofNat_le hN h4).mp z)), w_X5_put_50, T.1, egf_at (v := .ref q) rfl, w_X5_put_54, T.2, epa_at h4 (Nat.not_le.mp h5), w_X5_put_58, if_neg (fun z => z.elim h4 h5)]
  · rw [if_neg h3, w_X5_put_24, tabput, if_pos (Or.inr (Or.inr (Or.inr (Int32.not_lt.mp h3))))]
end Tab
