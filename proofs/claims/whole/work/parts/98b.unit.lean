/-! Sums once more. -/
theorem sm_snoc (g : Int → Int) : ∀ (k : Nat) (i : Int), sm g i (k + 1) = sm g i k + g (i + k)
  | 0, i => by
    show g i + 0 = 0 + g (i + ((0 : Nat) : Int))
    rw [show i + ((0 : Nat) : Int) = i by omega]
    omega
  | k + 1, i => by
    show g i + sm g (i + 1) (k + 1) = (g i + sm g (i + 1) k) + g (i + ((k + 1 : Nat) : Int))
    rw [sm_snoc g k (i + 1), show i + 1 + (k : Int) = i + ((k + 1 : Nat) : Int) by omega]
    omega
theorem su_snoc (g : Int → Int) {i n : Int} (h : i ≤ n) : su g i (n + 1) = su g i n + g n := by
  unfold su
  rw [show (n + 1 - i).toNat = (n - i).toNat + 1 by omega, sm_snoc, show i + ((n - i).toNat : Int) = n by omega]
theorem su_nn {g : Int → Int} {i n : Int} (h : ∀ j, i ≤ j → j < n → 0 ≤ g j) : 0 ≤ su g i n := by
  have key : ∀ (k : Nat) (i : Int), (∀ j, i ≤ j → j < i + k → 0 ≤ g j) → 0 ≤ sm g i k := by
    intro k
    induction k with
    | zero => intro i _; exact Int.le_refl _
    | succ k ih =>
      intro i h
      unfold sm
      have a := ih (i + 1) (fun j a b => h j (by omega) (by omega))
      have b := h i (by omega) (by omega)
      omega
  exact key _ _ (fun j a b => h j a (by omega))
theorem su_upd {f g : Int → Int} {i n p : Int} (hp : i ≤ p ∧ p < n) (h : ∀ j, i ≤ j → j < n → j ≠ p → f j = g j) : su f i n = su g i n + (f p - g p) := by
  rw [su_congr (f := f) (g := fun j => g j + (if j = p then f p - g p else 0)) (fun j a b => by
    by_cases c : j = p
    · subst c; rw [if_pos rfl]; omega
    · rw [if_neg c, h j a b c]; omega), su_add (by omega), su_one hp.1 hp.2]
theorem su_term {g : Int → Int} {i n p : Int} (hp : i ≤ p ∧ p < n) (h : ∀ j, i ≤ j → j < n → 0 ≤ g j) : g p ≤ su g i n := by
  have a := su_upd (f := fun j => if j = p then 0 else g j) (g := g) hp (fun j _ _ c => if_neg c)
  have b : 0 ≤ su (fun j => if j = p then 0 else g j) i n := su_nn (fun j x y => by
    by_cases c : j = p
    · rw [if_pos c]; exact Int.le_refl _
    · rw [if_neg c]; exact h j x y)
  rw [if_pos rfl] at a
  omega
theorem su_two {g : Int → Int} {i n p q : Int} (hp : i ≤ p ∧ p < n) (hq : i ≤ q ∧ q < n) (hne : p ≠ q) (h : ∀ j, i ≤ j → j < n → 0 ≤ g j) : g p + g q ≤ su g i n := by
  have a := su_upd (f := fun j => if j = p then 0 else g j) (g := g) hp (fun j _ _ c => if_neg c)
  have b : (if q = p then 0 else g q) ≤ su (fun j => if j = p then 0 else g j) i n := su_term (g := fun j => if j = p then 0 else g j) hq (fun j x y => by
    by_cases c : j = p
    · rw [if_pos c]; exact Int.le_refl _
    · rw [if_neg c]; exact h j x y)
  rw [if_pos rfl] at a
  rw [if_neg (fun z => hne z.symm)] at b
  omega
theorem su_pre {g : Int → Int} {n m : Int} (h0 : 0 ≤ n) (hm : n ≤ m) (h : ∀ j, 0 ≤ j → j < m → 0 ≤ g j) : su g 0 n ≤ su g 0 m := by
  have key : ∀ (k : Nat), n + k ≤ m → su g 0 n ≤ su g 0 (n + k) := by
    intro k
    induction k with
    | zero => intro _; rw [show n + ((0 : Nat) : Int) = n by omega]; exact Int.le_refl _
    | succ k ih =>
      intro hk
      have a := ih (by omega)
      have b := h (n + k) (by omega) (by omega)
      rw [show n + ((k + 1 : Nat) : Int) = (n + k) + 1 by omega, su_snoc g (by omega)]
      omega
  have := key (m - n).toNat (by omega)
  rw [show n + ((m - n).toNat : Int) = m by omega] at this
  exact this
/-! The shares of a split. -/
theorem amax_ge {rm : Int → Int} {k : Int} (hk : 0 ≤ k ∧ k < 5) : rm k ≤ rm (amax rm) := by
  have key : ∀ (n : Nat) (i m : Int), (∀ j, 0 ≤ j → j < i → rm j ≤ rm m) → ∀ j, 0 ≤ j → j < i + n → rm j ≤ rm (amk rm n i m) := by
    intro n
    induction n with
    | zero => intro i m h j a b; exact h j a (by omega)
    | succ n ih =>
      intro i m h j a b
      unfold amk
      refine ih (i + 1) _ ?_ j a (by omega)
      intro j a b
      split
      · by_cases c : j = i
        · subst c; exact Int.le_refl _
        · have := h j a (by omega); omega
      · by_cases c : j = i
        · subst c; omega
        · exact h j a (by omega)
  exact key 4 1 0 (fun j a b => by rw [show j = 0 by omega]; exact Int.le_refl _) k hk.1 (by omega)
theorem k5 {k : Int} (h : 0 ≤ k ∧ k < 5) : k = 0 ∨ k = 1 ∨ k = 2 ∨ k = 3 ∨ k = 4 := by omega
theorem s5_iup {a : Int → Int} {m x : Int} (h : 0 ≤ m ∧ m < 5) : s5 (iup a m x) = s5 a - a m + x := by
  unfold s5
  rcases k5 h with rfl | rfl | rfl | rfl | rfl <;> simp only [iup] <;> simp <;> omega
theorem shk_sum : ∀ (n : Nat) (a rm : Int → Int), s5 (shk n a rm) = s5 a + n
  | 0, a, rm => by show s5 a = s5 a + ((0 : Nat) : Int); omega
  | n + 1, a, rm => by
    unfold shk
    rw [shk_sum n, s5_iup amaxR]
    omega
theorem shk_nn {k : Int} : ∀ (n : Nat) (a rm : Int → Int), 0 ≤ a k → 0 ≤ shk n a rm k
  | 0, _, _, h => h
  | n + 1, a, rm, h => by
    unfold shk
    refine shk_nn n _ _ ?_
    unfold iup
    split
    · next e => rw [← e]; omega
    · exact h
def ps5 (rm : Int → Int) : Int := (if 0 < rm 0 then rm 0 else 0) + (if 0 < rm 1 then rm 1 else 0) + (if 0 < rm 2 then rm 2 else 0) + (if 0 < rm 3 then rm 3 else 0) + (if 0 < rm 4 then rm 4 else 0)
theorem ps5_iup {rm : Int → Int} {m : Int} (h : 0 ≤ m ∧ m < 5) : ps5 (iup rm m (-1)) = ps5 rm - (if 0 < rm m then rm m else 0) := by
  unfold ps5
  rcases k5 h with rfl | rfl | rfl | rfl | rfl <;> simp only [iup] <;> simp <;> omega
theorem shk_le {A : Int → Int} {S : Int} (hS : 0 < S) : ∀ (n : Nat) (a rm : Int → Int), (∀ k, 0 ≤ k → k < 5 → a k ≤ A k ∧ (0 < rm k → a k + 1 ≤ A k) ∧ rm k < S) → n * S ≤ ps5 rm → ∀ k, 0 ≤ k → k < 5 → shk n a rm k ≤ A k
  | 0, a, rm, h, _, k, k0, k1 => (h k k0 k1).1
  | n + 1, a, rm, h, hp, k, k0, k1 => by
    unfold shk
    have hm := amaxR (rm := rm)
    have hx := h (amax rm) hm.1 hm.2
    have e : ((n + 1 : Nat) : Int) * S = n * S + S := by
      rw [show ((n + 1 : Nat) : Int) = (n : Int) + 1 by omega, Int.add_mul, Int.one_mul]
    have hnS : 0 ≤ (n : Int) * S := Int.mul_nonneg (by omega) (by omega)
    have pos : 0 < rm (amax rm) := by
      have g0 := amax_ge (rm := rm) (k := 0) (by omega)
      have g1 := amax_ge (rm := rm) (k := 1) (by omega)
      have g2 := amax_ge (rm := rm) (k := 2) (by omega)
      have g3 := amax_ge (rm := rm) (k := 3) (by omega)
      have g4 := amax_ge (rm := rm) (k := 4) (by omega)
      refine Classical.byContradiction fun q => ?_
      unfold ps5 at hp
      rw [if_neg (by omega), if_neg (by omega), if_neg (by omega), if_neg (by omega), if_neg (by omega)] at hp
      omega
    refine shk_le hS n _ _ ?_ ?_ k k0 k1
    · intro j j0 j1
      by_cases c : j = amax rm
      · rw [← c]
        rw [← c] at hx pos
        rw [iup_eq, iup_eq]
        exact ⟨hx.2.1 pos, fun q => by omega, by omega⟩
      · rw [iup_ne (by omega), iup_ne (by omega)]
        exact h j j0 j1
    · rw [ps5_iup hm, if_pos pos]
      omega
theorem tdm {A x S : Int} (hA : 0 ≤ A) (hx : 0 ≤ x) (hS : 0 < S) : ∃ q r : Int, (A * x).tdiv S = q ∧ (A * x).tmod S = r ∧ S * q + r = A * x ∧ 0 ≤ r ∧ r < S ∧ 0 ≤ q := by
  have h := Int.mul_nonneg hA hx
  refine ⟨(A * x) / S, (A * x) % S, Int.tdiv_eq_ediv_of_nonneg h, Int.tmod_eq_emod_of_nonneg h, Int.mul_ediv_add_emod _ _, Int.emod_nonneg _ (by omega), Int.emod_lt_of_pos _ hS, Int.ediv_nonneg h (by omega)⟩
theorem qle {A x S q r : Int} (hA : 0 ≤ A) (hx : x < S) (hS : 0 < S) (e : S * q + r = A * x) (hr : 0 ≤ r) : q ≤ A ∧ (0 < r → q + 1 ≤ A) := by
  have h1 : A * x ≤ A * S := Int.mul_le_mul_of_nonneg_left (by omega) hA
  rw [Int.mul_comm A S] at h1
  constructor
  · refine Classical.byContradiction fun c => ?_
    have := Int.mul_le_mul_of_nonneg_left (show A + 1 ≤ q by omega) (show 0 ≤ S by omega)
    rw [Int.mul_add, Int.mul_one] at this
    omega
  · intro h0
    refine Classical.byContradiction fun c => ?_
    have := Int.mul_le_mul_of_nonneg_left (show A ≤ q by omega) (show 0 ≤ S by omega)
    omega
section Sh
variable {A : Int → Int} {x : Int}
theorem shA_all (hA : ∀ k, 0 ≤ k → k < 5 → 0 ≤ A k) (hS : 0 < s5 A) (hx : 0 ≤ x ∧ x < s5 A) : s5 (shA A x) = x ∧ (∀ k, 0 ≤ k → k < 5 → 0 ≤ shA A x k ∧ shA A x k ≤ A k) := by
  obtain ⟨q0, r0, e0, f0, g0, a0, b0, c0⟩ := tdm (hA 0 (by omega) (by omega)) hx.1 hS
  obtain ⟨q1, r1, e1, f1, g1, a1, b1, c1⟩ := tdm (hA 1 (by omega) (by omega)) hx.1 hS
  obtain ⟨q2, r2, e2, f2, g2, a2, b2, c2⟩ := tdm (hA 2 (by omega) (by omega)) hx.1 hS
  obtain ⟨q3, r3, e3, f3, g3, a3, b3, c3⟩ := tdm (hA 3 (by omega) (by omega)) hx.1 hS
  obtain ⟨q4, r4, e4, f4, g4, a4, b4, c4⟩ := tdm (hA 4 (by omega) (by omega)) hx.1 hS
  have hq : q5 A x (s5 A) = r5 q0 q1 q2 q3 q4 := by unfold q5; rw [e0, e1, e2, e3, e4]
  have hm : m5 A x (s5 A) = r5 r0 r1 r2 r3 r4 := by unfold m5; rw [f0, f1, f2, f3, f4]
  have hs : s5 (q5 A x (s5 A)) = q0 + q1 + q2 + q3 + q4 := by rw [hq]; unfold s5; rw [r5_0, r5_1, r5_2, r5_3, r5_4]
  have hd : s5 A * (x - (q0 + q1 + q2 + q3 + q4)) = r0 + r1 + r2 + r3 + r4 := by
    have h1 : s5 A * x = A 0 * x + A 1 * x + A 2 * x + A 3 * x + A 4 * x := by
      show (A 0 + A 1 + A 2 + A 3 + A 4) * x = _
      rw [Int.add_mul, Int.add_mul, Int.add_mul, Int.add_mul]
    rw [Int.mul_sub, Int.mul_add, Int.mul_add, Int.mul_add, Int.mul_add]
    omega
  have hn : 0 ≤ x - (q0 + q1 + q2 + q3 + q4) := by
    refine Classical.byContradiction fun c => ?_
    have := Int.mul_le_mul_of_nonneg_left (show x - (q0 + q1 + q2 + q3 + q4) ≤ -1 by omega) (show 0 ≤ s5 A by omega)
    omega
  refine ⟨?_, ?_⟩
  · unfold shA
    rw [shk_sum, hs]
    omega
  · intro k k0 k1
    constructor
    · unfold shA
      refine shk_nn _ _ _ ?_
      rw [hq]
      rcases k5 ⟨k0, k1⟩ with rfl | rfl | rfl | rfl | rfl
      · rw [r5_0]; exact c0
      · rw [r5_1]; exact c1
      · rw [r5_2]; exact c2
      · rw [r5_3]; exact c3
      · rw [r5_4]; exact c4
    · unfold shA
      refine shk_le hS _ _ _ ?_ ?_ k k0 k1
      · intro j j0 j1
        rw [hq, hm]
        rcases k5 ⟨j0, j1⟩ with rfl | rfl | rfl | rfl | rfl
        · rw [r5_0, r5_0]; have := qle (hA 0 (by omega) (by omega)) hx.2 hS g0 a0; exact ⟨this.1, this.2, b0⟩
        · rw [r5_1, r5_1]; have := qle (hA 1 (by omega) (by omega)) hx.2 hS g1 a1; exact ⟨this.1, this.2, b1⟩
        · rw [r5_2, r5_2]; have := qle (hA 2 (by omega) (by omega)) hx.2 hS g2 a2; exact ⟨this.1, this.2, b2⟩
        · rw [r5_3, r5_3]; have := qle (hA 3 (by omega) (by omega)) hx.2 hS g3 a3; exact ⟨this.1, this.2, b3⟩
        · rw [r5_4, r5_4]; have := qle (hA 4 (by omega) (by omega)) hx.2 hS g4 a4; exact ⟨this.1, this.2, b4⟩
      · rw [hs, show (((x - (q0 + q1 + q2 + q3 + q4)).toNat : Nat) : Int) = x - (q0 + q1 + q2 + q3 + q4) by omega, Int.mul_comm, hd, hm]
        unfold ps5
        rw [r5_0, r5_1, r5_2, r5_3, r5_4]
        have z : ∀ r : Int, 0 ≤ r → (if 0 < r then r else 0) = r := by intro r h; split <;> omega
        rw [z _ a0, z _ a1, z _ a2, z _ a3, z _ a4]
        exact Int.le_refl _
end Sh
/-! What a finished permit does to the rows of units. -/
theorem tg_iup3 {nu u o j t : Int} {U : Int → Int} (hu : 0 ≤ u ∧ u < nu) (hj : 0 ≤ j ∧ j < 11) : tg nu 11 (iup U (o * 11 + 3) t) u j = if u = o ∧ j = 3 then t else tg nu 11 U u j := by
  rw [tg_in (by omega), tg_in (by omega)]
  unfold iup
  by_cases c : u = o ∧ j = 3
  · rw [if_pos c, if_pos (by omega)]
  · rw [if_neg c, if_neg (by omega)]
/-- p ends u -/
def eb (k one two u : Int) : Prop := (1 ≤ k ∧ k ≤ 4 ∧ u = one) ∨ (k = 2 ∧ u = two)
theorem k6 {k : Int} (h : 0 ≤ k ∧ k ≤ 5) : k = 0 ∨ k = 1 ∨ k = 2 ∨ k = 3 ∨ k = 4 ∨ k = 5 := by omega
theorem cN_k {k nu : Int} : cN k nu = if k = 0 ∨ k = 2 ∨ k = 3 then nu + 1 else if k = 1 then nu + 1 + 1 else nu := rfl
theorem cU_old {k one two three four t p nu u j : Int} {U : Int → Int} (hk : 0 ≤ k ∧ k ≤ 5) (hu : 0 ≤ u ∧ u < nu) (hj : 0 ≤ j ∧ j < 11) : tg (cN k nu) 11 (cU k one two three four t p nu U) u j = @ite Int (j = 3 ∧ eb k one two u) (Classical.propDecidable _) t (tg nu 11 U u j) := by
  rcases k6 hk with rfl | rfl | rfl | rfl | rfl | rfl
  · rw [cU_0, show cN 0 nu = nu + 1 from rfl, tg_rw hj hu, if_neg (by unfold eb; omega)]
  · rw [cU_1, show cN 1 nu = nu + 1 + 1 from rfl, tg_rw hj (by omega), tg_rw hj hu, tg_iup3 hu hj]
    by_cases c : u = one ∧ j = 3
    · rw [if_pos c, if_pos (by unfold eb; omega)]
    · rw [if_neg c, if_neg (by unfold eb; omega)]
  · rw [cU_2, show cN 2 nu = nu + 1 from rfl, tg_rw hj hu, tg_iup3 hu hj, tg_iup3 hu hj]
    by_cases c : u = two ∧ j = 3
    · rw [if_pos c, if_pos (by unfold eb; omega)]
    · rw [if_neg c]
      by_cases c2 : u = one ∧ j = 3
      · rw [if_pos c2, if_pos (by unfold eb; omega)]
      · rw [if_neg c2, if_neg (by unfold eb; omega)]
  · rw [cU_3, show cN 3 nu = nu + 1 from rfl, tg_rw hj hu, tg_iup3 hu hj]
    by_cases c : u = one ∧ j = 3
    · rw [if_pos c, if_pos (by unfold eb; omega)]
    · rw [if_neg c, if_neg (by unfold eb; omega)]
  · rw [cU_4, show cN 4 nu = nu from rfl, tg_iup3 hu hj]
    by_cases c : u = one ∧ j = 3
    · rw [if_pos c, if_pos (by unfold eb; omega)]
    · rw [if_neg c, if_neg (by unfold eb; omega)]
  · rw [cU_5, show cN 5 nu = nu from rfl, if_neg (by unfold eb; omega)]
/-- the areas of the new units -/
def nA (k one two three four : Int) (U : Int → Int) (i : Int) : Int → Int :=
  if k = 0 then iup (fun _ => 0) four three
  else if k = 1 then (if i = 0 then shA (ar U one) two else r5 (ar U one 0 - shA (ar U one) two 0) (ar U one 1 - shA (ar U one) two 1) (ar U one 2 - shA (ar U one) two 2) (ar U one 3 - shA (ar U one) two 3) (ar U one 4 - shA (ar U one) two 4))
  else if k = 2 then r5 (ar U one 0 + ar U two 0) (ar U one 1 + ar U two 1) (ar U one 2 + ar U two 2) (ar U one 3 + ar U two 3) (ar U one 4 + ar U two 4)
  else chA (ar U one) two three four
def nG (k one two : Int) (U : Int → Int) : Int := if k = 0 then 0 else if k = 2 then U (hiU U one two * 11 + 4) + 1 else U (one * 11 + 4) + 1
def nBl (k one two : Int) (U : Int → Int) : Int := if k = 0 then one else if k = 2 then U (hiU U one two * 11 + 0) else U (one * 11 + 0)
def nFl (k one two : Int) (U : Int → Int) : Int := if k = 0 then two else if k = 2 then U (hiU U one two * 11 + 1) else U (one * 11 + 1)
theorem cU_new {k one two three four t p nu i : Int} {U : Int → Int} (hk : 0 ≤ k ∧ k ≤ 5) (hn : 0 ≤ nu) (hi : 0 ≤ i ∧ nu + i < cN k nu) : ∀ j, 0 ≤ j → j < 11 → tg (cN k nu) 11 (cU k one two three four t p nu U) (nu + i) j = mk (nBl k one two U) (nFl k one two U) t (-1) (nG k one two U) p (nA k one two three four U i) j := by
  rcases k6 hk with rfl | rfl | rfl | rfl | rfl | rfl
  · have e : cN 0 nu = nu + 1 := rfl
    rw [e] at hi
    intro j j0 j1
    rw [cU_0, e, tg_in (by omega), show nu + i = nu by omega, rw_at ⟨j0, j1⟩]
    rfl
  · have e : cN 1 nu = nu + 1 + 1 := rfl
    rw [e] at hi
    intro j j0 j1
    rw [cU_1, e]
    by_cases c : i = 0
    · subst c
      rw [tg_rw ⟨j0, j1⟩ (by omega), tg_in (by omega), show nu + 0 = nu by omega, rw_at ⟨j0, j1⟩]
      rfl
    · rw [tg_in (by omega), show nu + i = nu + 1 by omega, rw_at ⟨j0, j1⟩]
      have e2 : nA 1 one two three four U i = r5 (ar U one 0 - shA (ar U one) two 0) (ar U one 1 - shA (ar U one) two 1) (ar U one 2 - shA (ar U one) two 2) (ar U one 3 - shA (ar U one) two 3) (ar U one 4 - shA (ar U one) two 4) := by
        unfold nA
        rw [if_neg (by omega), if_pos rfl, if_neg c]
      rw [e2]
      rfl
  · have e : cN 2 nu = nu + 1 := rfl
    rw [e] at hi
    intro j j0 j1
    rw [cU_2, e, tg_in (by omega), show nu + i = nu by omega, rw_at ⟨j0, j1⟩]
    rfl
  · have e : cN 3 nu = nu + 1 := rfl
    rw [e] at hi
    intro j j0 j1
    rw [cU_3, e, tg_in (by omega), show nu + i = nu by omega, rw_at ⟨j0, j1⟩]
    rfl
  · have e : cN 4 nu = nu := rfl
    omega
  · have e : cN 5 nu = nu := rfl
    omega
