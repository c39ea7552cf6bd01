/-! The units' part of what always holds; a finished permit's step. -/
noncomputable def prA (nu : Int) (U : Int → Int) (u : Int) : Int := zI (tg nu 11 U u 3 = -1) (uS nu U u) 0
noncomputable def PS (nu : Int) (U : Int → Int) : Int := su (prA nu U) 0 nu
def UI (dy nu : Int) (U : Int → Int) (c : Int) : Prop := (∀ u, 0 ≤ u → u < nu → (0 ≤ tg nu 11 U u 2 ∧ tg nu 11 U u 2 ≤ dy) ∧ (tg nu 11 U u 3 = -1 ∨ (0 ≤ tg nu 11 U u 3 ∧ tg nu 11 U u 3 ≤ dy)) ∧ (0 ≤ tg nu 11 U u 4 ∧ tg nu 11 U u 4 ≤ u) ∧ (∀ k, 0 ≤ k → k < 5 → 0 ≤ tg nu 11 U u (6 + k)) ∧ 1 ≤ uS nu U u ∧ uS nu U u ≤ c) ∧ (∀ u v, 0 ≤ u → u ≤ v → v < nu → tg nu 11 U u 2 ≤ tg nu 11 U v 2)
/-- a permit with these numbers can be carried out -/
def dn (nu : Int) (U : Int → Int) (k one two three four : Int) : Prop := (0 ≤ k ∧ k ≤ 5) ∧ (k = 0 → (1 ≤ three ∧ three ≤ 999) ∧ (0 ≤ four ∧ four < 5)) ∧ (1 ≤ k → k ≤ 4 → pr nu U one) ∧ (k = 1 → 1 ≤ two ∧ two ≤ 999 ∧ two < uS nu U one) ∧ (k = 2 → ¬ one = two ∧ pr nu U two) ∧ (k = 3 → 1 ≤ two ∧ two ≤ tg nu 11 U one (6 + three) ∧ (0 ≤ three ∧ three < 5) ∧ (0 ≤ four ∧ four < 5))
section St
variable {dy nu k one two three four t p c u i j : Int} {U V : Int → Int}
theorem cN_eq (hk : 0 ≤ k ∧ k ≤ 5) : cN k nu = nu + nK k := by
  rcases k6 hk with rfl | rfl | rfl | rfl | rfl | rfl
  · rfl
  · show nu + 1 + 1 = nu + 2; omega
  · rfl
  · rfl
  · show nu = nu + 0; omega
  · show nu = nu + 0; omega
theorem tg_u (hu : 0 ≤ u ∧ u < nu) (hj : 0 ≤ j ∧ j < 11) : tg nu 11 U u j = U (u * 11 + j) := tg_in (by omega)
theorem s5_ar (hu : 0 ≤ u ∧ u < nu) : s5 (ar U u) = uS nu U u := by
  unfold s5 uS
  rw [tg_u hu (by omega), tg_u hu (by omega), tg_u hu (by omega), tg_u hu (by omega), tg_u hu (by omega)]
  unfold ar
  rw [r5_0, r5_1, r5_2, r5_3, r5_4]
theorem ar_tg (hu : 0 ≤ u ∧ u < nu) (hj : 0 ≤ j ∧ j < 5) : ar U u j = tg nu 11 U u (6 + j) := by
  rw [ar_at hj, tg_u hu (by omega)]
theorem UI_le {c' dy' : Int} (h : UI dy nu U c) (hc : c ≤ c') (hd : dy ≤ dy') : UI dy' nu U c' := by
  refine ⟨fun u a b => ?_, h.2⟩
  obtain ⟨h1, h2, h3, h4, h5, h6⟩ := h.1 u a b
  exact ⟨⟨h1.1, by omega⟩, h2.imp id (fun z => ⟨z.1, by omega⟩), h3, h4, h5, by omega⟩
theorem prA_nn (h : UI dy nu U c) : ∀ j, 0 ≤ j → j < nu → 0 ≤ prA nu U j := by
  intro j a b
  unfold prA zI
  split
  · have := (h.1 j a b).2.2.2.2.1; omega
  · exact Int.le_refl _
theorem prA_p (h : pr nu U u) : prA nu U u = uS nu U u := by unfold prA; exact zI_t h.2
theorem PS_one (h : UI dy nu U c) (hp : pr nu U u) : uS nu U u ≤ PS nu U := by
  rw [← prA_p hp]
  exact su_term hp.1 (prA_nn h)
theorem PS_two (h : UI dy nu U c) (hp : pr nu U u) (hq : pr nu U j) (hn : ¬ u = j) : uS nu U u + uS nu U j ≤ PS nu U := by
  rw [← prA_p hp, ← prA_p hq]
  exact su_two hp.1 hq.1 hn (prA_nn h)
theorem cU_ne (hk : 0 ≤ k ∧ k ≤ 5) (hu : 0 ≤ u ∧ u < nu) (hj : 0 ≤ j ∧ j < 11) (h3 : ¬ j = 3) : tg (cN k nu) 11 (cU k one two three four t p nu U) u j = tg nu 11 U u j := by
  rw [cU_old hk hu hj, if_neg (fun z => h3 z.1)]
theorem cU_3c (hk : 0 ≤ k ∧ k ≤ 5) (hu : 0 ≤ u ∧ u < nu) (h : ¬ eb k one two u) : tg (cN k nu) 11 (cU k one two three four t p nu U) u 3 = tg nu 11 U u 3 := by
  rw [cU_old hk hu (by omega), if_neg (fun z => h z.2)]
theorem cU_3e (hk : 0 ≤ k ∧ k ≤ 5) (hu : 0 ≤ u ∧ u < nu) (h : eb k one two u) : tg (cN k nu) 11 (cU k one two three four t p nu U) u 3 = t := by
  rw [cU_old hk hu (by omega), if_pos ⟨rfl, h⟩]
theorem uS_old (hk : 0 ≤ k ∧ k ≤ 5) (hu : 0 ≤ u ∧ u < nu) : uS (cN k nu) (cU k one two three four t p nu U) u = uS nu U u := by
  unfold uS
  rw [cU_old hk hu (by omega), cU_old hk hu (by omega), cU_old hk hu (by omega), cU_old hk hu (by omega), cU_old hk hu (by omega), if_neg (by omega), if_neg (by omega), if_neg (by omega), if_neg (by omega), if_neg (by omega)]
theorem uS_new (hk : 0 ≤ k ∧ k ≤ 5) (hn : 0 ≤ nu) (hi : 0 ≤ i ∧ nu + i < cN k nu) : uS (cN k nu) (cU k one two three four t p nu U) (nu + i) = s5 (nA k one two three four U i) := by
  unfold uS s5
  rw [cU_new hk hn hi 6 (by omega) (by omega), cU_new hk hn hi 7 (by omega) (by omega), cU_new hk hn hi 8 (by omega) (by omega), cU_new hk hn hi 9 (by omega) (by omega), cU_new hk hn hi 10 (by omega) (by omega), mk_6, mk_7, mk_8, mk_9, mk_10]
theorem s5_ch {A : Int → Int} {x y z : Int} (hy : 0 ≤ y ∧ y < 5) (hz : 0 ≤ z ∧ z < 5) : s5 (chA A x y z) = s5 A := by
  unfold chA
  rw [s5_iup hz, s5_iup hy]
  omega
theorem ch_nn {A : Int → Int} {x y z k : Int} (hA : ∀ k, 0 ≤ k → k < 5 → 0 ≤ A k) (hx : 0 ≤ x ∧ x ≤ A y) (hy : 0 ≤ y ∧ y < 5) (hz : 0 ≤ z ∧ z < 5) (hk : 0 ≤ k ∧ k < 5) : 0 ≤ chA A x y z k := by
  unfold chA
  have g : ∀ m, 0 ≤ m → m < 5 → 0 ≤ iup A y (A y + -x) m := by
    intro m a b
    unfold iup
    split
    · omega
    · exact hA m a b
  unfold iup
  split
  · have := g z hz.1 hz.2
    unfold iup at this
    omega
  · have := g k hk.1 hk.2
    unfold iup at this
    exact this
/-- the areas of the new units are numbers from 0, and each has some -/
theorem nA_ok (h : UI dy nu U c) (hn : 0 ≤ nu) (D : dn nu U k one two three four) (hi : 0 ≤ i ∧ nu + i < cN k nu) : (∀ j, 0 ≤ j → j < 5 → 0 ≤ nA k one two three four U i j) ∧ 1 ≤ s5 (nA k one two three four U i) := by
  obtain ⟨hk, d0, d14, d1, d2, d3⟩ := D
  have base : 1 ≤ k → k ≤ 4 → (∀ j, 0 ≤ j → j < 5 → 0 ≤ ar U one j) ∧ s5 (ar U one) = uS nu U one ∧ 1 ≤ uS nu U one := by
    intro a b
    have q := d14 a b
    have z := h.1 one q.1.1 q.1.2
    refine ⟨fun j x y => ?_, s5_ar q.1, z.2.2.2.2.1⟩
    rw [ar_tg q.1 ⟨x, y⟩]
    exact z.2.2.2.1 j x y
  rcases k6 hk with rfl | rfl | rfl | rfl | rfl | rfl
  · obtain ⟨⟨x1, x2⟩, x3⟩ := d0 rfl
    have e : nA 0 one two three four U i = iup (fun _ => 0) four three := rfl
    rw [e]
    constructor
    · intro j a b
      unfold iup
      split
      · omega
      · exact Int.le_refl _
    · rw [s5_iup x3]
      show 1 ≤ 0 + 0 + 0 + 0 + 0 - 0 + three
      omega
  · obtain ⟨b1, b2, b3⟩ := base (by omega) (by omega)
    obtain ⟨x1, x2, x3⟩ := d1 rfl
    have s := shA_all b1 (by omega) (show 0 ≤ two ∧ two < s5 (ar U one) by omega)
    by_cases z : i = 0
    · have e : nA 1 one two three four U i = shA (ar U one) two := by
        unfold nA
        rw [if_neg (by omega), if_pos rfl, if_pos z]
      rw [e, s.1]
      exact ⟨fun j a b => (s.2 j a b).1, x1⟩
    · have e : nA 1 one two three four U i = r5 (ar U one 0 - shA (ar U one) two 0) (ar U one 1 - shA (ar U one) two 1) (ar U one 2 - shA (ar U one) two 2) (ar U one 3 - shA (ar U one) two 3) (ar U one 4 - shA (ar U one) two 4) := by
        unfold nA
        rw [if_neg (by omega), if_pos rfl, if_neg z]
      rw [e]
      constructor
      · intro j a b
        rcases k5 ⟨a, b⟩ with rfl | rfl | rfl | rfl | rfl
        · rw [r5_0]; have := (s.2 0 a b).2; omega
        · rw [r5_1]; have := (s.2 1 a b).2; omega
        · rw [r5_2]; have := (s.2 2 a b).2; omega
        · rw [r5_3]; have := (s.2 3 a b).2; omega
        · rw [r5_4]; have := (s.2 4 a b).2; omega
      · have s1 := s.1
        unfold s5 at s1 b2 ⊢
        rw [r5_0, r5_1, r5_2, r5_3, r5_4]
        omega
  · obtain ⟨b1, b2, b3⟩ := base (by omega) (by omega)
    obtain ⟨x1, x2⟩ := d2 rfl
    have z := h.1 two x2.1.1 x2.1.2
    have c1 : ∀ j, 0 ≤ j → j < 5 → 0 ≤ ar U two j := by
      intro j x y
      rw [ar_tg x2.1 ⟨x, y⟩]
      exact z.2.2.2.1 j x y
    have e : nA 2 one two three four U i = r5 (ar U one 0 + ar U two 0) (ar U one 1 + ar U two 1) (ar U one 2 + ar U two 2) (ar U one 3 + ar U two 3) (ar U one 4 + ar U two 4) := rfl
    rw [e]
    constructor
    · intro j a b
      have q1 := b1 j a b
      have q2 := c1 j a b
      rcases k5 ⟨a, b⟩ with rfl | rfl | rfl | rfl | rfl
      · rw [r5_0]; omega
      · rw [r5_1]; omega
      · rw [r5_2]; omega
      · rw [r5_3]; omega
      · rw [r5_4]; omega
    · have q0 := c1 0 (by omega) (by omega)
      have q1 := c1 1 (by omega) (by omega)
      have q2 := c1 2 (by omega) (by omega)
      have q3 := c1 3 (by omega) (by omega)
      have q4 := c1 4 (by omega) (by omega)
      unfold s5 at b2 ⊢
      rw [r5_0, r5_1, r5_2, r5_3, r5_4]
      omega
  · obtain ⟨b1, b2, b3⟩ := base (by omega) (by omega)
    obtain ⟨x1, x2, x3, x4⟩ := d3 rfl
    have q := d14 (by omega) (by omega)
    have e : nA 3 one two three four U i = chA (ar U one) two three four := rfl
    rw [e, s5_ch x3 x4]
    rw [← ar_tg q.1 x3] at x2
    exact ⟨fun j a b => ch_nn b1 ⟨by omega, x2⟩ x3 x4 ⟨a, b⟩, by omega⟩
  · have e : cN 4 nu = nu := rfl
    omega
  · have e : cN 5 nu = nu := rfl
    omega
/-- what a new unit has in all, at most -/
theorem nA_le (h : UI dy nu U c) (hps : PS nu U ≤ c) (h0 : 0 ≤ c) (hn : 0 ≤ nu) (D : dn nu U k one two three four) (hi : 0 ≤ i ∧ nu + i < cN k nu) : s5 (nA k one two three four U i) ≤ c + 999 := by
  have D' := D
  obtain ⟨hk, d0, d14, d1, d2, d3⟩ := D'
  rcases k6 hk with rfl | rfl | rfl | rfl | rfl | rfl
  · obtain ⟨⟨x1, x2⟩, x3⟩ := d0 rfl
    have e : nA 0 one two three four U i = iup (fun _ => 0) four three := rfl
    rw [e, s5_iup x3]
    show 0 + 0 + 0 + 0 + 0 - 0 + three ≤ c + 999
    omega
  · have q := d14 (by omega) (by omega)
    obtain ⟨x1, x2, x3⟩ := d1 rfl
    have z := h.1 one q.1.1 q.1.2
    have b1 : ∀ j, 0 ≤ j → j < 5 → 0 ≤ ar U one j := fun j a b => by rw [ar_tg q.1 ⟨a, b⟩]; exact z.2.2.2.1 j a b
    have b2 := s5_ar (U := U) q.1
    have s := shA_all b1 (by omega) (show 0 ≤ two ∧ two < s5 (ar U one) by omega)
    by_cases y : i = 0
    · have e : nA 1 one two three four U i = shA (ar U one) two := by
        unfold nA
        rw [if_neg (by omega), if_pos rfl, if_pos y]
      rw [e, s.1]
      omega
    · have e : nA 1 one two three four U i = r5 (ar U one 0 - shA (ar U one) two 0) (ar U one 1 - shA (ar U one) two 1) (ar U one 2 - shA (ar U one) two 2) (ar U one 3 - shA (ar U one) two 3) (ar U one 4 - shA (ar U one) two 4) := by
        unfold nA
        rw [if_neg (by omega), if_pos rfl, if_neg y]
      rw [e]
      have s1 := s.1
      unfold s5 at s1 b2 ⊢
      rw [r5_0, r5_1, r5_2, r5_3, r5_4]
      omega
  · have q := d14 (by omega) (by omega)
    obtain ⟨x1, x2⟩ := d2 rfl
    have a := PS_two h q x2 x1
    have b2 := s5_ar (U := U) q.1
    have b3 := s5_ar (U := U) x2.1
    have e : nA 2 one two three four U i = r5 (ar U one 0 + ar U two 0) (ar U one 1 + ar U two 1) (ar U one 2 + ar U two 2) (ar U one 3 + ar U two 3) (ar U one 4 + ar U two 4) := rfl
    rw [e]
    unfold s5 at b2 b3 ⊢
    rw [r5_0, r5_1, r5_2, r5_3, r5_4]
    omega
  · have q := d14 (by omega) (by omega)
    obtain ⟨x1, x2, x3, x4⟩ := d3 rfl
    have z := h.1 one q.1.1 q.1.2
    have b2 := s5_ar (U := U) q.1
    have e : nA 3 one two three four U i = chA (ar U one) two three four := rfl
    rw [e, s5_ch x3 x4]
    omega
  · have e : cN 4 nu = nu := rfl
    omega
  · have e : cN 5 nu = nu := rfl
    omega
theorem nG_ok (h : UI dy nu U c) (hn : 0 ≤ nu) (D : dn nu U k one two three four) (hk : k ≤ 3) : 0 ≤ nG k one two U ∧ nG k one two U ≤ nu := by
  obtain ⟨hk0, d0, d14, d1, d2, d3⟩ := D
  unfold nG
  by_cases c0 : k = 0
  · rw [if_pos c0]; omega
  · rw [if_neg c0]
    have q := d14 (by omega) (by omega)
    have z := (h.1 one q.1.1 q.1.2).2.2.1
    rw [tg_u q.1 (by omega)] at z
    by_cases c2 : k = 2
    · rw [if_pos c2]
      have q2 := (d2 c2).2
      have z2 := (h.1 two q2.1.1 q2.1.2).2.2.1
      rw [tg_u q2.1 (by omega)] at z2
      unfold hiU
      have := q.1
      have := q2.1
      split <;> omega
    · rw [if_neg c2]
      have := q.1
      omega
/-- the step keeps the units' part -/
theorem UI_step (h : UI dy nu U c) (hps : PS nu U ≤ c) (h0 : 0 ≤ c) (hn : 0 ≤ nu) (D : dn nu U k one two three four) (hd : 0 ≤ dy) : UI dy (cN k nu) (cU k one two three four dy p nu U) (c + 999) := by
  have hk := D.1
  have hcN := cN_eq (nu := nu) hk
  have hb := nKb (k := k)
  have new : ∀ u, nu ≤ u → u < cN k nu → ∀ j, 0 ≤ j → j < 11 → tg (cN k nu) 11 (cU k one two three four dy p nu U) u j = mk (nBl k one two U) (nFl k one two U) dy (-1) (nG k one two U) p (nA k one two three four U (u - nu)) j := by
    intro u a b j j0 j1
    have := cU_new (t := dy) (p := p) (one := one) (two := two) (three := three) (four := four) (U := U) hk hn (show 0 ≤ u - nu ∧ nu + (u - nu) < cN k nu by omega) j j0 j1
    rw [show nu + (u - nu) = u by omega] at this
    exact this
  constructor
  · intro u u0 u1
    by_cases cu : u < nu
    · have hu : 0 ≤ u ∧ u < nu := ⟨u0, cu⟩
      obtain ⟨z1, z2, z3, z4, z5, z6⟩ := h.1 u u0 cu
      rw [uS_old hk hu, cU_ne (j := 2) hk hu (by omega) (by omega), cU_ne (j := 4) hk hu (by omega) (by omega)]
      refine ⟨z1, ?_, z3, ?_, z5, by omega⟩
      · by_cases e : eb k one two u
        · rw [cU_3e hk hu e]
          right; omega
        · rw [cU_3c hk hu e]
          exact z2
      · intro j j0 j1
        rw [cU_ne hk hu (by omega) (by omega)]
        exact z4 j j0 j1
    · have hu : nu ≤ u := by omega
      have e := new u hu u1
      have hi : 0 ≤ u - nu ∧ nu + (u - nu) < cN k nu := by omega
      have a1 := nA_ok h hn D hi
      have a2 := nA_le h hps h0 hn D hi
      have a3 := uS_new (t := dy) (p := p) (one := one) (two := two) (three := three) (four := four) (U := U) hk hn hi
      rw [show nu + (u - nu) = u by omega] at a3
      have hk3 : k ≤ 3 := by
        refine Classical.byContradiction fun q => ?_
        rcases k6 hk with z | z | z | z | z | z
        · omega
        · omega
        · omega
        · omega
        · rw [z] at u1; have : cN 4 nu = nu := rfl; omega
        · rw [z] at u1; have : cN 5 nu = nu := rfl; omega
      have g := nG_ok h hn D hk3
      rw [e 2 (by omega) (by omega), e 3 (by omega) (by omega), e 4 (by omega) (by omega), mk_2, mk_3, mk_4, a3]
      refine ⟨⟨hd, Int.le_refl _⟩, Or.inl rfl, ⟨g.1, by omega⟩, ?_, a1.2, a2⟩
      intro j j0 j1
      rw [e (6 + j) (by omega) (by omega), mk_k j0]
      exact a1.1 j j0 j1
  · intro u v u0 uv v1
    have l2 : ∀ w, 0 ≤ w → w < nu → tg (cN k nu) 11 (cU k one two three four dy p nu U) w 2 = tg nu 11 U w 2 := by
      intro w a b
      rw [cU_old hk ⟨a, b⟩ (by omega), if_neg (by omega)]
    by_cases cv : v < nu
    · rw [l2 u u0 (by omega), l2 v (by omega) cv]
      exact h.2 u v u0 uv cv
    · rw [new v (by omega) v1 2 (by omega) (by omega), mk_2]
      by_cases cu : u < nu
      · rw [l2 u u0 cu]
        exact (h.1 u u0 cu).1.2
      · rw [new u (by omega) (by omega) 2 (by omega) (by omega), mk_2]
        exact Int.le_refl _
theorem su_upd2 {f g : Int → Int} {i n p q : Int} (hp : i ≤ p ∧ p < n) (hq : i ≤ q ∧ q < n) (hne : ¬ p = q) (h : ∀ j, i ≤ j → j < n → j ≠ p → j ≠ q → f j = g j) : su f i n = su g i n + (f p - g p) + (f q - g q) := by
  have a := su_upd (f := fun j => if j = p then f p else g j) (g := g) hp (fun j _ _ c => if_neg c)
  have b := su_upd (f := f) (g := fun j => if j = p then f p else g j) hq (fun j x y c => by
    by_cases e : j = p
    · rw [if_pos e, e]
    · rw [if_neg e]; exact h j x y e c)
  rw [if_pos rfl] at a
  rw [if_neg (fun z => hne z.symm)] at b
  omega
/-- the sum of the areas that are present grows by the areas of new units alone -/
theorem PS_step (h : UI dy nu U c) (hps : PS nu U ≤ c) (h0 : 0 ≤ c) (hn : 0 ≤ nu) (D : dn nu U k one two three four) (hd : 0 ≤ dy) : PS (cN k nu) (cU k one two three four dy p nu U) ≤ c + 999 := by
  have D' := D
  obtain ⟨hk, d0, d14, d1, d2, d3⟩ := D'
  have old : ∀ u, 0 ≤ u → u < nu → prA (cN k nu) (cU k one two three four dy p nu U) u = @ite Int (eb k one two u) (Classical.propDecidable _) 0 (prA nu U u) := by
    intro u a b
    unfold prA
    rw [uS_old hk ⟨a, b⟩, cU_old hk ⟨a, b⟩ (by omega)]
    by_cases e : eb k one two u
    · rw [if_pos ⟨rfl, e⟩, if_pos e, zI_f (by omega)]
    · rw [if_neg (fun z => e z.2), if_neg e]
  have new : ∀ i, 0 ≤ i → nu + i < cN k nu → prA (cN k nu) (cU k one two three four dy p nu U) (nu + i) = s5 (nA k one two three four U i) := by
    intro i a b
    unfold prA
    rw [uS_new hk hn ⟨a, b⟩, cU_new hk hn ⟨a, b⟩ 3 (by omega) (by omega), mk_3, zI_t rfl]
  have uo : ∀ u, pr nu U u → prA nu U u = uS nu U u := fun u q => prA_p q
  rcases k6 hk with rfl | rfl | rfl | rfl | rfl | rfl
  · obtain ⟨⟨x1, x2⟩, x3⟩ := d0 rfl
    have n0 := new 0 (by omega) (show nu + 0 < nu + 1 by omega)
    unfold PS
    rw [show cN 0 nu = nu + 1 from rfl] at old n0 ⊢
    rw [su_snoc _ hn, su_congr (g := prA nu U) (fun j a b => by rw [old j a b, if_neg (by unfold eb; omega)])]
    rw [show nu + 0 = nu by omega] at n0
    rw [n0, show nA 0 one two three four U 0 = iup (fun _ => 0) four three from rfl, s5_iup x3]
    show PS nu U + (0 + 0 + 0 + 0 + 0 - 0 + three) ≤ c + 999
    omega
  · have q := d14 (by omega) (by omega)
    obtain ⟨x1, x2, x3⟩ := d1 rfl
    have z := h.1 one q.1.1 q.1.2
    have b1 : ∀ j, 0 ≤ j → j < 5 → 0 ≤ ar U one j := fun j a b => by rw [ar_tg q.1 ⟨a, b⟩]; exact z.2.2.2.1 j a b
    have b2 := s5_ar (U := U) q.1
    have s := shA_all b1 (by omega) (show 0 ≤ two ∧ two < s5 (ar U one) by omega)
    have n0 := new 0 (by omega) (show nu + 0 < nu + 1 + 1 by omega)
    have n1 := new 1 (by omega) (show nu + 1 < nu + 1 + 1 by omega)
    unfold PS
    rw [show cN 1 nu = nu + 1 + 1 from rfl] at old n0 n1 ⊢
    rw [su_snoc _ (by omega), su_snoc _ hn, n1]
    rw [show nu + 0 = nu by omega] at n0
    rw [n0, su_upd (g := prA nu U) q.1 (fun j a b e => by rw [old j a b, if_neg (by unfold eb; omega)]), old one q.1.1 q.1.2, if_pos (by unfold eb; omega), uo one q]
    have e0 : s5 (nA 1 one two three four U 0) = two := s.1
    have e1 : s5 (nA 1 one two three four U 1) = uS nu U one - two := by
      rw [← b2]
      have s1 := s.1
      show s5 (r5 (ar U one 0 - shA (ar U one) two 0) (ar U one 1 - shA (ar U one) two 1) (ar U one 2 - shA (ar U one) two 2) (ar U one 3 - shA (ar U one) two 3) (ar U one 4 - shA (ar U one) two 4)) = _
      unfold s5 at s1 ⊢
      rw [r5_0, r5_1, r5_2, r5_3, r5_4]
      omega
    rw [e0, e1]
    show PS nu U + (0 - uS nu U one) + two + (uS nu U one - two) ≤ c + 999
    omega
  · have q := d14 (by omega) (by omega)
    obtain ⟨x1, x2⟩ := d2 rfl
    have b2 := s5_ar (U := U) q.1
    have b3 := s5_ar (U := U) x2.1
    have n0 := new 0 (by omega) (show nu + 0 < nu + 1 by omega)
    unfold PS
    rw [show cN 2 nu = nu + 1 from rfl] at old n0 ⊢
    rw [show nu + 0 = nu by omega] at n0
    rw [su_snoc _ hn, n0, su_upd2 (g := prA nu U) q.1 x2.1 x1 (fun j a b e f => by rw [old j a b, if_neg (by unfold eb; omega)]), old one q.1.1 q.1.2, if_pos (by unfold eb; omega), old two x2.1.1 x2.1.2, if_pos (by unfold eb; omega), uo one q, uo two x2]
    have e0 : s5 (nA 2 one two three four U 0) = uS nu U one + uS nu U two := by
      rw [← b2, ← b3]
      show s5 (r5 (ar U one 0 + ar U two 0) (ar U one 1 + ar U two 1) (ar U one 2 + ar U two 2) (ar U one 3 + ar U two 3) (ar U one 4 + ar U two 4)) = _
      unfold s5
      rw [r5_0, r5_1, r5_2, r5_3, r5_4]
      omega
    rw [e0]
    show PS nu U + (0 - uS nu U one) + (0 - uS nu U two) + (uS nu U one + uS nu U two) ≤ c + 999
    omega
  · have q := d14 (by omega) (by omega)
    obtain ⟨x1, x2, x3, x4⟩ := d3 rfl
    have b2 := s5_ar (U := U) q.1
    have n0 := new 0 (by omega) (show nu + 0 < nu + 1 by omega)
    unfold PS
    rw [show cN 3 nu = nu + 1 from rfl] at old n0 ⊢
    rw [show nu + 0 = nu by omega] at n0
    rw [su_snoc _ hn, n0, su_upd (g := prA nu U) q.1 (fun j a b e => by rw [old j a b, if_neg (by unfold eb; omega)]), old one q.1.1 q.1.2, if_pos (by unfold eb; omega), uo one q]
    rw [show nA 3 one two three four U 0 = chA (ar U one) two three four from rfl, s5_ch x3 x4, b2]
    show PS nu U + (0 - uS nu U one) + uS nu U one ≤ c + 999
    omega
  · have q := d14 (by omega) (by omega)
    have z := h.1 one q.1.1 q.1.2
    unfold PS
    rw [show cN 4 nu = nu from rfl] at old ⊢
    rw [su_upd (g := prA nu U) q.1 (fun j a b e => by rw [old j a b, if_neg (by unfold eb; omega)]), old one q.1.1 q.1.2, if_pos (by unfold eb; omega), uo one q]
    show PS nu U + (0 - uS nu U one) ≤ c + 999
    have := z.2.2.2.2.1
    omega
  · unfold PS
    rw [show cN 5 nu = nu from rfl] at old ⊢
    rw [su_congr (g := prA nu U) (fun j a b => by rw [old j a b, if_neg (by unfold eb; omega)])]
    show PS nu U ≤ c + 999
    omega
/-- who can be carried out can be carried out by the class -/
theorem cP_dn {nb : Int} {B : Int → Int} (h : UI dy nu U c) (hc : c ≤ 40000) (D : dn nu U k one two three four) (hn : 0 ≤ nu) (h60 : nu + nK k ≤ 60) (hb : k = 5 → 0 ≤ tg nb 7 B one 0 ∧ tg nb 7 B one 0 ≤ 6) : cP k one two three four nb B nu U := by
  obtain ⟨hk, d0, d14, d1, d2, d3⟩ := D
  have g : ∀ u, 0 ≤ u → u < nu → -1 ≤ U (u * 11 + 4) ∧ U (u * 11 + 4) < 1000 := by
    intro u a b
    have z := (h.1 u a b).2.2.1
    rw [tg_u ⟨a, b⟩ (by omega)] at z
    have := nKb (k := k)
    omega
  have n1 : k = 0 ∨ k = 2 ∨ k = 3 → nu < 60 := by
    intro q
    have : nK k = 1 := by unfold nK; rw [if_pos q]
    omega
  refine ⟨hk, fun q => ⟨n1 (Or.inl q), (d0 q).2⟩, fun q => ?_, fun q => ?_, fun q => ?_, fun q => (d14 (by omega) (by omega)).1, hb⟩
  · have p := d14 (by omega) (by omega)
    have z := h.1 one p.1.1 p.1.2
    have : nK k = 2 := by rw [q]; rfl
    refine ⟨by omega, p.1, ⟨(d1 q).1, (d1 q).2.1⟩, g one p.1.1 p.1.2, fun j a b => ?_, ?_⟩
    · rw [ar_tg p.1 ⟨a, b⟩]
      refine ⟨z.2.2.2.1 j a b, ?_⟩
      have w0 := z.2.2.2.1 0 (by omega) (by omega)
      have w1 := z.2.2.2.1 1 (by omega) (by omega)
      have w2 := z.2.2.2.1 2 (by omega) (by omega)
      have w3 := z.2.2.2.1 3 (by omega) (by omega)
      have w4 := z.2.2.2.1 4 (by omega) (by omega)
      have w5 := z.2.2.2.2.2
      unfold uS at w5
      rw [show (6 : Int) + 0 = 6 from rfl] at w0
      rw [show (6 : Int) + 1 = 7 from rfl] at w1
      rw [show (6 : Int) + 2 = 8 from rfl] at w2
      rw [show (6 : Int) + 3 = 9 from rfl] at w3
      rw [show (6 : Int) + 4 = 10 from rfl] at w4
      rcases k5 ⟨a, b⟩ with e | e | e | e | e
      · rw [e, show (6 : Int) + 0 = 6 from rfl]; omega
      · rw [e, show (6 : Int) + 1 = 7 from rfl]; omega
      · rw [e, show (6 : Int) + 2 = 8 from rfl]; omega
      · rw [e, show (6 : Int) + 3 = 9 from rfl]; omega
      · rw [e, show (6 : Int) + 4 = 10 from rfl]; omega
    · rw [s5_ar p.1]
      have := z.2.2.2.2.1
      omega
  · have p := d14 (by omega) (by omega)
    have p2 := d2 q
    exact ⟨n1 (Or.inr (Or.inl q)), p.1, p2.2.1, by omega, g one p.1.1 p.1.2, g two p2.2.1.1 p2.2.1.2⟩
  · have p := d14 (by omega) (by omega)
    have p3 := d3 q
    exact ⟨n1 (Or.inr (Or.inr q)), p.1, g one p.1.1 p.1.2, p3.2.2.1, p3.2.2.2⟩
end St
