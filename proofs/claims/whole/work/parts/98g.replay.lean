/-! Carrying out again tells the same. -/
/-- the same rows of units -/
def eqU (n : Int) (U V : Int → Int) : Prop := ∀ u j, 0 ≤ u → u < n → 0 ≤ j → j < 11 → tg n 11 U u j = tg n 11 V u j
theorem su_ext0 {g : Int → Int} {n m : Int} (h0 : 0 ≤ n) (hm : n ≤ m) (h : ∀ j, n ≤ j → j < m → g j = 0) : su g 0 m = su g 0 n := by
  have key : ∀ (k : Nat), n + k ≤ m → su g 0 (n + k) = su g 0 n := by
    intro k
    induction k with
    | zero => intro _; rw [show n + ((0 : Nat) : Int) = n by omega]
    | succ k ih =>
      intro hk
      rw [show n + ((k + 1 : Nat) : Int) = (n + k) + 1 by omega, su_snoc g (by omega), ih (by omega), h (n + k) (by omega) (by omega)]
      omega
  have := key (m - n).toNat (by omega)
  rw [show n + ((m - n).toNat : Int) = m by omega] at this
  exact this
section Re
variable {dy nb nu np nf n : Int} {B U V P F : Int → Int} {p q s x u b i j k one two three four c t T f z D : Int}
theorem eqU_uS (h : eqU n U V) (hu : 0 ≤ u ∧ u < n) : uS n U u = uS n V u := by
  unfold uS
  rw [h u 6 hu.1 hu.2 (by omega) (by omega), h u 7 hu.1 hu.2 (by omega) (by omega), h u 8 hu.1 hu.2 (by omega) (by omega), h u 9 hu.1 hu.2 (by omega) (by omega), h u 10 hu.1 hu.2 (by omega) (by omega)]
theorem eqU_pr (h : eqU n U V) : pr n U u → pr n V u := by
  rintro ⟨a, b⟩
  exact ⟨a, by rw [← h u 3 a.1 a.2 (by omega) (by omega)]; exact b⟩
theorem eqU_sym (h : eqU n U V) : eqU n V U := fun u j a b c d => (h u j a b c d).symm
theorem eqU_dn (h : eqU n U V) (g : dn n U k one two three four) : dn n V k one two three four := by
  obtain ⟨hk, d0, d14, d1, d2, d3⟩ := g
  refine ⟨hk, d0, fun a b => eqU_pr h (d14 a b), fun e => ?_, fun e => ⟨(d2 e).1, eqU_pr h (d2 e).2⟩, fun e => ?_⟩
  · rw [← eqU_uS h (d14 (by omega) (by omega)).1]
    exact d1 e
  · have y := (d14 (by omega) (by omega)).1
    have z := d3 e
    rw [← h one (6 + three) y.1 y.2 (by omega) (by omega)]
    exact z
theorem eqU_UI (h : eqU n U V) (g : UI T n U c) : UI T n V c := by
  constructor
  · intro u a b
    have z := g.1 u a b
    rw [← h u 2 a b (by omega) (by omega), ← h u 3 a b (by omega) (by omega), ← h u 4 a b (by omega) (by omega), ← eqU_uS h ⟨a, b⟩]
    refine ⟨z.1, z.2.1, z.2.2.1, fun k k0 k1 => ?_, z.2.2.2.2⟩
    rw [← h u (6 + k) a b (by omega) (by omega)]
    exact z.2.2.2.1 k k0 k1
  · intro u v a b d
    rw [← h u 2 a (by omega) (by omega) (by omega), ← h v 2 (by omega) d (by omega) (by omega)]
    exact g.2 u v a b d
theorem eqU_ar (h : eqU n U V) (hu : 0 ≤ u ∧ u < n) : ar U u = ar V u := by
  have e : ∀ j, 0 ≤ j → j < 11 → U (u * 11 + j) = V (u * 11 + j) := by
    intro j a b
    have := h u j hu.1 hu.2 a b
    rw [tg_u hu ⟨a, b⟩, tg_u hu ⟨a, b⟩] at this
    exact this
  unfold ar
  rw [e 6 (by omega) (by omega), e 7 (by omega) (by omega), e 8 (by omega) (by omega), e 9 (by omega) (by omega), e 10 (by omega) (by omega)]
theorem eqU_at (h : eqU n U V) (hu : 0 ≤ u ∧ u < n) (hj : 0 ≤ j ∧ j < 11) : U (u * 11 + j) = V (u * 11 + j) := by
  have := h u j hu.1 hu.2 hj.1 hj.2
  rw [tg_u hu hj, tg_u hu hj] at this
  exact this
theorem eqU_step (h : eqU n U V) (hn : 0 ≤ n) (g : dn n U k one two three four) : eqU (cN k n) (cU k one two three four t p n U) (cU k one two three four t p n V) := by
  have hk := g.1
  have hcN := cN_eq (nu := n) hk
  intro u j a b c d
  by_cases cu : u < n
  · by_cases c3 : j = 3
    · subst c3
      by_cases e : eb k one two u
      · rw [cU_3e hk ⟨a, cu⟩ e, cU_3e hk ⟨a, cu⟩ e]
      · rw [cU_3c hk ⟨a, cu⟩ e, cU_3c hk ⟨a, cu⟩ e]
        exact h u 3 a cu (by omega) (by omega)
    · rw [cU_ne hk ⟨a, cu⟩ ⟨c, d⟩ c3, cU_ne hk ⟨a, cu⟩ ⟨c, d⟩ c3]
      exact h u j a cu c d
  · have e1 := cU_new (t := t) (p := p) (one := one) (two := two) (three := three) (four := four) (U := U) hk hn (show 0 ≤ u - n ∧ n + (u - n) < cN k n by omega) j c d
    have e2 := cU_new (t := t) (p := p) (one := one) (two := two) (three := three) (four := four) (U := V) hk hn (show 0 ≤ u - n ∧ n + (u - n) < cN k n by omega) j c d
    rw [show n + (u - n) = u by omega] at e1 e2
    rw [e1, e2]
    have hk3 : k ≤ 3 := by
      refine Classical.byContradiction fun q => ?_
      have : nK k = 0 := by
        unfold nK
        rw [if_neg (by omega), if_neg (by omega)]
      omega
    obtain ⟨_, d0, d14, d1, d2, d3⟩ := g
    have e : nBl k one two U = nBl k one two V ∧ nFl k one two U = nFl k one two V ∧ nG k one two U = nG k one two V ∧ nA k one two three four U (u - n) = nA k one two three four V (u - n) := by
      unfold nBl nFl nG nA
      by_cases c0 : k = 0
      · rw [if_pos c0, if_pos c0, if_pos c0, if_pos c0, if_pos c0, if_pos c0, if_pos c0, if_pos c0]
        exact ⟨rfl, rfl, rfl, rfl⟩
      · rw [if_neg c0, if_neg c0, if_neg c0, if_neg c0, if_neg c0, if_neg c0, if_neg c0, if_neg c0]
        have y := (d14 (by omega) (by omega)).1
        by_cases c2 : k = 2
        · have y2 := (d2 c2).2.1
          have hh : hiU U one two = hiU V one two := by
            unfold hiU
            rw [eqU_at h y (by omega), eqU_at h y2 (by omega)]
          have hr : 0 ≤ hiU U one two ∧ hiU U one two < n := by
            unfold hiU
            split
            · exact y
            · exact y2
          rw [if_pos c2, if_pos c2, if_pos c2, if_pos c2, if_pos c2, if_pos c2, if_neg (show ¬ k = 1 by omega), if_neg (show ¬ k = 1 by omega), if_pos c2, if_pos c2, eqU_at h hr (by omega), eqU_at h hr (by omega), eqU_at h hr (by omega), hh, eqU_ar h y, eqU_ar h y2]
          exact ⟨rfl, rfl, rfl, rfl⟩
        · rw [if_neg c2, if_neg c2, if_neg c2, if_neg c2, if_neg c2, if_neg c2, if_neg c2, if_neg c2, eqU_at h y (by omega), eqU_at h y (by omega), eqU_at h y (by omega), eqU_ar h y]
          exact ⟨rfl, rfl, rfl, rfl⟩
    rw [e.1, e.2.1, e.2.2.1, e.2.2.2]
theorem eqU_tt (h : eqU n U V) (hu : 0 ≤ u ∧ u < n) (hk : -1 ≤ k ∧ k < 5) : tt n U t b f k z u = tt n V t b f k z u := by
  have ea : uA n U u k = uA n V u k := by
    unfold uA
    split
    · exact eqU_uS h hu
    · exact h u (6 + k) hu.1 hu.2 (by omega) (by omega)
  unfold tt uT uO
  rw [ea, h u 0 hu.1 hu.2 (by omega) (by omega), h u 1 hu.1 hu.2 (by omega) (by omega), h u 2 hu.1 hu.2 (by omega) (by omega), h u 3 hu.1 hu.2 (by omega) (by omega)]
theorem eqU_tal (h : eqU n U V) (hk : -1 ≤ k ∧ k < 5) : tal n U t b f k z = tal n V t b f k z := by
  unfold tal
  exact su_congr (fun j a d => eqU_tt h ⟨a, d⟩ hk)
/-- a step behind the day changes nothing that is told of the day -/
theorem tal_step {y : Int} (hn : 0 ≤ n) (g : dn n V k one two three four) (hT : t < T) (ht : 0 ≤ t) (hy : -1 ≤ y ∧ y < 5) : tal (cN k n) (cU k one two three four T p n V) t b f y z = tal n V t b f y z := by
  have hk := g.1
  have hcN := cN_eq (nu := n) hk
  have hnb := nKb (k := k)
  unfold tal
  rw [su_ext0 hn (by omega) (fun j a d => ?_)]
  · refine su_congr (fun j a d => ?_)
    have hj : 0 ≤ j ∧ j < n := ⟨a, d⟩
    have ea : uA (cN k n) (cU k one two three four T p n V) j y = uA n V j y := by
      unfold uA
      split
      · exact uS_old hk hj
      · exact cU_ne hk hj (by omega) (by omega)
    have et : uT (cN k n) (cU k one two three four T p n V) j t = uT n V j t := by
      unfold uT
      rw [cU_ne (j := 2) hk hj (by omega) (by omega)]
      by_cases e : eb k one two j
      · rw [cU_3e hk hj e]
        have e3 : tg n 11 V j 3 = -1 := by
          obtain ⟨_, d0, d14, d1, d2, d3⟩ := g
          rcases e with e | e
          · rw [e.2.2]; exact (d14 e.1 e.2.1).2
          · rw [e.2]; exact (d2 e.1).2.2
        rw [e3]
        apply propext
        constructor
        · exact fun w => ⟨w.1, Or.inl rfl⟩
        · exact fun w => ⟨w.1, Or.inr hT⟩
      · rw [cU_3c hk hj e]
    have eo : uO (cN k n) (cU k one two three four T p n V) j b f = uO n V j b f := by
      unfold uO
      rw [cU_ne (j := 0) hk hj (by omega) (by omega), cU_ne (j := 1) hk hj (by omega) (by omega)]
    unfold tt
    rw [ea, et, eo]
  · have e2 := cU_new (t := T) (p := p) (one := one) (two := two) (three := three) (four := four) (U := V) hk hn (show 0 ≤ j - n ∧ n + (j - n) < cN k n by omega) 2 (by omega) (by omega)
    rw [show n + (j - n) = j by omega, mk_2] at e2
    unfold tt
    refine zI_f (fun w => ?_)
    have := w.1.1
    omega
theorem rbkR : ∀ (m : Nat) (i : Int) (B : Int → Int), RU B → RU (rbk nb m i B)
  | 0, _, _, h => h
  | m + 1, i, B, h => by
    unfold rbk
    exact rbkR m (i + 1) _ (tuR h (by omega))
theorem rbk_at : ∀ (m : Nat) (i : Int) (B : Int → Int), 0 ≤ i → i + m ≤ nb → (∀ b, 0 ≤ b → b < i → tg nb 7 B b 0 = 1) → ∀ b, 0 ≤ b → b < i + m → tg nb 7 (rbk nb m i B) b 0 = 1
  | 0, i, B, _, _, h, b, a, d => h b a (by omega)
  | m + 1, i, B, h0, h1, h, b, a, d => by
    unfold rbk
    refine rbk_at m (i + 1) _ (by omega) (by omega) ?_ b a (by omega)
    intro b a d
    rw [tg_tu7 (by omega)]
    by_cases e : b = i
    · rw [if_pos ⟨by omega, e, rfl⟩]
    · rw [if_neg (fun w => e w.2.1)]
      exact h b a (by omega)
/-- the run of carrying out again, up to place i -/
def rpJ (dy nb np : Int) (P : Int → Int) (nf : Int) (F : Int → Int) (n : Int → Int) (V : Int → Int → Int) (t i : Int) (s : (Int → Int) × Int × (Int → Int)) : Prop :=
  WF dy nb s.1 s.2.1 s.2.2 np P nf F ∧ (∀ b, 0 ≤ b → b < nb → 1 ≤ tg nb 7 s.1 b 0 ∧ tg nb 7 s.1 b 0 ≤ 1 + su (f5 np P nf F b) 0 i) ∧
  ∃ m, (0 ≤ m ∧ m ≤ i) ∧ s.2.1 = n m ∧ eqU (n m) s.2.2 (V m) ∧ (m = i ∨ t < tg np 7 P (tg nf 1 F m 0) 6)
theorem f5b {j : Int} : 0 ≤ f5 np P nf F b j ∧ f5 np P nf F b j ≤ 1 := by
  unfold f5 zI
  split <;> omega
theorem rp_0 {n : Int → Int} {V : Int → Int → Int} (I : IV dy nb B nu U np P nf F) (g0 : n 0 = 0) : rpJ dy nb np P nf F n V t 0 (rbk nb nb.toNat 0 B, 0, U) := by
  obtain ⟨d1, hb, hu, hnp, hnf, RB, RUu, RP, RF⟩ := id I.1
  refine ⟨⟨d1, hb, ⟨Int.le_refl _, by show (0 : Int) ≤ 60; omega⟩, hnp, hnf, rbkR _ _ _ RB, RUu, RP, RF⟩, fun b a d => ?_, 0, by omega, g0.symm, ?_, Or.inl rfl⟩
  · have := rbk_at nb.toNat 0 B (nb := nb) (Int.le_refl _) (by omega) (fun b a d => by omega) b a (by omega)
    dsimp only
    rw [this, su_end _ (Int.le_refl _)]
    omega
  · intro u j a d
    rw [g0] at d
    omega
theorem rp_s {n : Int → Int} {V : Int → Int → Int} (I : IV dy nb B nu U np P nf F) (g1 : ∀ i, 0 ≤ i → i < nf → gS np P (tg nf 1 F i 0) n V i) {s : (Int → Int) × Int × (Int → Int)} (hi : 0 ≤ i ∧ i < nf) (J : rpJ dy nb np P nf F n V t i s) :
    (WF dy nb s.1 s.2.1 s.2.2 np P nf F ∧ (pq np P (tg nf 1 F i 0) 6 ≤ t → cP (pq np P (tg nf 1 F i 0) 0) (pq np P (tg nf 1 F i 0) 1) (pq np P (tg nf 1 F i 0) 2) (pq np P (tg nf 1 F i 0) 3) (pq np P (tg nf 1 F i 0) 4) nb s.1 s.2.1 s.2.2)) ∧ rpJ dy nb np P nf F n V t (i + 1) (if pq np P (tg nf 1 F i 0) 6 ≤ t then cS np P nb (tg nf 1 F i 0) s else s) := by
  obtain ⟨W, hB, m, hm, e1, e2, e3⟩ := J
  have iF0 := I.2.2.2.2.2.2.1
  have iP0 := I.2.2.1
  have fi := iF0.2.1 i hi.1 hi.2
  have zp := iP0 _ fi.1.1 fi.1.2
  have tot : ∀ b, 0 ≤ b → b < nb → 1 + su (f5 np P nf F b) 0 (i + 1) ≤ 6 := by
    intro b a d
    have y := iF0.2.2.2 b a d
    have w := I.2.1.2 b
    have := su_pre (g := f5 np P nf F b) (n := i + 1) (m := nf) (by omega) (by omega) (fun j _ _ => f5b.1)
    omega
  by_cases c : pq np P (tg nf 1 F i 0) 6 ≤ t
  · have mi : m = i := by
      rcases e3 with e3 | e3
      · exact e3
      · refine Classical.byContradiction fun w => ?_
        have := iF0.2.2.1 m i hm.1 (by omega) hi.2
        have c' : tg np 7 P (tg nf 1 F i 0) 6 ≤ t := c
        omega
    subst mi
    obtain ⟨gU, gD, gn, g60, gN, gV⟩ := g1 m hi.1 hi.2
    have hk := gD.1
    have D' := eqU_dn (eqU_sym e2) gD
    have U' := eqU_UI (eqU_sym e2) gU
    rw [← e1] at D' U' gn g60
    have h5 : tg np 7 P (tg nf 1 F m 0) 0 = 5 → (0 ≤ tg np 7 P (tg nf 1 F m 0) 1 ∧ tg np 7 P (tg nf 1 F m 0) 1 < nb) ∧ 0 ≤ tg nb 7 s.1 (tg np 7 P (tg nf 1 F m 0) 1) 0 ∧ tg nb 7 s.1 (tg np 7 P (tg nf 1 F m 0) 1) 0 < 6 := by
      intro e
      have r := fi.2.2 e
      have y := hB _ r.1 r.2
      have w := tot _ r.1 r.2
      have e5 : f5 np P nf F (tg np 7 P (tg nf 1 F m 0) 1) m = 1 := zI_t ⟨e, rfl⟩
      rw [su_snoc _ hi.1, e5] at w
      exact ⟨r, by omega, by omega⟩
    have hcP := cP_dn (B := s.1) (nb := nb) U' (Int.le_refl _) D' gn g60 (fun e => by have := h5 e; omega)
    obtain ⟨d1, hb, hu, hnp, hnf, RB, RUu, RP, RF⟩ := id W
    have hcN := cN_eq (nu := s.2.1) hk
    have hnk := nKb (k := tg np 7 P (tg nf 1 F m 0) 0)
    have za := zp.1
    unfold aN at za
    refine ⟨⟨W, fun _ => hcP⟩, ?_⟩
    rw [if_pos c]
    refine ⟨⟨d1, hb, ?_, hnp, hnf, ?_, ?_, RP, RF⟩, ?_, m + 1, by omega, ?_, ?_, Or.inl rfl⟩
    · show 0 ≤ cN (tg np 7 P (tg nf 1 F m 0) 0) s.2.1 ∧ cN (tg np 7 P (tg nf 1 F m 0) 0) s.2.1 ≤ 60
      omega
    · show RU (cB (tg np 7 P (tg nf 1 F m 0) 0) (tg np 7 P (tg nf 1 F m 0) 1) (tg np 7 P (tg nf 1 F m 0) 2) nb s.1)
      unfold cB
      split
      · exact RB
      · have := h5 (by omega)
        exact tuR (tuR RB (by omega)) (by omega)
    · exact cU_R (t := tg np 7 P (tg nf 1 F m 0) 6) (p := tg nf 1 F m 0) (one := tg np 7 P (tg nf 1 F m 0) 1) (two := tg np 7 P (tg nf 1 F m 0) 2) (three := tg np 7 P (tg nf 1 F m 0) 3) (four := tg np 7 P (tg nf 1 F m 0) 4) (k := tg np 7 P (tg nf 1 F m 0) 0) U' (Int.le_refl _) D' hu RUu (by have := zp.2.2; omega) (by omega) (by omega) (by omega)
    · intro b a d
      show 1 ≤ tg nb 7 (cB (tg np 7 P (tg nf 1 F m 0) 0) (tg np 7 P (tg nf 1 F m 0) 1) (tg np 7 P (tg nf 1 F m 0) 2) nb s.1) b 0 ∧ tg nb 7 (cB (tg np 7 P (tg nf 1 F m 0) 0) (tg np 7 P (tg nf 1 F m 0) 1) (tg np 7 P (tg nf 1 F m 0) 2) nb s.1) b 0 ≤ 1 + su (f5 np P nf F b) 0 (m + 1)
      have y := hB b a d
      have nn := f5b (np := np) (P := P) (nf := nf) (F := F) (b := b) (j := m)
      rw [tg_cB hk h5 (by omega), su_snoc _ hi.1]
      split
      · next w =>
        have e5 : f5 np P nf F b m = 1 := zI_t ⟨w.1, w.2.1.symm⟩
        rw [← w.2.1]
        omega
      · split
        · next w => have := (h5 w.1).2; omega
        · omega
    · show cN (tg np 7 P (tg nf 1 F m 0) 0) s.2.1 = n (m + 1)
      rw [gN, e1]
    · have := eqU_step (t := tg np 7 P (tg nf 1 F m 0) 6) (p := tg nf 1 F m 0) e2 (by omega) (eqU_dn (eqU_sym e2) gD)
      rw [gN, gV]
      show eqU _ (cU _ _ _ _ _ _ _ s.2.1 s.2.2) _
      rw [e1]
      exact this
  · refine ⟨⟨W, fun w => absurd w c⟩, ?_⟩
    rw [if_neg c]
    refine ⟨W, fun b a d => ?_, m, by omega, e1, e2, ?_⟩
    · have y := hB b a d
      have nn := f5b (np := np) (P := P) (nf := nf) (F := F) (b := b) (j := i)
      rw [su_snoc _ hi.1]
      omega
    · rcases e3 with e3 | e3
      · right
        rw [e3]
        have c' : ¬ tg np 7 P (tg nf 1 F i 0) 6 ≤ t := c
        omega
      · exact Or.inr e3
/-- at the end the units tell of day t what the present ones tell -/
theorem rp_end {n : Int → Int} {V : Int → Int → Int} {y : Int} (I : IV dy nb B nu U np P nf F) (g1 : ∀ i, 0 ≤ i → i < nf → gS np P (tg nf 1 F i 0) n V i) (g2 : n nf = nu) (g3 : V nf = U) {s : (Int → Int) × Int × (Int → Int)} (ht : 0 ≤ t) (hy : -1 ≤ y ∧ y < 5) (J : rpJ dy nb np P nf F n V t nf s) : tal s.2.1 s.2.2 t b f y z = tal nu U t b f y z := by
  obtain ⟨W, hB, m, hm, e1, e2, e3⟩ := J
  rw [e1, eqU_tal e2 hy, ← g2, ← g3]
  have iF0 := I.2.2.2.2.2.2.1
  have key : ∀ (k : Nat), m + k ≤ nf → tal (n (m + k)) (V (m + k)) t b f y z = tal (n m) (V m) t b f y z := by
    intro k
    induction k with
    | zero => intro _; rw [show m + ((0 : Nat) : Int) = m by omega]
    | succ k ih =>
      intro hk
      obtain ⟨gU, gD, gn, g60, gN, gV⟩ := g1 (m + k) (by omega) (by omega)
      rw [show m + ((k + 1 : Nat) : Int) = m + k + 1 by omega, gN, gV, tal_step gn gD ?_ ht hy]
      · exact ih (by omega)
      · have w : t < tg np 7 P (tg nf 1 F m 0) 6 := e3.resolve_left (by omega)
        have := iF0.2.2.1 m (m + k) hm.1 (by omega) (by omega)
        omega
  have := key (nf - m).toNat (by omega)
  rw [show m + ((nf - m).toNat : Int) = nf by omega] at this
  exact this.symm
theorem rp_ghost (I : IV dy nb B nu U np P nf F) : ∃ (n : Int → Int) (V : Int → Int → Int), n 0 = 0 ∧ (∀ i, 0 ≤ i → i < nf → gS np P (tg nf 1 F i 0) n V i) ∧ n nf = nu ∧ V nf = U := I.2.2.2.2.2.2.2
theorem rp_tal {n : Int → Int} {V : Int → Int → Int} {y : Int} (I : IV dy nb B nu U np P nf F) (g0 : n 0 = 0) (g1 : ∀ i, 0 ≤ i → i < nf → gS np P (tg nf 1 F i 0) n V i) (g2 : n nf = nu) (g3 : V nf = U) (ht : 0 ≤ t) (hy : -1 ≤ y ∧ y < 5) : tal (rn np P nf F nb t nf.toNat 0 (rbk nb nb.toNat 0 B, 0, U)).2.1 (rn np P nf F nb t nf.toNat 0 (rbk nb nb.toNat 0 B, 0, U)).2.2 t b (-1) y z = tal nu U t b (-1) y z := by
  have hnf := I.1.2.2.2.2.1
  exact rp_end I g1 g2 g3 ht hy (rnJ (J := rpJ dy nb np P nf F n V t) (fun i s a d J => (rp_s I g1 ⟨a, d⟩ J).2) nf.toNat 0 _ (Int.le_refl _) (by omega) (rp_0 I g0))
end Re
