/-! Ranges of what a finished permit leaves. -/
theorem r5R {a0 a1 a2 a3 a4 : Int} (h0 : -2147483648 ≤ a0 ∧ a0 < 2147483648) (h1 : -2147483648 ≤ a1 ∧ a1 < 2147483648) (h2 : -2147483648 ≤ a2 ∧ a2 < 2147483648) (h3 : -2147483648 ≤ a3 ∧ a3 < 2147483648) (h4 : -2147483648 ≤ a4 ∧ a4 < 2147483648) : RU (r5 a0 a1 a2 a3 a4) := iupR (iupR (iupR (iupR (iupR R0 h0) h1) h2) h3) h4
theorem r5_out {a0 a1 a2 a3 a4 k : Int} (h : k < 0 ∨ 5 ≤ k) : r5 a0 a1 a2 a3 a4 k = 0 := by
  unfold r5
  rw [iup_ne (by omega), iup_ne (by omega), iup_ne (by omega), iup_ne (by omega), iup_ne (by omega)]
theorem shk_out {k : Int} (h : k < 0 ∨ 5 ≤ k) : ∀ (n : Nat) (a rm : Int → Int), shk n a rm k = a k
  | 0, _, _ => rfl
  | n + 1, a, rm => by
    unfold shk
    have := amaxR (rm := rm)
    rw [shk_out h n, iup_ne (by omega)]
theorem shA_R {A : Int → Int} {x : Int} (hA : ∀ k, 0 ≤ k → k < 5 → 0 ≤ A k ∧ A k ≤ 40000) (hS : 0 < s5 A) (hx : 0 ≤ x ∧ x < s5 A) : RU (shA A x) := by
  intro k
  by_cases c : 0 ≤ k ∧ k < 5
  · have a := (shA_all (fun k a b => (hA k a b).1) hS hx).2 k c.1 c.2
    have b := hA k c.1 c.2
    omega
  · unfold shA
    rw [shk_out (by omega)]
    unfold q5
    rw [r5_out (by omega)]
    omega
section Fi
variable {dy nb nu np nf : Int} {B U P F : Int → Int} {p q s x u b i j k one two three four c t : Int}
theorem ar_bd (h : UI dy nu U c) (hc : c ≤ 40000) (hu : 0 ≤ u ∧ u < nu) : ∀ j, 0 ≤ j → j < 5 → 0 ≤ ar U u j ∧ ar U u j ≤ 40000 := by
  have z := h.1 u hu.1 hu.2
  intro j a b
  rw [ar_tg hu ⟨a, b⟩]
  refine ⟨z.2.2.2.1 j a b, ?_⟩
  have w0 := z.2.2.2.1 0 (by omega) (by omega)
  have w1 := z.2.2.2.1 1 (by omega) (by omega)
  have w2 := z.2.2.2.1 2 (by omega) (by omega)
  have w3 := z.2.2.2.1 3 (by omega) (by omega)
  have w4 := z.2.2.2.1 4 (by omega) (by omega)
  have w5 := z.2.2.2.2.2
  unfold uS at w5
  rw [show (6 : Int) + 0 = 6 from rfl] at w0
  rw [show (6 : Int) + 1 = 7 from rfl] at w1
  rw [show (6 : Int) + 2 = 8 from rfl] at w2
  rw [show (6 : Int) + 3 = 9 from rfl] at w3
  rw [show (6 : Int) + 4 = 10 from rfl] at w4
  rcases k5 ⟨a, b⟩ with e | e | e | e | e
  · rw [e, show (6 : Int) + 0 = 6 from rfl]; omega
  · rw [e, show (6 : Int) + 1 = 7 from rfl]; omega
  · rw [e, show (6 : Int) + 2 = 8 from rfl]; omega
  · rw [e, show (6 : Int) + 3 = 9 from rfl]; omega
  · rw [e, show (6 : Int) + 4 = 10 from rfl]; omega
theorem arR (h : UI dy nu U c) (hc : c ≤ 40000) (hu : 0 ≤ u ∧ u < nu) : RU (ar U u) := by
  have a := ar_bd h hc hu
  intro k
  by_cases z : 0 ≤ k ∧ k < 5
  · have := a k z.1 z.2; omega
  · unfold ar; rw [r5_out (by omega)]; omega
theorem cU_R (h : UI dy nu U c) (hc : c ≤ 40000) (D : dn nu U k one two three four) (hn : 0 ≤ nu ∧ nu ≤ 60) (R : RU U) (ht : 0 ≤ t ∧ t ≤ 9999) (hp : 0 ≤ p ∧ p < 40) (h1 : 0 ≤ one ∧ one ≤ 999) (h2 : 0 ≤ two ∧ two ≤ 999) : RU (cU k one two three four t p nu U) := by
  obtain ⟨hk, d0, d14, d1, d2, d3⟩ := D
  have g : ∀ u, 0 ≤ u → u < nu → -2147483648 ≤ U (u * 11 + 4) + 1 ∧ U (u * 11 + 4) + 1 < 2147483648 := by
    intro u a b
    have z := (h.1 u a b).2.2.1
    rw [tg_u ⟨a, b⟩ (by omega)] at z
    omega
  have ht' : -2147483648 ≤ t ∧ t < 2147483648 := by omega
  have hp' : -2147483648 ≤ p ∧ p < 2147483648 := by omega
  have dr : ∀ a b : Int, 0 ≤ a → a ≤ 40000 → 0 ≤ b → b ≤ 40000 → (-2147483648 ≤ a - b ∧ a - b < 2147483648) ∧ (-2147483648 ≤ a + b ∧ a + b < 2147483648) := fun a b _ _ _ _ => by omega
  rcases k6 hk with rfl | rfl | rfl | rfl | rfl | rfl
  · rw [cU_0]
    exact rwR R (mkR (by omega) (by omega) ht' (by omega) (by omega) hp' (iupR R0 (by have := d0 rfl; omega)))
  · have q := (d14 (by omega) (by omega))
    have a := ar_bd h hc q.1
    have d := d1 rfl
    have e := s5_ar (U := U) q.1
    have s := shA_all (fun k x y => (a k x y).1) (show 0 < s5 (ar U one) by omega) (show 0 ≤ two ∧ two < s5 (ar U one) by omega)
    have f : ∀ j, 0 ≤ j → j < 5 → -2147483648 ≤ ar U one j - shA (ar U one) two j ∧ ar U one j - shA (ar U one) two j < 2147483648 := by
      intro j x y
      have := s.2 j x y
      have := a j x y
      omega
    rw [cU_1]
    exact rwR (rwR (iupR R ht') (mkR (R _) (R _) ht' (by omega) (g one q.1.1 q.1.2) hp' (shA_R a (by omega) (by omega)))) (mkR (R _) (R _) ht' (by omega) (g one q.1.1 q.1.2) hp' (r5R (f 0 (by omega) (by omega)) (f 1 (by omega) (by omega)) (f 2 (by omega) (by omega)) (f 3 (by omega) (by omega)) (f 4 (by omega) (by omega))))
  · have q := (d14 (by omega) (by omega))
    have q2 := (d2 rfl).2
    have a := ar_bd h hc q.1
    have a2 := ar_bd h hc q2.1
    have f : ∀ j, 0 ≤ j → j < 5 → -2147483648 ≤ ar U one j + ar U two j ∧ ar U one j + ar U two j < 2147483648 := by
      intro j x y
      have := a2 j x y
      have := a j x y
      omega
    have hg : -2147483648 ≤ U (hiU U one two * 11 + 4) + 1 ∧ U (hiU U one two * 11 + 4) + 1 < 2147483648 := by
      unfold hiU
      split
      · exact g one q.1.1 q.1.2
      · exact g two q2.1.1 q2.1.2
    rw [cU_2]
    exact rwR (iupR (iupR R ht') ht') (mkR (R _) (R _) ht' (by omega) hg hp' (r5R (f 0 (by omega) (by omega)) (f 1 (by omega) (by omega)) (f 2 (by omega) (by omega)) (f 3 (by omega) (by omega)) (f 4 (by omega) (by omega))))
  · have q := (d14 (by omega) (by omega))
    have a := ar_bd h hc q.1
    have d := d3 rfl
    have a3 := a three d.2.2.1.1 d.2.2.1.2
    have f : -2147483648 ≤ iup (ar U one) three (ar U one three + -two) four + two ∧ iup (ar U one) three (ar U one three + -two) four + two < 2147483648 := by
      unfold iup
      split
      · omega
      · have := a four d.2.2.2.1 d.2.2.2.2
        omega
    rw [cU_3]
    exact rwR (iupR R ht') (mkR (R _) (R _) ht' (by omega) (g one q.1.1 q.1.2) hp' (iupR (iupR (arR h hc q.1) (by omega)) f))
  · rw [cU_4]
    exact iupR R ht'
  · rw [cU_5]
    exact R
/-! Finishing. -/
theorem su_const : ∀ {n : Int}, 0 ≤ n → su (fun _ => (1 : Int)) 0 n = n := by
  have key : ∀ (k : Nat) (i : Int), sm (fun _ => (1 : Int)) i k = k := by
    intro k
    induction k with
    | zero => intro i; rfl
    | succ k ih =>
      intro i
      unfold sm
      rw [ih]
      omega
  intro n h
  unfold su
  rw [key]
  omega
theorem fin_lt (hf : su (fin3 np P) 0 np = nf) (hp : 0 ≤ p ∧ p < np) (h3 : ¬ tg np 7 P p 5 = 3) : nf < np := by
  have a := su_add (f := fin3 np P) (g := fun j => 1 - fin3 np P j) (i := 0) (n := np) (by omega)
  have b : 1 - fin3 np P p ≤ su (fun j => 1 - fin3 np P j) 0 np := su_term (g := fun j => 1 - fin3 np P j) hp (fun j _ _ => by
    unfold fin3 zI
    split <;> omega)
  have e : fin3 np P p = 0 := zI_f h3
  rw [su_congr (g := fun _ => (1 : Int)) (fun j _ _ => by omega), su_const (by omega)] at a
  omega
theorem open_ok (I : IV dy nb B nu U np P nf F) (hp : 0 ≤ p ∧ p < np) (o : pO np P p) : dn nu U (tg np 7 P p 0) (tg np 7 P p 1) (tg np 7 P p 2) (tg np 7 P p 3) (tg np 7 P p 4) ∧ nu + nK (tg np 7 P p 0) ≤ 60 ∧ (tg np 7 P p 0 = 5 → (0 ≤ tg np 7 P p 1 ∧ tg np 7 P p 1 < nb) ∧ tg nb 7 B (tg np 7 P p 1) 0 < 6) ∧ (tg np 7 P p 0 = 2 → tg nu 11 U (tg np 7 P p 1) 0 = tg nu 11 U (tg np 7 P p 2) 0 ∧ tg nu 11 U (tg np 7 P p 1) 1 = tg nu 11 U (tg np 7 P p 2) 1) := by
  obtain ⟨W, iB0, iP0, iU0, iL0, iO0, iF0, g⟩ := I
  have z := iP0 p hp.1 hp.2
  have o1 := iO0.1 p hp.1 hp.2 o
  have t1 := su_term (g := uWt np P) hp (fun j _ _ => (uWtb (np := np) (P := P) (p := j)).1)
  rw [uWt_p o] at t1
  have cap := iO0.2.2.1
  have aa := z.1
  unfold aN at aa
  refine ⟨⟨by omega, fun e => by omega, fun e f => ?_, fun e => ?_, fun e => ?_, fun e => ?_⟩, by omega, fun e => ?_, fun e => ?_⟩
  · have y := o1.1 (by omega)
    unfold th at y
    rcases y with y | y | y | y
    · omega
    · omega
    · exact y.2.2.1
    · exact y.2
  · have y := o1.2.1 e
    omega
  · have y := o1.1 (by omega)
    rw [e, th_2] at y
    exact ⟨y.1, y.2.2.1⟩
  · have y := o1.2.2 e
    omega
  · have y := o1.1 (by omega)
    rw [e, th_5] at y
    refine ⟨y, ?_⟩
    have c5 := iO0.2.2.2 _ y.1 y.2
    have t5 := su_term (g := fWt np P (tg np 7 P p 1)) hp (fun j _ _ => (fWtb (np := np) (P := P) (b := tg np 7 P p 1) (p := j)).1)
    have e5 : fWt np P (tg np 7 P p 1) p = 1 := zI_t ⟨o, e, rfl⟩
    omega
  · have y := o1.1 (by omega)
    rw [e, th_2] at y
    exact y.2.2.2
theorem eb_tl : eb (tg np 7 P p 0) (tg np 7 P p 1) (tg np 7 P p 2) u → tl np P p u := by
  unfold eb tl oU
  intro h
  rcases h with h | h
  · exact Or.inl ⟨by omega, h.2.2.symm⟩
  · exact Or.inr ⟨h.1, h.2.symm⟩
theorem tg_nF (hn : 0 ≤ nf) (hi : 0 ≤ i ∧ i ≤ nf) : tg (nf + 1) 1 (nF nf F p) i 0 = if i = nf then p else tg nf 1 F i 0 := by
  rw [tg_in (by omega)]
  unfold nF
  by_cases c : i = nf
  · subst c
    rw [if_pos rfl]
    unfold iup
    rw [if_pos (by omega)]
  · rw [if_neg c, tg_in (by omega)]
    unfold iup zr
    rw [if_neg (by omega), if_neg (by omega)]
theorem tg_cB (hk : 0 ≤ k ∧ k ≤ 5) (h5 : k = 5 → (0 ≤ one ∧ one < nb) ∧ 0 ≤ tg nb 7 B one 0 ∧ tg nb 7 B one 0 < 6) (hj : 0 ≤ j ∧ j < 7) : tg nb 7 (cB k one two nb B) b j = if k = 5 ∧ b = one ∧ j = 0 then tg nb 7 B one 0 + 1 else if k = 5 ∧ b = one ∧ j = 1 + tg nb 7 B one 0 then two else tg nb 7 B b j := by
  unfold cB
  by_cases c : 0 ≤ k ∧ k ≤ 4
  · rw [if_pos c, if_neg (by omega), if_neg (by omega)]
  · rw [if_neg c]
    have e : k = 5 := by omega
    have z := h5 e
    rw [tg_tu7 (by omega), tg_tu7 (by omega)]
    by_cases c1 : b = one ∧ j = 1 + tg nb 7 B one 0
    · rw [if_pos ⟨z.1, c1⟩, if_neg (by omega), if_pos ⟨e, c1⟩]
    · rw [if_neg (fun y => c1 y.2)]
      by_cases c2 : b = one ∧ j = 0
      · rw [if_pos ⟨z.1, c2⟩, if_pos ⟨e, c2⟩]
      · rw [if_neg (fun y => c2 y.2), if_neg (fun y => c2 y.2), if_neg (fun y => c1 y.2)]
set_option maxHeartbeats 1000000 in
theorem IV_fin (I : IV dy nb B nu U np P nf F) (hp : 0 ≤ p ∧ p < np) (h2 : tg np 7 P p 5 = 2) : IV dy nb (cB (tg np 7 P p 0) (tg np 7 P p 1) (tg np 7 P p 2) nb B) (cN (tg np 7 P p 0) nu) (cU (tg np 7 P p 0) (tg np 7 P p 1) (tg np 7 P p 2) (tg np 7 P p 3) (tg np 7 P p 4) dy p nu U) np (stP np P p 3 dy) (nf + 1) (nF nf F p) := by
  have o : pO np P p := Or.inr h2
  obtain ⟨D, h60, h5, hsame⟩ := open_ok I hp o
  obtain ⟨W, iB0, iP0, iU0, iL0, iO0, iF0, n, V, g0, g1, g2, g3⟩ := I
  obtain ⟨⟨dy1, dy2⟩, hb, hu, hnp, hnf, RB, RUu, RP, RF⟩ := id W
  have h3 : ¬ tg np 7 P p 5 = 3 := by omega
  have hlt := fin_lt iF0.1 hp h3
  have hk := D.1
  have hcN := cN_eq (nu := nu) hk
  have hnb := nKb (k := tg np 7 P p 0)
  have za := (iP0 p hp.1 hp.2).1
  have zr : (0 ≤ tg np 7 P p 1 ∧ tg np 7 P p 1 ≤ 999) ∧ (0 ≤ tg np 7 P p 2 ∧ tg np 7 P p 2 ≤ 999) := by
    unfold aN at za
    omega
  have z5 : tg np 7 P p 0 = 5 → 10 ≤ tg np 7 P p 2 := by
    unfold aN at za
    omega
  have h5' : tg np 7 P p 0 = 5 → (0 ≤ tg np 7 P p 1 ∧ tg np 7 P p 1 < nb) ∧ 0 ≤ tg nb 7 B (tg np 7 P p 1) 0 ∧ tg nb 7 B (tg np 7 P p 1) 0 < 6 := fun e => ⟨(h5 e).1, (iB0.1 _ _).1, (h5 e).2⟩
  have c0 : (0 : Int) ≤ 999 * nf := by omega
  have hUI := UI_step (p := p) iU0.1 iU0.2 c0 hu.1 D dy1
  have hPS := PS_step (p := p) iU0.1 iU0.2 c0 hu.1 D dy1
  rw [show 999 * nf + 999 = 999 * (nf + 1) by omega] at hUI hPS
  have hnu' : 0 ≤ cN (tg np 7 P p 0) nu ∧ cN (tg np 7 P p 0) nu ≤ 60 := by omega
  have RU' := cU_R (t := dy) (p := p) iU0.1 (by omega) D hu RUu ⟨dy1, dy2⟩ (by omega) zr.1 zr.2
  have RB' : RU (cB (tg np 7 P p 0) (tg np 7 P p 1) (tg np 7 P p 2) nb B) := by
    unfold cB
    split
    · exact RB
    · have := iB0.2 (tg np 7 P p 1)
      have := (iB0.1 (tg np 7 P p 1) 0).1
      exact tuR (tuR RB (by omega)) (by omega)
  have ne : ∀ i, 0 ≤ i → i < nf → ¬ tg nf 1 F i 0 = p := fun i a b => fin_ne iF0 h3 ⟨a, b⟩
  have nFo : ∀ i, 0 ≤ i → i < nf → tg (nf + 1) 1 (nF nf F p) i 0 = tg nf 1 F i 0 := fun i a b => by rw [tg_nF hnf.1 (by omega), if_neg (by omega)]
  have nFn : tg (nf + 1) 1 (nF nf F p) nf 0 = p := by rw [tg_nF hnf.1 (by omega), if_pos rfl]
  have pOc : ∀ q, pO np (stP np P p 3 dy) q → pO np P q ∧ ¬ q = p := by
    intro q y
    by_cases c : q = p
    · subst c
      rw [pO_st hp] at y
      omega
    · rw [pO_oth hp c] at y
      exact ⟨y, c⟩
  have nop : ¬ pO np (stP np P p 3 dy) p := fun y => (pOc p y).2 rfl
  have B0 : ∀ b, tg nb 7 (cB (tg np 7 P p 0) (tg np 7 P p 1) (tg np 7 P p 2) nb B) b 0 = tg nb 7 B b 0 + zI (tg np 7 P p 0 = 5 ∧ tg np 7 P p 1 = b) 1 0 := by
    intro b
    rw [tg_cB hk h5' (by omega)]
    by_cases c : tg np 7 P p 0 = 5 ∧ tg np 7 P p 1 = b
    · rw [zI_t c, if_pos ⟨c.1, c.2.symm, rfl⟩, c.2]
    · rw [zI_f c, if_neg (fun y => c ⟨y.1, y.2.1.symm⟩), if_neg (fun y => by have := h5' y.1; omega), Int.add_zero]
  refine ⟨⟨⟨dy1, dy2⟩, hb, hnu', hnp, by omega, RB', RU', stR RP (by omega) ⟨dy1, dy2⟩, iupR (zrR RF) (by omega)⟩, ⟨?_, ?_⟩, ?_, ⟨hUI, hPS⟩, ?_, ⟨?_, ?_, ?_, ?_⟩, ⟨?_, ?_, ?_, ?_⟩, ?_⟩
  · intro b j
    by_cases c : 0 ≤ j ∧ j < 7
    · rw [tg_cB hk h5' c]
      split
      · have := iB0.2 (tg np 7 P p 1)
        have := (iB0.1 (tg np 7 P p 1) 0).1
        omega
      · split
        · omega
        · exact iB0.1 b j
    · unfold tg
      rw [if_neg (by omega)]
      omega
  · intro b
    rw [tg_cB hk h5' (by omega)]
    split
    · next y => have := (h5' y.1).2; omega
    · split
      · next y => have := (h5' y.1).2; omega
      · exact iB0.2 b
  · intro i a b
    rw [st_num hp (by omega), st_num hp (by omega), st_num hp (by omega), st_num hp (by omega), st_num hp (by omega)]
    obtain ⟨y1, y2, y3⟩ := iP0 i a b
    refine ⟨y1, ?_⟩
    by_cases c : i = p
    · subst c
      rw [st_5 hp, st_6 hp]
      exact ⟨by omega, dy1, Int.le_refl _⟩
    · rw [st_oth hp c (by omega), st_oth hp c (by omega)]
      exact ⟨y2, y3⟩
  · intro u a b
    by_cases cu : u < nu
    · rw [cU_ne (j := 5) hk ⟨a, cu⟩ (by omega) (by omega)]
      have c := per_ne iL0 h3 ⟨a, cu⟩
      rw [st_oth hp c (by omega), st_num hp (by omega), st_num hp (by omega), st_num hp (by omega)]
      exact iL0 u a cu
    · have e := cU_new (t := dy) (p := p) (one := tg np 7 P p 1) (two := tg np 7 P p 2) (three := tg np 7 P p 3) (four := tg np 7 P p 4) (U := U) hk hu.1 (show 0 ≤ u - nu ∧ nu + (u - nu) < cN (tg np 7 P p 0) nu by omega) 5 (by omega) (by omega)
      rw [show nu + (u - nu) = u by omega, mk_5] at e
      rw [e, st_5 hp, st_num hp (by omega), st_num hp (by omega), st_num hp (by omega)]
      refine ⟨hp, rfl, fun y => ?_, fun y => ?_⟩
      · have := (D.2.2.1 (by omega) (by omega)).1
        omega
      · have := (D.2.2.2.2.1 y).2.1
        omega
  · intro q a b oq
    obtain ⟨oq1, oq2⟩ := pOc q oq
    refine iO1_st hp ?_
    have y := iO0.1 q a b oq1
    have dis := iO0.2.1 q p a b hp.1 hp.2 oq1 o oq2
    have keep : ∀ u, pr nu U u → tl np P q u → pr (cN (tg np 7 P p 0) nu) (cU (tg np 7 P p 0) (tg np 7 P p 1) (tg np 7 P p 2) (tg np 7 P p 3) (tg np 7 P p 4) dy p nu U) u := by
      intro u pu tu
      refine ⟨⟨pu.1.1, by have := pu.1.2; omega⟩, ?_⟩
      rw [cU_3c hk pu.1 (fun e => dis u ⟨tu, eb_tl e⟩)]
      exact pu.2
    have zq := (iP0 q a b).1
    refine ⟨fun k0 => ?_, ?_, ?_⟩
    · have y1 := y.1 k0
      unfold th at y1 ⊢
      rcases y1 with y1 | y1 | y1 | y1
      · exact absurd y1.1 k0
      · exact Or.inr (Or.inl y1)
      · refine Or.inr (Or.inr (Or.inl ⟨y1.1, y1.2.1, keep _ y1.2.2.1 (Or.inl ⟨by unfold oU; omega, rfl⟩), keep _ y1.2.2.2.1 (Or.inr ⟨y1.1, rfl⟩), ?_⟩))
        rw [cU_ne (j := 0) hk y1.2.2.1.1 (by omega) (by omega), cU_ne (j := 1) hk y1.2.2.1.1 (by omega) (by omega), cU_ne (j := 0) hk y1.2.2.2.1.1 (by omega) (by omega), cU_ne (j := 1) hk y1.2.2.2.1.1 (by omega) (by omega)]
        exact y1.2.2.2.2
      · exact Or.inr (Or.inr (Or.inr ⟨y1.1, keep _ y1.2 (Or.inl ⟨by unfold oU; omega, rfl⟩)⟩))
    · intro e
      have y1 := y.1 (by omega)
      rw [th_u (Or.inl e)] at y1
      rw [uS_old hk y1.1]
      exact y.2.1 e
    · intro e
      have y1 := y.1 (by omega)
      rw [th_u (Or.inr (Or.inl e))] at y1
      unfold aN at zq
      rw [cU_ne hk y1.1 (by omega) (by omega)]
      exact y.2.2 e
  · intro i k a b c d e f nei u
    rw [tl_st hp, tl_st hp]
    exact iO0.2.1 i k a b c d (pOc i e).1 (pOc k f).1 nei u
  · rw [su_upd (g := uWt np P) hp (fun j _ _ c => uWt_oth hp c), uWt_c nop, uWt_p o]
    have := iO0.2.2.1
    omega
  · intro b b0 b1
    have e1 : fWt np (stP np P p 3 dy) b p = 0 := zI_f (fun y => nop y.1)
    have e2 : fWt np P b p = zI (tg np 7 P p 0 = 5 ∧ tg np 7 P p 1 = b) 1 0 := by
      unfold fWt
      by_cases c : tg np 7 P p 0 = 5 ∧ tg np 7 P p 1 = b
      · rw [zI_t c, zI_t ⟨o, c⟩]
      · rw [zI_f c, zI_f (fun y => c y.2)]
    rw [su_upd (g := fWt np P b) hp (fun j _ _ c => fWt_oth hp c), e1, e2, B0]
    have := iO0.2.2.2 b b0 b1
    omega
  · have e1 : fin3 np (stP np P p 3 dy) p = 1 := zI_t (st_5 hp)
    have e2 : fin3 np P p = 0 := zI_f h3
    rw [su_upd (g := fin3 np P) hp (fun j _ _ c => by unfold fin3; rw [st_oth hp c (by omega)]), e1, e2, iF0.1]
    omega
  · intro i a b
    by_cases c : i < nf
    · rw [nFo i a c, st_oth hp (ne i a c) (by omega), st_num hp (by omega), st_num hp (by omega)]
      exact iF0.2.1 i a c
    · rw [show i = nf by omega, nFn, st_5 hp, st_num hp (by omega), st_num hp (by omega)]
      exact ⟨hp, rfl, fun e => (h5' e).1⟩
  · intro i j a b c
    by_cases cj : j < nf
    · rw [nFo i a (by omega), nFo j (by omega) cj, st_oth hp (ne i a (by omega)) (by omega), st_oth hp (ne j (by omega) cj) (by omega)]
      exact iF0.2.2.1 i j a b cj
    · rw [show j = nf by omega, nFn, st_6 hp]
      by_cases ci : i < nf
      · rw [nFo i a ci, st_oth hp (ne i a ci) (by omega)]
        have y := (iF0.2.1 i a ci).1
        exact (iP0 _ y.1 y.2).2.2.2
      · rw [show i = nf by omega, nFn, st_6 hp]
        exact Int.le_refl _
  · intro b b0 b1
    rw [B0, iF0.2.2.2 b b0 b1, su_snoc _ hnf.1, su_congr (f := f5 np (stP np P p 3 dy) (nf + 1) (nF nf F p) b) (g := f5 np P nf F b) (fun j a c => by
      unfold f5
      rw [nFo j a c, st_num hp (by omega), st_num hp (by omega)])]
    have e : f5 np (stP np P p 3 dy) (nf + 1) (nF nf F p) b nf = zI (tg np 7 P p 0 = 5 ∧ tg np 7 P p 1 = b) 1 0 := by
      unfold f5
      rw [nFn, st_num hp (by omega), st_num hp (by omega)]
    rw [e]
    omega
  · obtain ⟨n', e1, e2⟩ : ∃ n' : Int → Int, (∀ i, ¬ i = nf + 1 → n' i = n i) ∧ n' (nf + 1) = cN (tg np 7 P p 0) nu := ⟨fun i => if i = nf + 1 then cN (tg np 7 P p 0) nu else n i, fun i h => if_neg h, if_pos rfl⟩
    obtain ⟨V', f1, f2⟩ : ∃ V' : Int → Int → Int, (∀ i, ¬ i = nf + 1 → V' i = V i) ∧ V' (nf + 1) = cU (tg np 7 P p 0) (tg np 7 P p 1) (tg np 7 P p 2) (tg np 7 P p 3) (tg np 7 P p 4) dy p nu U := ⟨fun i => if i = nf + 1 then cU (tg np 7 P p 0) (tg np 7 P p 1) (tg np 7 P p 2) (tg np 7 P p 3) (tg np 7 P p 4) dy p nu U else V i, fun i h => if_neg h, if_pos rfl⟩
    refine ⟨n', V', ?_, ?_, e2, f2⟩
    · rw [e1 0 (by omega)]; exact g0
    · intro i a b
      by_cases c : i < nf
      · rw [nFo i a c]
        have y := gS_congr (P' := stP np P p 3 dy) (fun j j0 j1 => st_oth hp (ne i a c) ⟨j0, j1⟩) (g1 i a c)
        unfold gS at y ⊢
        rw [e1 i (by omega), e1 (i + 1) (by omega), f1 i (by omega), f1 (i + 1) (by omega)]
        exact y
      · rw [show i = nf by omega, nFn]
        unfold gS
        rw [e1 nf (by omega), f1 nf (by omega), e2, f2, st_6 hp, st_num hp (by omega), st_num hp (by omega), st_num hp (by omega), st_num hp (by omega), st_num hp (by omega), g2, g3]
        exact ⟨UI_le iU0.1 (by omega) (Int.le_refl _), D, hu.1, h60, rfl, rfl⟩
end Fi
