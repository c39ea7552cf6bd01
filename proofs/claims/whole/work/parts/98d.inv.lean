/-! What always holds of the numbers of a census. -/
def iB (nb : Int) (B : Int → Int) : Prop := (∀ b j, 0 ≤ tg nb 7 B b j ∧ tg nb 7 B b j ≤ 999) ∧ (∀ b, tg nb 7 B b 0 ≤ 6)
def iP (dy np : Int) (P : Int → Int) : Prop := ∀ p, 0 ≤ p → p < np → aN (tg np 7 P p 0) (tg np 7 P p 1) (tg np 7 P p 2) (tg np 7 P p 3) (tg np 7 P p 4) ∧ (0 ≤ tg np 7 P p 5 ∧ tg np 7 P p 5 ≤ 6) ∧ (0 ≤ tg np 7 P p 6 ∧ tg np 7 P p 6 ≤ dy)
def iL (nu : Int) (U : Int → Int) (np : Int) (P : Int → Int) : Prop := ∀ u, 0 ≤ u → u < nu → (0 ≤ tg nu 11 U u 5 ∧ tg nu 11 U u 5 < np) ∧ tg np 7 P (tg nu 11 U u 5) 5 = 3 ∧ ((tg np 7 P (tg nu 11 U u 5) 0 = 1 ∨ tg np 7 P (tg nu 11 U u 5) 0 = 2 ∨ tg np 7 P (tg nu 11 U u 5) 0 = 3) → tg np 7 P (tg nu 11 U u 5) 1 < u) ∧ (tg np 7 P (tg nu 11 U u 5) 0 = 2 → tg np 7 P (tg nu 11 U u 5) 2 < u)
def iO1 (nb : Int) (B : Int → Int) (nu : Int) (U : Int → Int) (np : Int) (P : Int → Int) (p : Int) : Prop := (¬ tg np 7 P p 0 = 0 → th nb B nu U (tg np 7 P p 0) (tg np 7 P p 1) (tg np 7 P p 2)) ∧ ap nu U (tg np 7 P p 0) (tg np 7 P p 1) (tg np 7 P p 2) (tg np 7 P p 3)
def iO (nb : Int) (B : Int → Int) (nu : Int) (U : Int → Int) (np : Int) (P : Int → Int) : Prop := (∀ p, 0 ≤ p → p < np → pO np P p → iO1 nb B nu U np P p) ∧ (∀ p q, 0 ≤ p → p < np → 0 ≤ q → q < np → pO np P p → pO np P q → ¬ p = q → ∀ u, ¬ (tl np P p u ∧ tl np P q u)) ∧ nu + su (uWt np P) 0 np ≤ 60 ∧ (∀ b, 0 ≤ b → b < nb → tg nb 7 B b 0 + su (fWt np P b) 0 np ≤ 6)
noncomputable def f5 (np : Int) (P : Int → Int) (nf : Int) (F : Int → Int) (b i : Int) : Int := zI (tg np 7 P (tg nf 1 F i 0) 0 = 5 ∧ tg np 7 P (tg nf 1 F i 0) 1 = b) 1 0
def iF (dy nb : Int) (B : Int → Int) (np : Int) (P : Int → Int) (nf : Int) (F : Int → Int) : Prop := su (fin3 np P) 0 np = nf ∧ (∀ i, 0 ≤ i → i < nf → (0 ≤ tg nf 1 F i 0 ∧ tg nf 1 F i 0 < np) ∧ tg np 7 P (tg nf 1 F i 0) 5 = 3 ∧ (tg np 7 P (tg nf 1 F i 0) 0 = 5 → 0 ≤ tg np 7 P (tg nf 1 F i 0) 1 ∧ tg np 7 P (tg nf 1 F i 0) 1 < nb)) ∧ (∀ i j, 0 ≤ i → i ≤ j → j < nf → tg np 7 P (tg nf 1 F i 0) 6 ≤ tg np 7 P (tg nf 1 F j 0) 6) ∧ (∀ b, 0 ≤ b → b < nb → tg nb 7 B b 0 = 1 + su (f5 np P nf F b) 0 nf)
/-- the i-th finished permit's step, among the units of its time -/
def gS (np : Int) (P : Int → Int) (q : Int) (n : Int → Int) (V : Int → Int → Int) (i : Int) : Prop := UI (tg np 7 P q 6) (n i) (V i) 40000 ∧ dn (n i) (V i) (tg np 7 P q 0) (tg np 7 P q 1) (tg np 7 P q 2) (tg np 7 P q 3) (tg np 7 P q 4) ∧ 0 ≤ n i ∧ n i + nK (tg np 7 P q 0) ≤ 60 ∧ n (i + 1) = cN (tg np 7 P q 0) (n i) ∧ V (i + 1) = cU (tg np 7 P q 0) (tg np 7 P q 1) (tg np 7 P q 2) (tg np 7 P q 3) (tg np 7 P q 4) (tg np 7 P q 6) q (n i) (V i)
def iG (nu : Int) (U : Int → Int) (np : Int) (P : Int → Int) (nf : Int) (F : Int → Int) : Prop := ∃ (n : Int → Int) (V : Int → Int → Int), n 0 = 0 ∧ (∀ i, 0 ≤ i → i < nf → gS np P (tg nf 1 F i 0) n V i) ∧ n nf = nu ∧ V nf = U
def IV (dy nb : Int) (B : Int → Int) (nu : Int) (U : Int → Int) (np : Int) (P : Int → Int) (nf : Int) (F : Int → Int) : Prop := WF dy nb B nu U np P nf F ∧ iB nb B ∧ iP dy np P ∧ (UI dy nu U (999 * nf) ∧ PS nu U ≤ 999 * nf) ∧ iL nu U np P ∧ iO nb B nu U np P ∧ iF dy nb B np P nf F ∧ iG nu U np P nf F
theorem fin3_nn {np : Int} {P : Int → Int} {j : Int} : 0 ≤ fin3 np P j := by unfold fin3 zI; split <;> omega
theorem gS_congr {np np' : Int} {P P' : Int → Int} {q : Int} {n : Int → Int} {V : Int → Int → Int} {i : Int} (h : ∀ j, 0 ≤ j → j < 7 → tg np' 7 P' q j = tg np 7 P q j) (g : gS np P q n V i) : gS np' P' q n V i := by
  unfold gS
  rw [h 0 (by omega) (by omega), h 1 (by omega) (by omega), h 2 (by omega) (by omega), h 3 (by omega) (by omega), h 4 (by omega) (by omega), h 6 (by omega) (by omega)]
  exact g
section In
variable {dy nb nu np nf : Int} {B U P F : Int → Int} {p q s x u b i j k one two three four : Int}
theorem IV0 : IV 0 0 (fun _ => 0) 0 (fun _ => 0) 0 (fun _ => 0) 0 (fun _ => 0) := by
  refine ⟨⟨by omega, by omega, by omega, by omega, by omega, R0, R0, R0, R0⟩, ⟨fun b j => ?_, fun b => ?_⟩, fun p a b => by omega, ⟨⟨fun u a b => by omega, fun u v a b c => by omega⟩, ?_⟩, fun u a b => by omega, ⟨fun p a b => by omega, fun p q a b => by omega, ?_, fun b a c => by omega⟩, ⟨?_, fun i a b => by omega, fun i j a b c => by omega, fun b a c => by omega⟩, ⟨fun _ => 0, fun _ _ => 0, rfl, fun i a b => by omega, rfl, rfl⟩⟩
  · unfold tg; rw [if_neg (by omega)]; omega
  · unfold tg; rw [if_neg (by omega)]; omega
  · unfold PS; rw [su_end _ (by omega)]; omega
  · rw [su_end _ (by omega)]; omega
  · exact su_end _ (by omega)
/-! A permit's stage. -/
theorem st_num (hp : 0 ≤ p ∧ p < np) (hj : 0 ≤ j ∧ j < 5) : tg np 7 (stP np P p s dy) i j = tg np 7 P i j := by
  rw [tg_st hp (by omega), if_neg (by omega), if_neg (by omega)]
theorem st_oth (hp : 0 ≤ p ∧ p < np) (hi : ¬ i = p) (hj : 0 ≤ j ∧ j < 7) : tg np 7 (stP np P p s dy) i j = tg np 7 P i j := by
  rw [tg_st hp hj, if_neg (by omega), if_neg (by omega)]
theorem st_5 (hp : 0 ≤ p ∧ p < np) : tg np 7 (stP np P p s dy) p 5 = s := by
  rw [tg_st hp (by omega), if_neg (by omega), if_pos ⟨rfl, rfl⟩]
theorem st_6 (hp : 0 ≤ p ∧ p < np) : tg np 7 (stP np P p s dy) p 6 = dy := by
  rw [tg_st hp (by omega), if_pos ⟨rfl, rfl⟩]
theorem tl_st (hp : 0 ≤ p ∧ p < np) : tl np (stP np P p s dy) i u = tl np P i u := by
  unfold tl oU
  rw [st_num hp (by omega), st_num hp (by omega), st_num hp (by omega)]
theorem pO_oth (hp : 0 ≤ p ∧ p < np) (hi : ¬ i = p) : pO np (stP np P p s dy) i = pO np P i := by
  unfold pO
  rw [st_oth hp hi (by omega)]
theorem pO_st (hp : 0 ≤ p ∧ p < np) : pO np (stP np P p s dy) p = (s = 1 ∨ s = 2) := by
  unfold pO
  rw [st_5 hp]
theorem uWt_oth (hp : 0 ≤ p ∧ p < np) (hi : ¬ i = p) : uWt np (stP np P p s dy) i = uWt np P i := by
  unfold uWt
  rw [pO_oth hp hi, st_num hp (by omega)]
theorem fWt_oth (hp : 0 ≤ p ∧ p < np) (hi : ¬ i = p) : fWt np (stP np P p s dy) b i = fWt np P b i := by
  unfold fWt
  rw [pO_oth hp hi, st_num hp (by omega), st_num hp (by omega)]
theorem iO1_st (hp : 0 ≤ p ∧ p < np) (h : iO1 nb B nu U np P i) : iO1 nb B nu U np (stP np P p s dy) i := by
  unfold iO1
  rw [st_num hp (by omega), st_num hp (by omega), st_num hp (by omega), st_num hp (by omega)]
  exact h
theorem fin_ne (I : iF dy nb B np P nf F) (h3 : ¬ tg np 7 P p 5 = 3) (hi : 0 ≤ i ∧ i < nf) : ¬ tg nf 1 F i 0 = p := by
  intro e
  have := (I.2.1 i hi.1 hi.2).2.1
  rw [e] at this
  exact h3 this
theorem per_ne (I : iL nu U np P) (h3 : ¬ tg np 7 P p 5 = 3) (hu : 0 ≤ u ∧ u < nu) : ¬ tg nu 11 U u 5 = p := by
  intro e
  have := (I u hu.1 hu.2).2.1
  rw [e] at this
  exact h3 this
/-- a permit comes to another stage, which is not that of the finished ones -/
theorem IV_stG (I : IV dy nb B nu U np P nf F) (hp : 0 ≤ p ∧ p < np) (h3 : ¬ tg np 7 P p 5 = 3) (hs : ¬ s = 3 ∧ 0 ≤ s ∧ s ≤ 6)
    (hO : s = 1 ∨ s = 2 → iO1 nb B nu U np P p ∧ (∀ q, 0 ≤ q → q < np → pO np P q → ¬ q = p → ∀ u, ¬ (tl np P p u ∧ tl np P q u)) ∧ nu + su (uWt np P) 0 np + (nK (tg np 7 P p 0) - uWt np P p) ≤ 60 ∧ (∀ b, 0 ≤ b → b < nb → tg nb 7 B b 0 + su (fWt np P b) 0 np + (zI (tg np 7 P p 0 = 5 ∧ tg np 7 P p 1 = b) 1 0 - fWt np P b p) ≤ 6)) : IV dy nb B nu U np (stP np P p s dy) nf F := by
  obtain ⟨W, iB0, iP0, iU0, iL0, iO0, iF0, n, V, g0, g1, g2, g3⟩ := I
  obtain ⟨⟨dy1, dy2⟩, hb, hu, hnp, hnf, RB, RUu, RP, RF⟩ := id W
  refine ⟨⟨⟨dy1, dy2⟩, hb, hu, hnp, hnf, RB, RUu, stR RP (by omega) ⟨dy1, dy2⟩, RF⟩, iB0, ?_, iU0, ?_, ⟨?_, ?_, ?_, ?_⟩, ⟨?_, ?_, ?_, ?_⟩, n, V, g0, ?_, g2, g3⟩
  · intro i a b
    rw [st_num hp (by omega), st_num hp (by omega), st_num hp (by omega), st_num hp (by omega), st_num hp (by omega)]
    obtain ⟨z1, z2, z3⟩ := iP0 i a b
    refine ⟨z1, ?_⟩
    by_cases c : i = p
    · subst c
      rw [st_5 hp, st_6 hp]
      exact ⟨hs.2, dy1, Int.le_refl _⟩
    · rw [st_oth hp c (by omega), st_oth hp c (by omega)]
      exact ⟨z2, z3⟩
  · intro u a b
    have c := per_ne iL0 h3 ⟨a, b⟩
    rw [st_oth hp c (by omega), st_oth hp c (by omega), st_oth hp c (by omega), st_oth hp c (by omega)]
    exact iL0 u a b
  · intro i a b o
    refine iO1_st hp ?_
    by_cases c : i = p
    · subst c
      rw [pO_st hp] at o
      exact (hO o).1
    · rw [pO_oth hp c] at o
      exact iO0.1 i a b o
  · intro i k a b c d e f ne u
    rw [tl_st hp, tl_st hp]
    by_cases c1 : i = p
    · subst c1
      rw [pO_st hp] at e
      rw [pO_oth hp (fun z => ne z.symm)] at f
      exact (hO e).2.1 k c d f (fun z => ne z.symm) u
    · rw [pO_oth hp c1] at e
      by_cases c2 : k = p
      · subst c2
        rw [pO_st hp] at f
        intro z
        exact (hO f).2.1 i a b e c1 u ⟨z.2, z.1⟩
      · rw [pO_oth hp c2] at f
        exact iO0.2.1 i k a b c d e f ne u
  · rw [su_upd (g := uWt np P) hp (fun j _ _ c => uWt_oth hp c)]
    have w : uWt np (stP np P p s dy) p = zI (s = 1 ∨ s = 2) (nK (tg np 7 P p 0)) 0 := by
      unfold uWt
      rw [pO_st hp, st_num hp (by omega)]
    rw [w]
    by_cases c : s = 1 ∨ s = 2
    · rw [zI_t c]
      have := (hO c).2.2.1
      omega
    · rw [zI_f c]
      have := (uWtb (np := np) (P := P) (p := p)).1
      have := iO0.2.2.1
      omega
  · intro b b0 b1
    rw [su_upd (g := fWt np P b) hp (fun j _ _ c => fWt_oth hp c)]
    have w : fWt np (stP np P p s dy) b p = zI ((s = 1 ∨ s = 2) ∧ tg np 7 P p 0 = 5 ∧ tg np 7 P p 1 = b) 1 0 := by
      unfold fWt
      rw [pO_st hp, st_num hp (by omega), st_num hp (by omega)]
    rw [w]
    by_cases c : s = 1 ∨ s = 2
    · have z := (hO c).2.2.2 b b0 b1
      by_cases c2 : tg np 7 P p 0 = 5 ∧ tg np 7 P p 1 = b
      · rw [zI_t ⟨c, c2⟩]
        rw [zI_t c2] at z
        omega
      · rw [zI_f (fun y => c2 y.2)]
        rw [zI_f c2] at z
        omega
    · rw [zI_f (fun y => c y.1)]
      have := (fWtb (np := np) (P := P) (b := b) (p := p)).1
      have := iO0.2.2.2 b b0 b1
      omega
  · rw [su_congr (g := fin3 np P) (fun j a b => by
      unfold fin3
      by_cases c : j = p
      · subst c
        rw [st_5 hp, zI_f hs.1, zI_f h3]
      · rw [st_oth hp c (by omega)])]
    exact iF0.1
  · intro i a b
    have c := fin_ne iF0 h3 ⟨a, b⟩
    rw [st_oth hp c (by omega), st_num hp (by omega), st_num hp (by omega)]
    exact iF0.2.1 i a b
  · intro i j a b c
    rw [st_oth hp (fin_ne iF0 h3 ⟨a, by omega⟩) (by omega), st_oth hp (fin_ne iF0 h3 ⟨by omega, c⟩) (by omega)]
    exact iF0.2.2.1 i j a b c
  · intro b b0 b1
    rw [iF0.2.2.2 b b0 b1, su_congr (f := f5 np (stP np P p s dy) nf F b) (g := f5 np P nf F b) (fun j _ _ => by
      unfold f5
      rw [st_num hp (by omega), st_num hp (by omega)])]
  · intro i a b
    exact gS_congr (fun j j0 j1 => st_oth hp (fin_ne iF0 h3 ⟨a, b⟩) ⟨j0, j1⟩) (g1 i a b)
theorem uWt_p (h : pO np P p) : uWt np P p = nK (tg np 7 P p 0) := zI_t h
theorem uWt_c (h : ¬ pO np P p) : uWt np P p = 0 := zI_f h
/-- a stage that is not open, out of one that is not that of the finished -/
theorem IV_shut (I : IV dy nb B nu U np P nf F) (hp : 0 ≤ p ∧ p < np) (h3 : ¬ tg np 7 P p 5 = 3) (hs : s = 4 ∨ s = 5 ∨ s = 6) : IV dy nb B nu U np (stP np P p s dy) nf F :=
  IV_stG I hp h3 (by omega) (fun z => by omega)
theorem IV_begin (I : IV dy nb B nu U np P nf F) (hp : 0 ≤ p ∧ p < np) (h1 : tg np 7 P p 5 = 1) : IV dy nb B nu U np (stP np P p 2 dy) nf F := by
  have o : pO np P p := Or.inl h1
  refine IV_stG I hp (by omega) (by omega) (fun _ => ?_)
  obtain ⟨o1, o2, o3, o4⟩ := I.2.2.2.2.2.1
  refine ⟨o1 p hp.1 hp.2 o, fun q a b c d u => o2 p q hp.1 hp.2 a b o c (fun z => d z.symm) u, ?_, fun b b0 b1 => ?_⟩
  · rw [uWt_p o]; omega
  · have z := o4 b b0 b1
    unfold fWt
    by_cases c : tg np 7 P p 0 = 5 ∧ tg np 7 P p 1 = b
    · rw [zI_t c, zI_t ⟨o, c⟩]; unfold fWt at z; omega
    · rw [zI_f c, zI_f (fun y => c y.2)]; unfold fWt at z; omega
theorem IV_grant (I : IV dy nb B nu U np P nf F) (hp : 0 ≤ p ∧ p < np) (h0 : tg np 7 P p 5 = 0) (hr : rsn dy nb B nu U np P p = 0) : IV dy nb B nu U np (stP np P p 1 dy) nf F := by
  have no : ¬ pO np P p := fun z => by unfold pO at z; omega
  refine IV_stG I hp (by omega) (by omega) (fun _ => ?_)
  obtain ⟨o1, o2, o3, o4⟩ := I.2.2.2.2.2.1
  unfold rsn at hr
  by_cases c1 : th nb B nu U (tg np 7 P p 0) (tg np 7 P p 1) (tg np 7 P p 2)
  · rw [zI_f (fun z => z c1)] at hr
    by_cases c2 : tk np P p
    · rw [zI_t c2] at hr; omega
    · rw [zI_f c2] at hr
      by_cases c3 : tg np 7 P p 0 = 0 ∧ fRoom dy nb B nu U np P (tg np 7 P p 1) (tg np 7 P p 2) < tg np 7 P p 3
      · rw [zI_t c3] at hr; omega
      · rw [zI_f c3] at hr
        by_cases c4 : ap nu U (tg np 7 P p 0) (tg np 7 P p 1) (tg np 7 P p 2) (tg np 7 P p 3)
        · rw [zI_f (fun z => z c4)] at hr
          by_cases c5 : tm nb B nu np P p
          · rw [zI_t c5] at hr; omega
          · unfold tm at c5
            have w1 : ¬ 60 < uW nu np P p := fun z => c5 (Or.inl z)
            have w2 : tg np 7 P p 0 = 5 → ¬ 6 < fW nb B np P (tg np 7 P p 1) := fun y z => c5 (Or.inr ⟨y, z⟩)
            refine ⟨⟨fun _ => c1, c4⟩, ?_, ?_, ?_⟩
            · intro q a b c d u z
              apply c2
              have ou : oU np P p := by
                rcases z.1 with y | y
                · exact y.1
                · unfold oU; omega
              refine ⟨ou, q, a, b, c, ?_⟩
              rcases z.1 with y | y
              · left; rw [y.2]; exact z.2
              · right; exact ⟨y.1, by rw [y.2]; exact z.2⟩
            · rw [uWt_c no]
              unfold uW at w1
              omega
            · intro b b0 b1
              have z := o4 b b0 b1
              have e : fWt np P b p = 0 := zI_f (fun y => no y.1)
              rw [e]
              by_cases c : tg np 7 P p 0 = 5 ∧ tg np 7 P p 1 = b
              · rw [zI_t c]
                have := w2 c.1
                unfold fW at this
                rw [c.2] at this
                omega
              · rw [zI_f c]; omega
        · rw [zI_t c4] at hr; omega
  · rw [zI_t c1] at hr; omega
theorem IV_day (I : IV dy nb B nu U np P nf F) (h : dy < 9999) : IV (dy + 1) nb B nu U np P nf F := by
  obtain ⟨⟨⟨dy1, dy2⟩, W⟩, iB0, iP0, iU0, iL0, iO0, iF0, g⟩ := I
  refine ⟨⟨⟨by omega, by omega⟩, W⟩, iB0, ?_, ⟨UI_le iU0.1 (Int.le_refl _) (by omega), iU0.2⟩, iL0, iO0, iF0, g⟩
  intro p a b
  obtain ⟨z1, z2, z3⟩ := iP0 p a b
  exact ⟨z1, z2, z3.1, by omega⟩
theorem IV_lpk : ∀ (k : Nat) (i : Int) (P : Int → Int) (c : Int), 0 ≤ i → i + k ≤ np → IV dy nb B nu U np P nf F → IV dy nb B nu U np (lpk np dy k i (P, c)).1 nf F
  | 0, _, _, _, _, _, I => I
  | k + 1, i, P, c, h0, h1, I => by
    unfold lpk
    dsimp only
    split
    · next z => exact IV_lpk k (i + 1) _ _ (by omega) (by omega) (IV_shut (s := 5) I ⟨h0, by omega⟩ (by omega) (by omega))
    · exact IV_lpk k (i + 1) _ _ (by omega) (by omega) I
theorem IV_psk : ∀ (k : Nat) (dy : Int) (P : Int → Int) (c : Int), dy + k ≤ 9999 → IV dy nb B nu U np P nf F → IV (psk np k (dy, P, c)).1 nb B nu U np (psk np k (dy, P, c)).2.1 nf F
  | 0, _, _, _, _, I => I
  | k + 1, dy, P, c, h, I => by
    unfold psk
    refine IV_psk k (dy + 1) _ _ (by omega) ?_
    refine IV_lpk _ 0 P 0 (Int.le_refl _) ?_ (IV_day I (by omega))
    have := I.1.2.2.2.1
    omega
/-! A permit is applied for. -/
theorem IV_aP (I : IV dy nb B nu U np P nf F) (hn : np < 40) (hk : aN k one two three four) : IV dy nb B nu U (np + 1) (aP np dy P k one two three four) nf F := by
  obtain ⟨W, iB0, iP0, iU0, iL0, iO0, iF0, n, V, g0, g1, g2, g3⟩ := I
  obtain ⟨⟨dy1, dy2⟩, hb, hu, hnp, hnf, RB, RUu, RP, RF⟩ := id W
  have old : ∀ q j, 0 ≤ q → q < np → 0 ≤ j → j < 7 → tg (np + 1) 7 (aP np dy P k one two three four) q j = tg np 7 P q j := fun q j a b c d => aP_old ⟨a, b⟩ ⟨c, d⟩
  have n5 : tg (np + 1) 7 (aP np dy P k one two three four) np 5 = 0 := by rw [aP_new hnp.1 (by omega), if_neg (by omega), if_pos rfl]
  have no : ¬ pO (np + 1) (aP np dy P k one two three four) np := by unfold pO; rw [n5]; omega
  have pOo : ∀ q, 0 ≤ q → q < np → pO (np + 1) (aP np dy P k one two three four) q = pO np P q := fun q a b => by unfold pO; rw [old q 5 a b (by omega) (by omega)]
  have lt : ∀ q, q < np + 1 → pO (np + 1) (aP np dy P k one two three four) q → q < np := fun q a o => by
    refine Classical.byContradiction fun z => ?_
    rw [show q = np by omega] at o
    exact no o
  have tlo : ∀ q u, 0 ≤ q → q < np → tl (np + 1) (aP np dy P k one two three four) q u = tl np P q u := fun q u a b => by
    unfold tl oU
    rw [old q 0 a b (by omega) (by omega), old q 1 a b (by omega) (by omega), old q 2 a b (by omega) (by omega)]
  have r0 : (-2147483648 ≤ k ∧ k < 2147483648) ∧ (-2147483648 ≤ one ∧ one < 2147483648) ∧ (-2147483648 ≤ two ∧ two < 2147483648) ∧ (-2147483648 ≤ three ∧ three < 2147483648) ∧ (-2147483648 ≤ four ∧ four < 2147483648) := by
    have q := hk
    unfold aN at q
    omega
  refine ⟨⟨⟨dy1, dy2⟩, hb, hu, by omega, hnf, RB, RUu, aPR RP ⟨dy1, dy2⟩ (by omega) (by omega) (by omega) (by omega) (by omega), RF⟩, iB0, ?_, iU0, ?_, ⟨?_, ?_, ?_, ?_⟩, ⟨?_, ?_, ?_, ?_⟩, n, V, g0, ?_, g2, g3⟩
  · intro q a b
    by_cases c : q < np
    · rw [old q 0 a c (by omega) (by omega), old q 1 a c (by omega) (by omega), old q 2 a c (by omega) (by omega), old q 3 a c (by omega) (by omega), old q 4 a c (by omega) (by omega), old q 5 a c (by omega) (by omega), old q 6 a c (by omega) (by omega)]
      exact iP0 q a c
    · rw [show q = np by omega, n5]
      rw [aP_new hnp.1 (by omega), aP_new hnp.1 (by omega), aP_new hnp.1 (by omega), aP_new hnp.1 (by omega), aP_new hnp.1 (by omega), aP_new hnp.1 (by omega)]
      refine ⟨?_, by omega, ?_⟩
      · simpa using hk
      · rw [if_pos rfl]; omega
  · intro u a b
    have z := iL0 u a b
    rw [old _ 5 z.1.1 z.1.2 (by omega) (by omega), old _ 0 z.1.1 z.1.2 (by omega) (by omega), old _ 1 z.1.1 z.1.2 (by omega) (by omega), old _ 2 z.1.1 z.1.2 (by omega) (by omega)]
    exact ⟨⟨z.1.1, by omega⟩, z.2⟩
  · intro q a b o
    have c := lt q b o
    rw [pOo q a c] at o
    unfold iO1
    rw [old q 0 a c (by omega) (by omega), old q 1 a c (by omega) (by omega), old q 2 a c (by omega) (by omega), old q 3 a c (by omega) (by omega)]
    exact iO0.1 q a c o
  · intro q s a b c d e f ne u
    have b' := lt q b e
    have d' := lt s d f
    rw [pOo q a b'] at e
    rw [pOo s c d'] at f
    rw [tlo q u a b', tlo s u c d']
    exact iO0.2.1 q s a b' c d' e f ne u
  · rw [su_snoc _ hnp.1, uWt_c no, su_congr (g := uWt np P) (fun j a b => by
      unfold uWt
      rw [pOo j a b, old j 0 a b (by omega) (by omega)])]
    have := iO0.2.2.1
    omega
  · intro b b0 b1
    have e : fWt (np + 1) (aP np dy P k one two three four) b np = 0 := zI_f (fun y => no y.1)
    rw [su_snoc _ hnp.1, e, su_congr (g := fWt np P b) (fun j a c => by
      unfold fWt
      rw [pOo j a c, old j 0 a c (by omega) (by omega), old j 1 a c (by omega) (by omega)])]
    have := iO0.2.2.2 b b0 b1
    omega
  · have e : fin3 (np + 1) (aP np dy P k one two three four) np = 0 := by
      unfold fin3
      rw [n5]
      exact zI_f (by omega)
    rw [su_snoc _ hnp.1, e, su_congr (g := fin3 np P) (fun j a c => by
      unfold fin3
      rw [old j 5 a c (by omega) (by omega)])]
    have := iF0.1
    omega
  · intro i a b
    have z := iF0.2.1 i a b
    rw [old _ 5 z.1.1 z.1.2 (by omega) (by omega), old _ 0 z.1.1 z.1.2 (by omega) (by omega), old _ 1 z.1.1 z.1.2 (by omega) (by omega)]
    exact ⟨⟨z.1.1, by omega⟩, z.2⟩
  · intro i j a b c
    have z1 := iF0.2.1 i a (by omega)
    have z2 := iF0.2.1 j (by omega) c
    rw [old _ 6 z1.1.1 z1.1.2 (by omega) (by omega), old _ 6 z2.1.1 z2.1.2 (by omega) (by omega)]
    exact iF0.2.2.1 i j a b c
  · intro b b0 b1
    rw [iF0.2.2.2 b b0 b1, su_congr (f := f5 (np + 1) (aP np dy P k one two three four) nf F b) (g := f5 np P nf F b) (fun j a c => by
      have z := iF0.2.1 j a c
      unfold f5
      rw [old _ 0 z.1.1 z.1.2 (by omega) (by omega), old _ 1 z.1.1 z.1.2 (by omega) (by omega)])]
  · intro i a b
    have z := iF0.2.1 i a b
    exact gS_congr (fun j j0 j1 => old _ j z.1.1 z.1.2 j0 j1) (g1 i a b)
theorem IV_apk {V : Int → Int} : ∀ (m : Nat) (i np : Int) (P : Int → Int), np + m ≤ 40 → (∀ j, i ≤ j → j < i + m → aN (V (j * 5 + 0)) (V (j * 5 + 1)) (V (j * 5 + 2)) (V (j * 5 + 3)) (V (j * 5 + 4))) → IV dy nb B nu U np P nf F → IV dy nb B nu U (apk dy V m i (np, P)).1 (apk dy V m i (np, P)).2 nf F
  | 0, _, _, _, _, _, I => I
  | m + 1, i, np, P, h, ha, I => by
    unfold apk
    exact IV_apk m (i + 1) (np + 1) _ (by omega) (fun j a b => ha j (by omega) (by omega)) (IV_aP I (by omega) (ha i (by omega) (by omega)))
/-! A building is added. -/
theorem tg_nB (hn : 0 ≤ nb) (hj : 0 ≤ j ∧ j < 7) (hi : 0 ≤ i ∧ i < nb + 1) : tg (nb + 1) 7 (nB nb B x) i j = if i = nb then (if j = 0 then 1 else if j = 1 then x else 0) else tg nb 7 B i j := by
  rw [tg_in (by omega)]
  unfold nB
  by_cases c : i = nb
  · subst c
    rw [if_pos rfl]
    unfold iup zr
    by_cases c0 : j = 0
    · rw [if_pos c0, if_neg (by omega), if_pos (by omega)]
    · by_cases c1 : j = 1
      · rw [if_neg c0, if_pos c1, if_pos (by omega)]
      · rw [if_neg c0, if_neg c1, if_neg (by omega), if_neg (by omega), if_pos (by omega)]
  · rw [if_neg c, tg_in (by omega)]
    unfold iup zr
    rw [if_neg (by omega), if_neg (by omega), if_neg (by omega)]
theorem IV_nB (I : IV dy nb B nu U np P nf F) (hn : nb < 4) (hx : 10 ≤ x ∧ x ≤ 999) : IV dy (nb + 1) (nB nb B x) nu U np P nf F := by
  obtain ⟨W, iB0, iP0, iU0, iL0, iO0, iF0, g⟩ := I
  obtain ⟨⟨dy1, dy2⟩, hb, hu, hnp, hnf, RB, RUu, RP, RF⟩ := id W
  have old : ∀ b j, 0 ≤ b → b < nb → 0 ≤ j → j < 7 → tg (nb + 1) 7 (nB nb B x) b j = tg nb 7 B b j := fun b j a c d e => by
    rw [tg_nB hb.1 ⟨d, e⟩ (by omega), if_neg (by omega)]
  have new : tg (nb + 1) 7 (nB nb B x) nb 0 = 1 := by rw [tg_nB hb.1 (by omega) (by omega), if_pos rfl, if_pos rfl]
  have all : ∀ b j, 0 ≤ tg (nb + 1) 7 (nB nb B x) b j ∧ tg (nb + 1) 7 (nB nb B x) b j ≤ 999 := by
    intro b j
    by_cases c : 0 ≤ b ∧ b < nb + 1 ∧ 0 ≤ j ∧ j < 7
    · rw [tg_nB hb.1 (by omega) (by omega)]
      split
      · split
        · omega
        · split <;> omega
      · exact iB0.1 b j
    · unfold tg
      rw [if_neg c]
      omega
  have thn : ∀ q, 0 ≤ q → q < np → pO np P q → tg np 7 P q 0 = 5 → 0 ≤ tg np 7 P q 1 ∧ tg np 7 P q 1 < nb := by
    intro q a b o e
    have z := (iO0.1 q a b o).1 (by omega)
    rw [e, th_5] at z
    exact z
  refine ⟨⟨⟨dy1, dy2⟩, by omega, hu, hnp, hnf, iupR (iupR (zrR RB) (by omega)) (by omega), RUu, RP, RF⟩, ⟨all, ?_⟩, iP0, iU0, iL0, ⟨?_, iO0.2.1, iO0.2.2.1, ?_⟩, ⟨iF0.1, ?_, iF0.2.2.1, ?_⟩, g⟩
  · intro b
    by_cases c : 0 ≤ b ∧ b < nb + 1
    · rw [tg_nB hb.1 (by omega) c]
      split
      · rw [if_pos rfl]; omega
      · exact iB0.2 b
    · unfold tg
      rw [if_neg (by omega)]
      omega
  · intro q a b o
    have z := iO0.1 q a b o
    refine ⟨fun k0 => ?_, z.2⟩
    have y := z.1 k0
    unfold th at y ⊢
    rcases y with y | y | y | y
    · exact absurd y.1 k0
    · exact Or.inr (Or.inl ⟨y.1, y.2.1, by omega⟩)
    · exact Or.inr (Or.inr (Or.inl y))
    · exact Or.inr (Or.inr (Or.inr y))
  · intro b b0 b1
    by_cases c : b < nb
    · rw [old b 0 b0 c (by omega) (by omega)]
      exact iO0.2.2.2 b b0 c
    · rw [show b = nb by omega, new, su_zero (f := fWt np P nb) (fun j a d => zI_f (fun y => by
        have := thn j a d y.1 y.2.1
        omega))]
      omega
  · intro i a b
    have z := iF0.2.1 i a b
    exact ⟨z.1, z.2.1, fun e => ⟨(z.2.2 e).1, by have := (z.2.2 e).2; omega⟩⟩
  · intro b b0 b1
    by_cases c : b < nb
    · rw [old b 0 b0 c (by omega) (by omega)]
      exact iF0.2.2.2 b b0 c
    · rw [show b = nb by omega, new, su_zero (f := f5 np P nf F nb) (fun j a d => zI_f (fun y => by
        have := (iF0.2.1 j a d).2.2 y.1
        omega))]
      rfl
end In
