/-! What follows from what always holds. -/
section Co
variable {dy nb nu np nf : Int} {B U P F : Int → Int} {p q s x u b i j k one two three four c t f z : Int}
theorem tgo {w : Int} {A : Int → Int} (h : ¬ (0 ≤ i ∧ i < c ∧ 0 ≤ j ∧ j < w)) : tg c w A i j = 0 := by
  unfold tg
  rw [if_neg h]
theorem IV_uS (I : IV dy nb B nu U np P nf F) : 0 ≤ uS nu U u ∧ uS nu U u ≤ 40000 := by
  by_cases h : 0 ≤ u ∧ u < nu
  · have z := (I.2.2.2.1.1.1 u h.1 h.2).2.2.2.2
    have := I.1.2.2.2.2.1
    omega
  · unfold uS
    rw [tgo (by omega), tgo (by omega), tgo (by omega), tgo (by omega), tgo (by omega)]
    omega
theorem IV_tal (I : IV dy nb B nu U np P nf F) : 0 ≤ tal nu U t b f (-1) z ∧ tal nu U t b f (-1) z ≤ 40000 * 60 := by
  have hn := I.1.2.2.1
  have a := su_bd (g := tt nu U t b f (-1) z) (c := 40000) (i := 0) (n := nu) (fun j a d => by
    have y := IV_uS (u := j) I
    unfold tt uA zI
    rw [if_pos rfl]
    split
    · split
      · rw [if_pos (Or.inl rfl)]; omega
      · exact y
    · omega) hn.1 (by omega)
  unfold tal
  have : (40000 : Int) * (nu - 0) ≤ 40000 * 60 := by omega
  omega
theorem IV_GB (I : IV dy nb B nu U np P nf F) : GB dy nb B nu U np P := by
  obtain ⟨W, iB0, iP0, r⟩ := id I
  have hnp := W.2.2.2.1
  have aa : ∀ p, 0 ≤ p → p < np → (0 ≤ tg np 7 P p 0 ∧ tg np 7 P p 0 ≤ 5) ∧ (0 ≤ tg np 7 P p 3 ∧ tg np 7 P p 3 ≤ 999) ∧ (tg np 7 P p 0 = 0 → 0 ≤ tg np 7 P p 2 ∧ tg np 7 P p 2 ≤ 9) := by
    intro p a b
    have z := (iP0 p a b).1
    unfold aN at z
    omega
  refine ⟨fun b => ⟨(iB0.1 b 0).1, iB0.2 b⟩, fun o => ?_, fun p => ?_, fun p => ?_, fun u => ?_, fun b f => ?_, fun q => ?_⟩
  · by_cases h : 0 ≤ o ∧ o < np
    · exact (aa o h.1 h.2).1
    · rw [tgo (by omega)]; omega
  · by_cases h : 0 ≤ p ∧ p < np
    · exact (aa p h.1 h.2).2.1
    · rw [tgo (by omega)]; omega
  · by_cases h : 0 ≤ p ∧ p < np
    · exact (aa p h.1 h.2).2.2
    · intro _; rw [tgo (by omega)]; omega
  · have := IV_uS (u := u) I
    omega
  · have a := iB0.1 b (1 + f)
    have d := IV_tal (t := dy) (b := b) (f := f) (z := 1) I
    have e := su_bd (g := frT np P b f) (c := 999) (i := 0) (n := np) (fun j a d => by
      have y := (aa j a d).2.1
      unfold frT zI
      split
      · exact y
      · omega) hnp.1 (by omega)
    unfold fRoom
    have : (999 : Int) * (np - 0) ≤ 999 * 40 := by omega
    omega
  · by_cases h : 0 ≤ q ∧ q < np
    · have z := (iP0 q h.1 h.2).2.2
      have := W.1
      omega
    · rw [tgo (by omega)]; omega
theorem IV_hI (I : IV dy nb B nu U np P nf F) : ∀ u, 0 ≤ u → u < nu → tg nu 11 U u 2 ≤ dy ∧ tg nu 11 U u 3 ≤ dy := by
  intro u a b
  have z := I.2.2.2.1.1.1 u a b
  have := I.1.1
  refine ⟨z.1.2, ?_⟩
  rcases z.2.1 with y | y <;> omega
theorem IV_hA (I : IV dy nb B nu U np P nf F) : ∀ u, 0 ≤ u → u < nu → (∀ k, 0 ≤ k → k < 5 → 0 ≤ tg nu 11 U u (6 + k)) ∧ 0 < uS nu U u ∧ uS nu U u ≤ 200000 := by
  intro u a b
  have z := I.2.2.2.1.1.1 u a b
  have := IV_uS (u := u) I
  exact ⟨z.2.2.2.1, by have := z.2.2.2.2.1; omega, by omega⟩
theorem IV_h34 (I : IV dy nb B nu U np P nf F) : ∀ p, tg np 7 P p 0 = 3 → 0 ≤ tg np 7 P p 3 ∧ tg np 7 P p 3 < 5 := by
  intro p e
  by_cases h : 0 ≤ p ∧ p < np
  · have z := (I.2.2.1 p h.1 h.2).1
    unfold aN at z
    omega
  · rw [tgo (by omega)] at e
    omega
theorem IV_hup (I : IV dy nb B nu U np P nf F) : ∀ u, 0 ≤ u → u < nu → 0 ≤ tg nu 11 U u 5 ∧ tg nu 11 U u 5 < np := fun u a b => (I.2.2.2.2.1 u a b).1
theorem IV_hmo (I : IV dy nb B nu U np P nf F) : ∀ u v, 0 ≤ u → u ≤ v → v < nu → tg nu 11 U u 2 ≤ tg nu 11 U v 2 := I.2.2.2.1.1.2
theorem IV_hc0 (I : IV dy nb B nu U np P nf F) : ∀ u, 0 ≤ u → u < nu → 0 ≤ tg nu 11 U u 2 := fun u a b => (I.2.2.2.1.1.1 u a b).1.1
theorem IV_PH (I : IV dy nb B nu U np P nf F) : PH nu U np P := by
  have key : ∀ u, 0 ≤ u → u < nu → (0 ≤ tg np 7 P (tg nu 11 U u 5) 1 ∧ 0 ≤ tg np 7 P (tg nu 11 U u 5) 2) := by
    intro u a b
    have z := (I.2.2.2.2.1 u a b).1
    have y := (I.2.2.1 _ z.1 z.2).1
    unfold aN at y
    omega
  constructor
  · intro u a b
    have z := key u a b
    unfold pA
    constructor
    · split
      · split
        · split <;> omega
        · split <;> omega
      · exact z.1
    · split
      · split
        · split <;> omega
        · split <;> omega
      · exact z.1
  · intro u a b
    have z := (I.2.2.2.2.1 u a b).2.2
    unfold pN pA pK
    constructor
    · intro h
      by_cases c2 : tg np 7 P (tg nu 11 U u 5) 0 = 2
      · have w1 := z.1 (by omega)
        have w2 := z.2 c2
        rw [if_pos c2, if_pos rfl]
        split <;> omega
      · rw [if_neg c2]
        refine z.1 ?_
        by_cases c1 : tg np 7 P (tg nu 11 U u 5) 0 = 1 ∨ tg np 7 P (tg nu 11 U u 5) 0 = 3
        · omega
        · rw [if_neg c1, if_neg c2] at h
          omega
    · intro h
      by_cases c1 : tg np 7 P (tg nu 11 U u 5) 0 = 1 ∨ tg np 7 P (tg nu 11 U u 5) 0 = 3
      · rw [if_pos c1] at h
        omega
      · rw [if_neg c1] at h
        by_cases c2 : tg np 7 P (tg nu 11 U u 5) 0 = 2
        · have w1 := z.1 (by omega)
          have w2 := z.2 c2
          rw [if_pos c2, if_neg (by omega)]
          split <;> omega
        · rw [if_neg c2] at h
          omega
theorem IV_fin3 (I : IV dy nb B nu U np P nf F) : su (fin3 np P) 0 np = nf := I.2.2.2.2.2.2.1.1
theorem IV_nflt (I : IV dy nb B nu U np P nf F) (hp : 0 ≤ p ∧ p < np) (h2 : tg np 7 P p 5 = 2) : nf < 40 := by
  have := fin_lt (IV_fin3 I) hp (by omega)
  have := I.1.2.2.2.1
  omega
theorem IV_cP (I : IV dy nb B nu U np P nf F) (hp : 0 ≤ p ∧ p < np) (h2 : tg np 7 P p 5 = 2) : cP (tg np 7 P p 0) (tg np 7 P p 1) (tg np 7 P p 2) (tg np 7 P p 3) (tg np 7 P p 4) nb B nu U := by
  obtain ⟨D, h60, h5, _⟩ := open_ok I hp (Or.inr h2)
  refine cP_dn I.2.2.2.1.1 ?_ D I.1.2.2.1.1 h60 (fun e => ?_)
  · have := I.1.2.2.2.2.1
    omega
  · have := (h5 e).2
    have := (I.2.1.1 (tg np 7 P p 1) 0).1
    omega
theorem IV_day0 (I : IV dy nb B nu U np P nf F) : 0 ≤ dy ∧ dy ≤ 9999 := I.1.1
/-! The Model's numbers stay the class's while days pass. -/
theorem psj_MR (hn : (0 ≤ nb ∧ nb ≤ 4) ∧ 0 ≤ nu ∧ nu ≤ 60) (hnp : 0 ≤ np) (hb6 : ∀ b, 0 ≤ tg nb 7 B b 0 ∧ tg nb 7 B b 0 ≤ 6) : ∀ (m : Nat) (dy : Int) (G P : Int → Int) (c : Int), MR G dy nb B nu U np P → MR (psj np m (dy, G, P, c)).2.1 (psj np m (dy, G, P, c)).1 nb B nu U np (psj np m (dy, G, P, c)).2.2.1
  | 0, _, _, _, _, R => R
  | m + 1, dy, G, P, c, R => by
    unfold psj
    exact psj_MR hn hnp hb6 m (dy + 1) _ _ _ (lpj_MR ⟨hn.1.1, hn.1.2, hn.2⟩ hb6 np.toNat 0 _ (Int.le_refl _) (by omega) (MR_day R hb6))
theorem pass_MR {G : Int → Int} (I : IV dy nb B nu U np P nf F) (R : MR G dy nb B nu U np P) {m : Nat} : MR (psj np m (dy, G, P, 0)).2.1 (psk np m (dy, P, 0)).1 nb B nu U np (psk np m (dy, P, 0)).2.1 ∧ (psj np m (dy, G, P, 0)).2.2.2 = (psk np m (dy, P, 0)).2.2 := by
  have a := psj_MR (U := U) (nu := nu) ⟨I.1.2.1, I.1.2.2.1⟩ I.1.2.2.2.1.1 (IV_GB I).1 m dy G P 0 R
  have b := psj_ps (np := np) m (dy, G, P, 0)
  dsimp only at b
  rw [b.1] at a
  refine ⟨?_, congrArg Prod.snd b.2⟩
  rw [← congrArg Prod.fst b.2]
  exact a
end Co
