set_option maxRecDepth 20000
/-! The Model's numbers stay the class's: a unit comes, a unit ends, a floor comes. -/
section M19
variable {G pt : Int → Int} {dy nb nu np : Int} {B U P a : Int → Int} {b f u p x y g n j k : Int}
theorem cu_out (h : k < 32 + 13 * n ∨ 32 + 13 * n + 12 < k) (h2 : k < 2 ∨ 2 < k) : cuG G pt n p b f x y g k = G k := by
  unfold cuG iup
  rw [if_neg (by omega), if_neg (by omega), if_neg (by omega), if_neg (by omega), if_neg (by omega), if_neg (by omega), if_neg (by omega), if_neg (by omega), if_neg (by omega), if_neg (by omega), if_neg (by omega), if_neg (by omega), if_neg (by omega), if_neg (by omega)]
theorem cu_2 : cuG G pt n p b f x y g 2 = n + 1 := rfl
theorem mu_rw {R : Int → Int} (hn : 0 ≤ nu) (hu : 0 ≤ u ∧ u < nu) (h : 0 ≤ j ∧ j < 13) : mu (nu + 1) (rw11 U nu R) np P u j = mu nu U np P u j := by
  have e : ∀ c : Int, 0 ≤ c → c < 11 → tg (nu + 1) 11 (rw11 U nu R) u c = tg nu 11 U u c := fun c h0 h1 => tg_rw ⟨h0, h1⟩ hu
  have eK : pK (nu + 1) (rw11 U nu R) np P u = pK nu U np P u := by
    unfold pK
    rw [e 5 (by omega) (by omega)]
  have eN : pN (nu + 1) (rw11 U nu R) np P u = pN nu U np P u := by
    unfold pN
    rw [eK]
  have eA : ∀ i, pA (nu + 1) (rw11 U nu R) np P u i = pA nu U np P u i := by
    intro i
    unfold pA
    rw [eK, e 5 (by omega) (by omega)]
  unfold mu
  rw [eN, eA, eA, e 0 (by omega) (by omega), e 1 (by omega) (by omega), e 2 (by omega) (by omega), e 3 (by omega) (by omega), e 4 (by omega) (by omega), e 5 (by omega) (by omega)]
  by_cases c0 : j = 0
  · rw [if_pos c0, if_pos c0]
  · by_cases c1 : j = 1
    · rw [if_neg c0, if_neg c0, if_pos c1, if_pos c1]
    · by_cases c7 : 7 ≤ j
      · have c : j = 7 ∨ j = 8 ∨ j = 9 ∨ j = 10 ∨ j = 11 ∨ j = 12 := by omega
        rcases c with rfl | rfl | rfl | rfl | rfl | rfl <;> rfl
      · rw [e (j + 4) (by omega) (by omega)]
theorem MR_new (R : MR G dy nb B nu U np P) (hn : 0 ≤ nu ∧ nu < 60) (hb : 0 ≤ nb ∧ nb ≤ 4) (hb6 : ∀ b, 0 ≤ tg nb 7 B b 0 ∧ tg nb 7 B b 0 ≤ 6) (ha : ∀ k, 0 ≤ k → k < 5 → a k = pt k)
    (hx : x = if pN (nu + 1) (rw11 U nu (mk b f dy (-1) g p a)) np P nu = 0 then -1 else pA (nu + 1) (rw11 U nu (mk b f dy (-1) g p a)) np P nu 0)
    (hy : y = if pN (nu + 1) (rw11 U nu (mk b f dy (-1) g p a)) np P nu = 2 then pA (nu + 1) (rw11 U nu (mk b f dy (-1) g p a)) np P nu 1 else -1) :
    MR (cuG G pt nu p b f x y g) dy nb B (nu + 1) (rw11 U nu (mk b f dy (-1) g p a)) np P := by
  obtain ⟨R0, R1, R2, R3, RB, RUU, RP⟩ := R
  refine ⟨by rw [cu_out (by omega) (by omega)]; exact R0, by rw [cu_out (by omega) (by omega)]; exact R1, cu_2, by rw [cu_out (by omega) (by omega)]; exact R3, ?_, ?_, ?_⟩
  · intro b h0 h1
    have q := hb6 b
    rw [cu_out (by omega) (by omega)]
    refine ⟨(RB b h0 h1).1, fun f f0 f1 => ?_⟩
    rw [cu_out (by omega) (by omega)]
    exact (RB b h0 h1).2 f f0 f1
  · intro u j h0 h1 h2 h3
    by_cases c : u = nu
    · subst c
      have hj : j = 0 ∨ j = 1 ∨ j = 2 ∨ j = 3 ∨ j = 4 ∨ j = 5 ∨ j = 6 ∨ j = 7 ∨ j = 8 ∨ j = 9 ∨ j = 10 ∨ j = 11 ∨ j = 12 := by omega
      have et : ∀ c : Int, 0 ≤ c → c < 11 → tg (u + 1) 11 (rw11 U u (mk b f dy (-1) g p a)) u c = mk b f dy (-1) g p a c := by
        intro c h0 h1
        rw [tg_in (by omega), rw_at (by omega)]
      have hG : ∀ j : Int, 0 ≤ j → j < 13 → cuG G pt u p b f x y g (32 + 13 * u + j) = if j = 12 then g else if j = 11 then y else if j = 10 then x else if j = 9 then p else if j = 8 then -1 else if j = 7 then G 0 else if j = 6 then pt 4 else if j = 5 then pt 3 else if j = 4 then pt 2 else if j = 3 then pt 1 else if j = 2 then pt 0 else if j = 1 then f else if j = 0 then b else G (32 + 13 * u + j) := by
        intro j h0 h1
        unfold cuG iup
        rw [if_neg (by omega)]
        simp only [show ∀ c : Int, (32 + 13 * u + j = 32 + 13 * u + c) = (j = c) from fun c => propext ⟨fun _ => by omega, fun _ => by omega⟩]
      rw [hG j h2 h3]
      rcases hj with rfl | rfl | rfl | rfl | rfl | rfl | rfl | rfl | rfl | rfl | rfl | rfl | rfl
      · rw [mu_0, et 0 (by omega) (by omega)]; rfl
      · rw [mu_1, et 1 (by omega) (by omega)]; rfl
      · rw [mu_2, et 6 (by omega) (by omega), mk_6, ha 0 (by omega) (by omega)]; rfl
      · rw [mu_3, et 7 (by omega) (by omega), mk_7, ha 1 (by omega) (by omega)]; rfl
      · rw [mu_4, et 8 (by omega) (by omega), mk_8, ha 2 (by omega) (by omega)]; rfl
      · rw [mu_5, et 9 (by omega) (by omega), mk_9, ha 3 (by omega) (by omega)]; rfl
      · rw [mu_6, et 10 (by omega) (by omega), mk_10, ha 4 (by omega) (by omega)]; rfl
      · rw [mu_7, et 2 (by omega) (by omega)]; exact R0
      · rw [mu_8, et 3 (by omega) (by omega)]; rfl
      · rw [mu_9, et 5 (by omega) (by omega)]; rfl
      · rw [mu_10]; exact hx
      · rw [mu_11]; exact hy
      · rw [mu_12, et 4 (by omega) (by omega)]; rfl
    · rw [cu_out (by omega) (by omega), RUU u j h0 (by omega) h2 h3, mu_rw hn.1 ⟨h0, by omega⟩ ⟨h2, h3⟩]
  · intro q j h0 h1 h2 h3
    rw [cu_out (by omega) (by omega)]
    exact RP q j h0 h1 h2 h3
theorem MR_end (R : MR G dy nb B nu U np P) (hn : nu ≤ 60) (hb : 0 ≤ nb ∧ nb ≤ 4) (hb6 : ∀ b, 0 ≤ tg nb 7 B b 0 ∧ tg nb 7 B b 0 ≤ 6) (hu : 0 ≤ u ∧ u < nu) : MR (iup G (32 + 13 * u + 8) x) dy nb B nu (iup U (u * 11 + 3) x) np P := by
  obtain ⟨R0, R1, R2, R3, RB, RUU, RP⟩ := R
  refine ⟨by rw [iup_ne (by omega)]; exact R0, by rw [iup_ne (by omega)]; exact R1, by rw [iup_ne (by omega)]; exact R2, by rw [iup_ne (by omega)]; exact R3, ?_, ?_, ?_⟩
  · intro b h0 h1
    have q := hb6 b
    rw [iup_ne (by omega)]
    refine ⟨(RB b h0 h1).1, fun f f0 f1 => ?_⟩
    rw [iup_ne (by omega)]
    exact (RB b h0 h1).2 f f0 f1
  · intro v j h0 h1 h2 h3
    have e : ∀ c : Int, 0 ≤ c → c < 11 → ¬ c = 3 → tg nu 11 (iup U (u * 11 + 3) x) v c = tg nu 11 U v c := by
      intro c c0 c1 c2
      rw [tg_in (by omega), tg_in (by omega), iup_ne (by omega)]
    have eK : pK nu (iup U (u * 11 + 3) x) np P v = pK nu U np P v := by
      unfold pK
      rw [e 5 (by omega) (by omega) (by omega)]
    have eN : pN nu (iup U (u * 11 + 3) x) np P v = pN nu U np P v := by
      unfold pN
      rw [eK]
    have eA : ∀ i, pA nu (iup U (u * 11 + 3) x) np P v i = pA nu U np P v i := by
      intro i
      unfold pA
      rw [eK, e 5 (by omega) (by omega) (by omega)]
    by_cases c : v = u ∧ j = 8
    · rw [c.1, c.2, mu_8, iup_eq, tg_in (by omega), iup_eq]
    · rw [iup_ne (by omega), RUU v j h0 h1 h2 h3]
      have hj : j = 0 ∨ j = 1 ∨ j = 2 ∨ j = 3 ∨ j = 4 ∨ j = 5 ∨ j = 6 ∨ j = 7 ∨ j = 8 ∨ j = 9 ∨ j = 10 ∨ j = 11 ∨ j = 12 := by omega
      rcases hj with rfl | rfl | rfl | rfl | rfl | rfl | rfl | rfl | rfl | rfl | rfl | rfl | rfl
      · rw [mu_0, mu_0, e _ (by omega) (by omega) (by omega)]
      · rw [mu_1, mu_1, e _ (by omega) (by omega) (by omega)]
      · rw [mu_2, mu_2, e _ (by omega) (by omega) (by omega)]
      · rw [mu_3, mu_3, e _ (by omega) (by omega) (by omega)]
      · rw [mu_4, mu_4, e _ (by omega) (by omega) (by omega)]
      · rw [mu_5, mu_5, e _ (by omega) (by omega) (by omega)]
      · rw [mu_6, mu_6, e _ (by omega) (by omega) (by omega)]
      · rw [mu_7, mu_7, e _ (by omega) (by omega) (by omega)]
      · rw [mu_8, mu_8, tg_in (by omega), tg_in (by omega), iup_ne (by omega)]
      · rw [mu_9, mu_9, e _ (by omega) (by omega) (by omega)]
      · rw [mu_10, mu_10, eN, eA]
      · rw [mu_11, mu_11, eN, eA]
      · rw [mu_12, mu_12, e _ (by omega) (by omega) (by omega)]
  · intro q j h0 h1 h2 h3
    rw [iup_ne (by omega)]
    exact RP q j h0 h1 h2 h3
end M19
