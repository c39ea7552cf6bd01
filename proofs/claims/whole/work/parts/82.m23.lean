set_option maxRecDepth 20000
/-! The Model: what a finished permit does, in the class's terms. -/
section M23
variable {G : Int → Int} {dy nb nu np : Int} {B U P a : Int → Int} {b f u p x y g t e i one two three four : Int}
theorem cU_0 : cU 0 one two three four t p nu U = rw11 U nu (mk one two t (-1) 0 p (iup (fun _ => 0) four three)) := by
  unfold cU
  rw [if_pos rfl]
theorem cU_1 : cU 1 one two three four t p nu U = rw11 (rw11 (iup U (one * 11 + 3) t) nu (mk (U (one * 11 + 0)) (U (one * 11 + 1)) t (-1) (U (one * 11 + 4) + 1) p (shA (ar U one) two))) (nu + 1) (mk (U (one * 11 + 0)) (U (one * 11 + 1)) t (-1) (U (one * 11 + 4) + 1) p (r5 (ar U one 0 - shA (ar U one) two 0) (ar U one 1 - shA (ar U one) two 1) (ar U one 2 - shA (ar U one) two 2) (ar U one 3 - shA (ar U one) two 3) (ar U one 4 - shA (ar U one) two 4))) := by
  unfold cU
  rw [if_neg (by decide), if_pos rfl]
theorem cU_2 : cU 2 one two three four t p nu U = rw11 (iup (iup U (one * 11 + 3) t) (two * 11 + 3) t) nu (mk (U (hiU U one two * 11 + 0)) (U (hiU U one two * 11 + 1)) t (-1) (U (hiU U one two * 11 + 4) + 1) p (r5 (ar U one 0 + ar U two 0) (ar U one 1 + ar U two 1) (ar U one 2 + ar U two 2) (ar U one 3 + ar U two 3) (ar U one 4 + ar U two 4))) := by
  unfold cU
  rw [if_neg (by decide), if_neg (by decide), if_pos rfl]
theorem cU_3 : cU 3 one two three four t p nu U = rw11 (iup U (one * 11 + 3) t) nu (mk (U (one * 11 + 0)) (U (one * 11 + 1)) t (-1) (U (one * 11 + 4) + 1) p (chA (ar U one) two three four)) := by
  unfold cU
  rw [if_neg (by decide), if_neg (by decide), if_neg (by decide), if_pos rfl]
theorem cU_4 : cU 4 one two three four t p nu U = iup U (one * 11 + 3) t := by
  unfold cU
  rw [if_neg (by decide), if_neg (by decide), if_neg (by decide), if_neg (by decide), if_pos rfl]
theorem cU_5 : cU 5 one two three four t p nu U = U := by
  unfold cU
  rw [if_neg (by decide), if_neg (by decide), if_neg (by decide), if_neg (by decide), if_neg (by decide)]
theorem new_5 (hn : 0 ≤ nu) : tg (nu + 1) 11 (rw11 U nu (mk b f t e g p a)) nu 5 = p := by
  rw [tg_in (by omega), rw_at (by omega)]
  rfl
theorem pK_new (hn : 0 ≤ nu) : pK (nu + 1) (rw11 U nu (mk b f t e g p a)) np P nu = tg np 7 P p 0 := by
  unfold pK
  rw [new_5 hn]
theorem pN_new (hn : 0 ≤ nu) : pN (nu + 1) (rw11 U nu (mk b f t e g p a)) np P nu = if tg np 7 P p 0 = 1 ∨ tg np 7 P p 0 = 3 then 1 else if tg np 7 P p 0 = 2 then 2 else 0 := by
  unfold pN
  rw [pK_new hn]
theorem pA_new (hn : 0 ≤ nu) : pA (nu + 1) (rw11 U nu (mk b f t e g p a)) np P nu i = if tg np 7 P p 0 = 2 then (if i = 0 then (if tg np 7 P p 2 < tg np 7 P p 1 then tg np 7 P p 2 else tg np 7 P p 1) else (if tg np 7 P p 1 < tg np 7 P p 2 then tg np 7 P p 2 else tg np 7 P p 1)) else tg np 7 P p 1 := by
  unfold pA
  rw [pK_new hn, new_5 hn]
theorem MR_floor (R : MR G dy nb B nu U np P) (hn : 0 ≤ nb ∧ nb ≤ 4) (hu : 0 ≤ nu ∧ nu ≤ 60) (hp : 0 ≤ np ∧ np ≤ 40) (hb6 : ∀ b, 0 ≤ tg nb 7 B b 0 ∧ tg nb 7 B b 0 ≤ 6) (hb : 0 ≤ b ∧ b < nb) (h6 : tg nb 7 B b 0 < 6) : MR (iup (iup G (4 + 7 * b + 1 + tg nb 7 B b 0) x) (4 + 7 * b) (tg nb 7 B b 0 + 1)) dy nb (tu nb 7 (tu nb 7 B b 0 (tg nb 7 B b 0 + 1)) b (1 + tg nb 7 B b 0) x) nu U np P := by
  obtain ⟨R0, R1, R2, R3, RB, RUU, RP⟩ := R
  have h0 := (hb6 b).1
  refine ⟨by rw [iup_ne (by omega), iup_ne (by omega)]; exact R0, by rw [iup_ne (by omega), iup_ne (by omega)]; exact R1, by rw [iup_ne (by omega), iup_ne (by omega)]; exact R2, by rw [iup_ne (by omega), iup_ne (by omega)]; exact R3, ?_, fun v j v0 v1 j0 j1 => by rw [iup_ne (by omega), iup_ne (by omega)]; exact RUU v j v0 v1 j0 j1, fun v j v0 v1 j0 j1 => by rw [iup_ne (by omega), iup_ne (by omega)]; exact RP v j v0 v1 j0 j1⟩
  intro c c0 c1
  have q := hb6 c
  by_cases hc : c = b
  · subst hc
    have ef : tg nb 7 (tu nb 7 (tu nb 7 B c 0 (tg nb 7 B c 0 + 1)) c (1 + tg nb 7 B c 0) x) c 0 = tg nb 7 B c 0 + 1 := by
      rw [tg_tu7 (by omega), if_neg (by omega), tg_tu7 (by omega), if_pos ⟨hb, rfl, rfl⟩]
    rw [ef]
    refine ⟨iup_eq, fun f f0 f1 => ?_⟩
    rw [iup_ne (by omega)]
    by_cases cf : f = tg nb 7 B c 0
    · rw [cf, iup_eq, tg_tu7 (by omega), if_pos ⟨hb, rfl, rfl⟩]
    · rw [iup_ne (by omega), tg_tu7 (by omega), if_neg (by omega), tg_tu7 (by omega), if_neg (by omega)]
      exact (RB c c0 c1).2 f f0 (by omega)
  · have ef : ∀ j, 0 ≤ j → j < 7 → tg nb 7 (tu nb 7 (tu nb 7 B b 0 (tg nb 7 B b 0 + 1)) b (1 + tg nb 7 B b 0) x) c j = tg nb 7 B c j := by
      intro j j0 j1
      rw [tg_tu7 (by omega), if_neg (by omega), tg_tu7 (by omega), if_neg (by omega)]
    rw [ef 0 (by omega) (by omega), iup_ne (by omega), iup_ne (by omega)]
    refine ⟨(RB c c0 c1).1, fun f f0 f1 => ?_⟩
    rw [ef (1 + f) (by omega) (by omega), iup_ne (by omega), iup_ne (by omega)]
    exact (RB c c0 c1).2 f f0 f1
end M23
