theorem xback_spec {M M' : XM} {pc : Nat} {L rest : List Value} {o1 o : XO} {h1 h2 : XH} {go : Nat → List Value → List Value → XH → Option (XO × XH)} (q : xback M M' pc L rest o1 h1 go = some (o, h2)) :
    (∃ v, o1 = .inl v ∧ go (pc + 3) L (v.toList ++ rest) h1 = some (o, h2)) ∨
    (∃ E, o1 = .inr E ∧ (xm_y M').name ≠ "<init>" ∧ ((xm_hh M = [] ∧ xm_own M < 11 ∧ o = .inr E ∧ h2 = h1) ∨
      (∃ a k, xhandler M pc E (xm_hh M) = some (a, k) ∧ k < L.length ∧ go a (xsto1 L k xjunk) [] h1 = some (o, h2)))) := by
  unfold xback at q
  split at q
  · next v => exact Or.inl ⟨v, rfl, q⟩
  · next E =>
    refine Or.inr ⟨E, rfl, ?_⟩
    cases hi : ((xm_y M').name == "<init>") with
    | true => rw [hi] at q; cases q
    | false =>
      rw [hi] at q
      dsimp only [cond_false] at q
      refine ⟨by simpa using hi, ?_⟩
      cases hc : (xm_hh M).isEmpty with
      | true =>
        rw [hc] at q
        cases ho : Nat.blt (xm_own M) 11 with
        | true => rw [ho] at q; cases q; exact Or.inl ⟨List.isEmpty_iff.mp hc, Nat.le_of_ble_eq_true ho, rfl, rfl⟩
        | false => rw [ho] at q; cases q
      | false =>
        rw [hc] at q
        dsimp only [cond_false] at q
        split at q
        · next a k hh =>
          split at q
          · next hk => exact Or.inr ⟨a, k, hh, hk, q⟩
          · cases q
        · cases q
set_option maxHeartbeats 2000000 in
theorem body_run {l : Launch} (hl : l.stackTraces = false) : ∀ f, BR l f := by
  intro f
  induction f with
  | zero => intro d M pc L S h o h2 q; cases q
  | succ f ih =>
    intro d M pc L S h o h2 q p e R s m args below meth c Q A D aC sp sc c0 k0 ws ls st H locs cells slots C B htbl hfr hlo hrc hrk X hend
    unfold ex at q
    split at q
    · cases q
    · next i n hf =>
      split at q
      · cases q
      · next pc' L' S' h' hx =>
        have hg := ex_ge _ _ _ _ _ _ _ _ _ q
        refine st_next C hf hx X ⟨Nat.le_trans hg.1 hrc, Nat.le_trans hg.2.1 hrk⟩ ?_
        intro ls' st' H' locs' cells' slots' ws' hE X'
        exact ih d M pc' L' S' h' o h2 q p e R s m args below meth c Q A D aC sp sc c0 k0 ws' ls' st' H' locs' cells' slots' C B htbl hfr hlo hrc hrk X' (hend.mono hE)
      · next v h' hx => cases q; exact hend.1 pc i n L S h v ls st H locs cells slots ws rfl Ext.rf hf hx X
      · next E h' hx => cases q; exact hend.2.1 pc i n L S h E ls st H locs cells slots ws rfl Ext.rf hf hx X
      · next M' As rest h' hx =>
        obtain ⟨he, hc⟩ := call_spec hx
        subst he
        obtain ⟨hm, hn⟩ := xfetch_spec hf
        have hd := dec_of C.2.2.2.2.2.2.2.2.1 hf
        have hn3 : n = 3 := by
          obtain ⟨_, _, _, _, idx, _, _, hk⟩ := hc
          rcases hk with ⟨rfl, _⟩ | ⟨_, _, _, rfl, _⟩ | ⟨_, _, rfl, _⟩ <;> exact n_of hn rfl (by decide)
        subst hn3
        split at q
        · cases q
        · next d' =>
          split at q
          · cases q
          · next o1 h1 hq =>
            have hg1 := ex_ge _ _ _ _ _ _ _ _ _ hq
            have hb := xback_spec q
            have hg2 : Ge h1 h2 := by
              rcases hb with ⟨v, _, hb⟩ | ⟨E, _, _, ⟨_, _, _, rfl⟩ | ⟨a, k, _, _, hb⟩⟩
              · exact ex_ge _ _ _ _ _ _ _ _ _ hb
              · exact ge_rf
              · exact ex_ge _ _ _ _ _ _ _ _ _ hb
            have hM := met_of hl ih hc.1 hc.2.2.2.2.1 hq hc.2.1 hc.2.2.1
            refine st_call C B hc hd X hM hg1 ?_ (by omega) (by omega) (Nat.le_trans hg2.1 hrc) (Nat.le_trans hg2.2.1 hrk) ?_ ?_
            · intro hi
              rcases hb with ⟨v, rfl, _⟩ | ⟨E, _, hni, _⟩
              · exact ⟨v, rfl⟩
              · exact absurd hi hni
            · intro v st1 ws' H1 locs1 cells1 slots1 ho hE X'
              rcases hb with ⟨v', e1, hb⟩ | ⟨E, e1, _⟩
              · rw [ho] at e1
                cases e1
                exact ih (d' + 1) M (pc + 3) L _ h1 o h2 hb p e R s m args below meth c Q A D aC sp sc c0 k0 ws' ls st1 H1 locs1 cells1 slots1 C B htbl hfr hlo hrc hrk X' (hend.mono hE)
              · rw [ho] at e1; cases e1
            · intro E st1 ws' H1 locs1 cells1 slots1 ce q9 ho hE X' hce hcv hcl
              rcases hb with ⟨v', e1, hb⟩ | ⟨E', e1, hni, ⟨hh, hlt, rfl, rfl⟩ | ⟨a, k, hhd, hk, hb⟩⟩
              · rw [ho] at e1; cases e1
              · rw [ho] at e1
                cases e1
                exact hend.2.2 pc L rest E ls st1 H1 locs1 cells1 slots1 ws' ce q9 rfl hh hlt hE X' hce hcv hcl
              · rw [ho] at e1
                cases e1
                obtain ⟨pre, x, suf, e2, hpre, hcov, hF, hfe⟩ := xhandler_spec hhd
                have hown := C.2.2.2.1
                have hts := C.2.2.2.2.1
                obtain ⟨hmem, hk1, hk2⟩ := xlk_mem hF
                obtain ⟨w1, w2⟩ := hT_ok _ hmem
                obtain ⟨l1, l2⟩ := hT_lt _ hmem
                dsimp only at w1 w2 l1 l2
                rw [hk1, hk2] at w1
                rw [hk2] at l2
                have hsplit : c.exceptionTable.toList = tableOf pre ++ ⟨x.1, x.2.1, x.2.2.1, x.2.2.2⟩ :: tableOf suf := by
                  rw [htbl, e2]
                  unfold tableOf
                  rw [List.map_append, List.map_cons]
                refine vx_catch (name := EN E) hown (tableOf pre) ⟨x.1, x.2.1, x.2.2.1, x.2.2.2⟩ (tableOf suf) hsplit ?_ ?_ l2 (hts _ w1.inT) (hts _ w2.inT) hce hcv hcl ?_
                · intro z hz
                  obtain ⟨z0, hz0, rfl⟩ := List.mem_map.mp hz
                  rcases hpre z0 hz0 with h9 | ⟨F, h9, hne⟩
                  · left
                    simp only [covers, Bool.and_eq_false_iff, decide_eq_false_iff_not]
                    by_cases h8 : z0.1 ≤ pc
                    · exact Or.inr (fun h7 => h9 ⟨h8, h7⟩)
                    · exact Or.inl h8
                  · right
                    obtain ⟨hmem', hk1', hk2'⟩ := xlk_mem h9
                    obtain ⟨w1', _⟩ := hT_ok _ hmem'
                    obtain ⟨l1', l2'⟩ := hT_lt _ hmem'
                    dsimp only at w1' l1' l2'
                    rw [hk1', hk2'] at w1'
                    rw [hk2'] at l2'
                    exact ⟨l2', EN F, hts _ w1'.inT, B.2.2.2.1 E F l1 l1' hne⟩
                · simp only [covers, Bool.and_eq_true, decide_eq_true_eq]
                  exact hcov
                · have hdec := C.2.2.2.2.2.2.2.2.1
                  have hkl : k < xm_maxL M := by rw [← X'.1.2.1]; exact hk
                  rcases hfe with ⟨k4, rfl, hfe, rfl⟩ | ⟨hfe, rfl⟩
                  · refine lv_astore_n C.1 C.2.1 (dec_of hdec hfe) rfl (lvAll_has X'.1.1 X'.1.2.2.1) hkl rfl fun ls' hl' => ?_
                    exact ih (d' + 1) M _ _ [] h1 o h2 hb p e R s m args below meth c Q A D aC sp sc c0 k0 ws' ls' [] H1 locs1 cells1 slots1 C B htbl hfr hlo hrc hrk ⟨X'.1.sto1 (Or.inr ⟨0, rfl⟩) hl', rfl, X'.2.2⟩ (hend.mono hE)
                  · refine lv_astore C.1 C.2.1 (dec_of hdec hfe) (lvAll_has X'.1.1 X'.1.2.2.1) hkl rfl fun ls' hl' => ?_
                    exact ih (d' + 1) M _ _ [] h1 o h2 hb p e R s m args below meth c Q A D aC sp sc c0 k0 ws' ls' [] H1 locs1 cells1 slots1 C B htbl hfr hlo hrc hrk ⟨X'.1.sto1 (Or.inr ⟨0, rfl⟩) hl', rfl, X'.2.2⟩ (hend.mono hE)
