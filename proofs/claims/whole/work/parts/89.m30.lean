set_option maxRecDepth 20000
theorem kO_inv {s : Int} : kO s = -1 ∨ (kO s = 0 ∧ s = 117) ∨ (kO s = 1 ∧ s = 115) ∨ (kO s = 2 ∧ s = 106) ∨ (kO s = 3 ∧ s = 99) ∨ (kO s = 4 ∧ s = 101) ∨ (kO s = 5 ∧ s = 102) := by
  unfold kO
  by_cases c0 : s = 117
  · rw [if_pos c0]; omega
  · rw [if_neg c0]
    by_cases c1 : s = 115
    · rw [if_pos c1]; omega
    · rw [if_neg c1]
      by_cases c2 : s = 106
      · rw [if_pos c2]; omega
      · rw [if_neg c2]
        by_cases c3 : s = 99
        · rw [if_pos c3]; omega
        · rw [if_neg c3]
          by_cases c4 : s = 101
          · rw [if_pos c4]; omega
          · rw [if_neg c4]
            by_cases c5 : s = 102
            · rw [if_pos c5]; omega
            · rw [if_neg c5]; omega
theorem tg_tu5r {c n : Int} {U : Int → Int} {i j x i' j' : Int} (h : i' < i ∨ i < i') (hj : 0 ≤ j' ∧ j' < 5) (hi : 0 ≤ i' ∧ i' < n) : tg n 5 (tu c 5 U i j x) i' j' = tg n 5 U i' j' := by
  rw [tg_in (by omega), tg_in (by omega)]
  unfold tu
  split
  · exact iup_ne (by omega)
  · rfl
/-- the other rows stay -/
theorem rFk_row {ln : Int} {ch : Int → Int} {rq row n i j : Int} (h : i < row ∨ row < i) (hj : 0 ≤ j ∧ j < 5) (hi : 0 ≤ i ∧ i < n) : ∀ (cs : List Int) (ps col : Int) (V : Int → Int), tg n 5 (rFk ln ch rq row cs ps col V).2.2 i j = tg n 5 V i j
  | [], ps, col, V => rfl
  | c :: cs, ps, col, V => by
    rw [rFk_cons]
    split
    · rfl
    · split
      · rw [rFk_row h hj hi cs, tg_tu5r h hj hi]
      · rw [rFk_row h hj hi cs]
theorem zr_row {n rq i j : Int} {V : Int → Int} (h : i < rq) (hj : 0 ≤ j ∧ j < 5) (hi : 0 ≤ i ∧ i < n) : tg n 5 (zr 5 rq V) i j = tg n 5 V i j := by
  rw [tg_in (by omega), tg_in (by omega)]
  unfold zr
  exact if_neg (by omega)
theorem rAk_row {ln : Int} {ch : Int → Int} {ap n i j : Int} (hj : 0 ≤ j ∧ j < 5) (hi : 0 ≤ i ∧ i < n) : ∀ (k : Nat) (ps rq : Int) (V : Int → Int), i < rq → tg n 5 (rAk ln ch ap k ps rq V).2.2.2 i j = tg n 5 V i j
  | 0, ps, rq, V, _ => rfl
  | k + 1, ps, rq, V, h => by
    obtain ⟨kd, hkd⟩ : ∃ kd, kd = if ap = 0 then 6 else kO (sgn ln ch ps) := ⟨_, rfl⟩
    obtain ⟨r, hr⟩ : ∃ r, r = rFk ln ch (rq + 1) rq (frm (fk kd)) ps 1 (tu (rq + 1) 5 (zr 5 rq V) rq 0 kd) := ⟨_, rfl⟩
    rw [rAk_succ hkd hr]
    have e : tg n 5 r.2.2 i j = tg n 5 V i j := by
      rw [hr, rFk_row (Or.inl h) hj hi, tg_tu5r (Or.inl h) hj hi, zr_row h hj hi]
    split
    · rfl
    · split
      · exact e
      · split
        · exact e
        · split
          · rw [rAk_row hj hi k _ _ _ (by omega), e]
          · exact e
theorem rAk_le {ln : Int} {ch : Int → Int} {ap : Int} : ∀ (k : Nat) (ps rq : Int) (V : Int → Int), rq ≤ (rAk ln ch ap k ps rq V).2.2.1
  | 0, ps, rq, V => Int.le_refl _
  | k + 1, ps, rq, V => by
    obtain ⟨kd, hkd⟩ : ∃ kd, kd = if ap = 0 then 6 else kO (sgn ln ch ps) := ⟨_, rfl⟩
    obtain ⟨r, hr⟩ : ∃ r, r = rFk ln ch (rq + 1) rq (frm (fk kd)) ps 1 (tu (rq + 1) 5 (zr 5 rq V) rq 0 kd) := ⟨_, rfl⟩
    rw [rAk_succ hkd hr]
    have ih := rAk_le (ln := ln) (ch := ch) (ap := ap) k (r.2.1 + 1) (rq + 1) r.2.2
    split
    · exact Int.le_refl _
    · split
      · show rq ≤ rq + 1; omega
      · split
        · show rq ≤ rq + 1; omega
        · split
          · omega
          · show rq ≤ rq + 1; omega
section M30
variable {d : Nat} {h : XH} {G A : Int → Int} {pm : Int} {S : Int → Int} {iv : Int32} {tw ke er : Int} {I : Int → Int} {ty : Int} {ab pt rm : Int → Int} {en aa : Int} {iw : Int32} {kd n1 n2 n3 n4 : Int} {gd : Int32} {Q : XO → XH → Prop} {dy nb nu np nf : Int} {B U P F : Int → Int} {b f u p i j x y z t k : Int}
variable {rq : Int} {V : Int → Int} {kk : Int}
theorem m_rd (hI : ∀ k, 0 ≤ I k ∧ I k < 65536) (he : 0 ≤ en ∧ en ≤ 60) (ha : 0 ≤ aa ∧ aa ≤ en) (hr : 0 ≤ rq) (hk : kk = kO (sgn en I aa)) (hn : ¬ kk = -1) : ∃ w a b c e : Int, rdO (rFk en I (rq + 1) rq (frm (fk kk)) aa 1 (tu (rq + 1) 5 (zr 5 rq V) rq 0 kk)) rq w a b c e ∧ ∀ {d : Nat} {Q : XO → XH → Prop}, Call (d + 4) m_X8_readsApplication [.ref 109] (wm h G A pm S iv tw ke er I ty ab pt rm en aa (iI 0) kd n1 n2 n3 n4 gd) Q = Q (.inl none) (wm h G A pm S iv tw ke er I ty ab pt rm en ((rFk en I (rq + 1) rq (frm (fk kk)) aa 1 (tu (rq + 1) 5 (zr 5 rq V) rq 0 kk)).2.1) (iI w) kk a b c e gd) := by
  rcases kO_inv (s := sgn en I aa) with q | ⟨q, s⟩ | ⟨q, s⟩ | ⟨q, s⟩ | ⟨q, s⟩ | ⟨q, s⟩ | ⟨q, s⟩
  · exact absurd (hk.trans q) hn
  · rw [hk, q]; exact m_rd_0 hI he ha hr s
  · rw [hk, q]; exact m_rd_1 hI he ha hr s
  · rw [hk, q]; exact m_rd_2 hI he ha hr s
  · rw [hk, q]; exact m_rd_3 hI he ha hr s
  · rw [hk, q]; exact m_rd_4 hI he ha hr s
  · rw [hk, q]; exact m_rd_5 hI he ha hr s
end M30
