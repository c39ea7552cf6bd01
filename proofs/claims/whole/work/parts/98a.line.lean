/-! Lines as bits; ancestors. -/
def bt (x : Int64) (n : Int) : Prop := x.toBitVec.getLsbD n.toNat = true
theorem sh63 : ∀ n : Fin 64, (((iI ((n : Nat) : Int)).toInt64 &&& 63).toBitVec.smod 64) = BitVec.ofNat 64 n := by decide +kernel
theorem sh63' {k : Int} (h : 0 ≤ k ∧ k < 64) : (((iI k).toInt64 &&& 63).toBitVec.smod 64).toNat = k.toNat := by
  have a := sh63 ⟨k.toNat, by omega⟩
  have e : ((k.toNat : Nat) : Int) = k := by omega
  dsimp only at a
  rw [e] at a
  rw [a, BitVec.toNat_ofNat]
  omega
theorem tb_bt {x : Int64} {k : Int} (h : 0 ≤ k ∧ k < 64) : tb x k ↔ bt x k := by
  unfold tb bt
  rw [← Int64.toBitVec_inj, Int64.toBitVec_and, Int64.toBitVec_shiftRight, Int64.toBitVec_one, Int64.toBitVec_zero, BitVec.sshiftRight_eq', sh63' h]
  have e : (x.toBitVec.sshiftRight k.toNat).getLsbD 0 = x.toBitVec.getLsbD k.toNat := by
    rw [BitVec.getLsbD_sshiftRight]
    have : k.toNat < 64 := by omega
    simp [this]
  cases hb : x.toBitVec.getLsbD k.toNat with
  | true =>
    rw [hb] at e
    refine ⟨fun _ => rfl, fun _ q => ?_⟩
    have e2 : (x.toBitVec.sshiftRight k.toNat &&& 1#64).getLsbD 0 = (0#64).getLsbD 0 := by rw [q]
    rw [BitVec.getLsbD_and, e] at e2
    exact absurd e2 (by decide)
  | false =>
    rw [hb] at e
    refine ⟨fun q => absurd ?_ q, fun q => absurd q (by decide)⟩
    apply BitVec.eq_of_getLsbD_eq
    intro i hi
    rw [BitVec.getLsbD_and, BitVec.getLsbD_one, BitVec.getLsbD_zero]
    by_cases c : i = 0
    · subst c
      rw [e]
      rfl
    · simp [c]
theorem bt_or {x y : Int64} {n : Int} : bt (x ||| y) n ↔ bt x n ∨ bt y n := by
  unfold bt
  rw [Int64.toBitVec_or, BitVec.getLsbD_or, Bool.or_eq_true]
theorem bt_0 {n : Int} : ¬ bt 0 n := by
  unfold bt
  rw [Int64.toBitVec_zero, BitVec.getLsbD_zero]
  decide
theorem bt_sb {k n : Int} (h : 0 ≤ k ∧ k < 64) (hn : 0 ≤ n) : bt (sb k) n ↔ n = k := by
  unfold bt sb
  rw [Int64.toBitVec_shiftLeft, BitVec.shiftLeft_eq', sh63' h, Int64.toBitVec_one]
  have e : (1#64 <<< k.toNat) = BitVec.twoPow 64 k.toNat := rfl
  rw [e, BitVec.getLsbD_twoPow, Bool.and_eq_true, decide_eq_true_eq, decide_eq_true_eq]
  omega
theorem and0 {x y : Int64} : (x &&& y = 0) ↔ ∀ n : Int, 0 ≤ n → n < 64 → ¬ (bt x n ∧ bt y n) := by
  rw [← Int64.toBitVec_inj, Int64.toBitVec_and, Int64.toBitVec_zero]
  unfold bt
  constructor
  · intro q n h0 h1 c
    have e2 : (x.toBitVec &&& y.toBitVec).getLsbD n.toNat = (0#64).getLsbD n.toNat := by rw [q]
    rw [BitVec.getLsbD_and, c.1, c.2, BitVec.getLsbD_zero] at e2
    exact absurd e2 (by decide)
  · intro q
    apply BitVec.eq_of_getLsbD_eq
    intro i hi
    rw [BitVec.getLsbD_and, BitVec.getLsbD_zero]
    have a := q i (by omega) (by omega)
    rw [Int.toNat_natCast] at a
    cases h1 : x.toBitVec.getLsbD i with
    | false => rfl
    | true =>
      cases h2 : y.toBitVec.getLsbD i with
      | false => rfl
      | true => exact absurd ⟨h1, h2⟩ a
/-- p is a parent of u -/
def pa1 (nu : Int) (U : Int → Int) (np : Int) (P : Int → Int) (u p : Int) : Prop := (0 ≤ u ∧ u < nu) ∧ ((1 ≤ pN nu U np P u ∧ p = pA nu U np P u 0) ∨ (pN nu U np P u = 2 ∧ p = pA nu U np P u 1))
section Lin
variable {nu np : Int} {U P : Int → Int} {u j k i p : Int} {x : Int64}
theorem pN_cases : pN nu U np P u = 0 ∨ pN nu U np P u = 1 ∨ pN nu U np P u = 2 := by
  unfold pN
  split
  · exact Or.inr (Or.inl rfl)
  · split
    · exact Or.inr (Or.inr rfl)
    · exact Or.inl rfl
theorem pa1_lt (H : PH nu U np P) (h : pa1 nu U np P u p) : 0 ≤ p ∧ p < u := by
  obtain ⟨hu, h⟩ := h
  have a := H.1 u hu.1 hu.2
  have b := H.2 u hu.1 hu.2
  rcases h with ⟨h1, rfl⟩ | ⟨h1, rfl⟩
  · exact ⟨a.1, b.1 h1⟩
  · exact ⟨a.2, b.2 h1⟩
theorem pB_bt (H : PH nu U np P) (hn : nu ≤ 60) (hu : 0 ≤ u ∧ u < nu) : (pB nu U np P u &&& x = 0) ↔ ∀ p, pa1 nu U np P u p → ¬ bt x p := by
  have e : ∀ n, 0 ≤ n → (bt (pB nu U np P u) n ↔ pa1 nu U np P u n) := by
    intro n h0
    unfold pB pa1
    have a := H.1 u hu.1 hu.2
    have b := H.2 u hu.1 hu.2
    rcases pN_cases (nu := nu) (U := U) (np := np) (P := P) (u := u) with c | c | c
    · rw [if_pos c, c]
      exact ⟨fun q => absurd q bt_0, fun q => by omega⟩
    · have b1 := b.1 (by omega)
      rw [if_neg (by omega), if_pos c, bt_or, bt_sb (by omega) h0, c]
      exact ⟨fun q => ⟨hu, Or.inl ⟨by omega, q.resolve_left bt_0⟩⟩, fun q => Or.inr (by omega)⟩
    · have b1 := b.1 (by omega)
      have b2 := b.2 (by omega)
      rw [if_neg (by omega), if_neg (by omega), bt_or, bt_or, bt_sb (by omega) h0, bt_sb (by omega) h0, c]
      constructor
      · rintro ((q | q) | q)
        · exact absurd q bt_0
        · exact ⟨hu, Or.inl ⟨by omega, q⟩⟩
        · exact ⟨hu, Or.inr ⟨rfl, q⟩⟩
      · rintro ⟨_, q | q⟩
        · exact Or.inl (Or.inr q.2)
        · exact Or.inr q.2
  rw [and0]
  constructor
  · intro q p hp c
    have a := pa1_lt H hp
    exact q p a.1 (by omega) ⟨(e p a.1).2 hp, c⟩
  · intro q n h0 h1 c
    exact q n ((e n h0).1 c.1) c.2
/-- the bits below i are those of the line of u -/
def lnI (nu : Int) (U : Int → Int) (np : Int) (P : Int → Int) (u i : Int) (x : Int64) : Prop := ∀ n, 0 ≤ n → n < 64 → (bt x n ↔ n < i ∧ (n = u ∨ (u < n ∧ ∃ p, pa1 nu U np P n p ∧ bt x p)))
theorem lnk_I (H : PH nu U np P) (hn : nu ≤ 60) (hu : 0 ≤ u) : ∀ (k : Nat) (i : Int) (x : Int64), u < i → i + k = nu → lnI nu U np P u i x → lnI nu U np P u nu (lnk nu U np P k i x)
  | 0, i, x, _, h1, h => by
    have : i = nu := by omega
    subst this
    exact h
  | k + 1, i, x, h0, h1, h => by
    unfold lnk
    refine lnk_I H hn hu k (i + 1) _ (by omega) (by omega) ?_
    have hi : 0 ≤ i ∧ i < nu := by omega
    by_cases c : pB nu U np P i &&& x = 0
    · rw [if_pos c]
      rw [pB_bt H hn hi] at c
      intro n n0 n1
      rw [h n n0 n1]
      constructor
      · rintro ⟨a, b⟩
        exact ⟨by omega, b⟩
      · rintro ⟨a, b⟩
        refine ⟨?_, b⟩
        by_cases e : n = i
        · subst e
          rcases b with b | ⟨b, p, hp, hx⟩
          · omega
          · exact absurd hx (c p hp)
        · omega
    · rw [if_neg c]
      rw [pB_bt H hn hi] at c
      intro n n0 n1
      rw [bt_or, bt_sb (by omega) n0, h n n0 n1]
      constructor
      · rintro (⟨a, b⟩ | e)
        · refine ⟨by omega, ?_⟩
          rcases b with b | ⟨b, p, hp, hx⟩
          · exact Or.inl b
          · exact Or.inr ⟨b, p, hp, bt_or.2 (Or.inl hx)⟩
        · subst e
          refine ⟨by omega, Or.inr ⟨h0, ?_⟩⟩
          obtain ⟨p, hp⟩ := Classical.not_forall.1 c
          have hp1 : pa1 nu U np P n p := Classical.byContradiction fun q => hp fun z => absurd z q
          have hp2 : bt x p := Classical.byContradiction fun q => hp fun _ => q
          exact ⟨p, hp1, bt_or.2 (Or.inl hp2)⟩
      · rintro ⟨a, b⟩
        by_cases e : n = i
        · exact Or.inr e
        · refine Or.inl ⟨by omega, ?_⟩
          rcases b with b | ⟨b, p, hp, hx⟩
          · exact Or.inl b
          · refine Or.inr ⟨b, p, hp, ?_⟩
            have q := pa1_lt H hp
            rcases bt_or.1 hx with z | z
            · exact z
            · rw [bt_sb (by omega) q.1] at z
              omega
theorem lnE_I (H : PH nu U np P) (hn : nu ≤ 60) (hu : 0 ≤ u ∧ u < nu) : lnI nu U np P u nu (lnE nu U np P u) := by
  unfold lnE
  refine lnk_I H hn hu.1 _ (u + 1) _ (by omega) (by omega) ?_
  intro n n0 n1
  rw [bt_sb (by omega) n0]
  constructor
  · intro e
    exact ⟨by omega, Or.inl e⟩
  · rintro ⟨a, b | b⟩
    · exact b
    · omega
/-- v is an ancestor of u -/
def anc (nu : Int) (U : Int → Int) (np : Int) (P : Int → Int) (u v : Int) : Prop := ∀ S : Int → Prop, (∀ w, (w = u ∨ S w) → ∀ p, pa1 nu U np P w p → S p) → S v
theorem anc_lt (H : PH nu U np P) (h : anc nu U np P u j) : j < u := by
  refine h (fun w => w < u) ?_
  intro w hw p hp
  have := pa1_lt H hp
  rcases hw with rfl | hw
  · exact this.2
  · exact Int.lt_trans this.2 hw
theorem lnE_anc (H : PH nu U np P) (hn : nu ≤ 60) (hu : 0 ≤ u ∧ u < nu) : ∀ (m : Nat) (k : Int), k.toNat < m → 0 ≤ k → k < nu → bt (lnE nu U np P u) k → k = u ∨ anc nu U np P k u
  | 0, k, h, _, _, _ => by omega
  | m + 1, k, h, h0, h1, hb => by
    have L := lnE_I H hn hu
    rcases ((L k h0 (by omega)).1 hb).2 with e | ⟨e, p, hp, hx⟩
    · exact Or.inl e
    · right
      have q := pa1_lt H hp
      intro S hS
      have sp : S p := hS k (Or.inl rfl) p hp
      rcases lnE_anc H hn hu m p (by omega) q.1 (by omega) hx with e2 | e2
      · rw [← e2]; exact sp
      · refine e2 S ?_
        intro w hw p2 hp2
        rcases hw with rfl | hw
        · exact hS w (Or.inr sp) p2 hp2
        · exact hS w (Or.inr hw) p2 hp2
theorem anc_lnE (H : PH nu U np P) (hn : nu ≤ 60) (hu : 0 ≤ u ∧ u < nu) (hk : 0 ≤ k ∧ k < nu) (h : anc nu U np P k u) : bt (lnE nu U np P u) k := by
  have L := lnE_I H hn hu
  have L0 : bt (lnE nu U np P u) u := (L u hu.1 (by omega)).2 ⟨hu.2, Or.inl rfl⟩
  refine Classical.byContradiction fun q => ?_
  refine h (fun w => ¬ bt (lnE nu U np P u) w) ?_ L0
  intro w hw p hp c
  have hw2 : ¬ bt (lnE nu U np P u) w := by
    rcases hw with rfl | hw
    · exact q
    · exact hw
  have a := pa1_lt H hp
  have ww := hp.1
  have e := (L p a.1 (by omega)).1 c
  apply hw2
  refine (L w ww.1 (by omega)).2 ⟨ww.2, ?_⟩
  rcases e.2 with e2 | e2
  · exact Or.inr ⟨by omega, p, hp, c⟩
  · exact Or.inr ⟨by omega, p, hp, c⟩
/-- marking parents downwards: what is marked is an ancestor, and at the end it is closed -/
theorem fbk_sound {S : Int → Prop} (hn : nu ≤ 60) (hu : 0 ≤ u ∧ u < nu) (hS : ∀ w, (w = u ∨ S w) → ∀ p, pa1 nu U np P w p → S p) : ∀ (k : Nat) (a : Int → Int), (k : Int) ≤ nu → (∀ v, a v = 1 → S v) → ∀ v, fbk nu U np P u k a v = 1 → S v
  | 0, a, _, h => h
  | k + 1, a, hk, h => by
    unfold fbk
    refine fbk_sound hn hu hS k _ (by omega) ?_
    intro v
    split
    · next c =>
      have sk : (k : Int) = u ∨ S k := c.imp id (h k)
      split
      · exact h v
      · next c0 =>
        split
        · next c1 =>
          intro q
          unfold iup at q
          split at q
          · next e => rw [e]; exact hS k sk _ ⟨by omega, Or.inl ⟨by omega, rfl⟩⟩
          · exact h v q
        · next c1 =>
          have c2 : pN nu U np P k = 2 := by
            rcases pN_cases (nu := nu) (U := U) (np := np) (P := P) (u := (k : Int)) with z | z | z
            · exact absurd z c0
            · exact absurd z c1
            · exact z
          intro q
          unfold iup at q
          split at q
          · next e => rw [e]; exact hS k sk _ ⟨by omega, Or.inr ⟨c2, rfl⟩⟩
          · split at q
            · next e => rw [e]; exact hS k sk _ ⟨by omega, Or.inl ⟨by omega, rfl⟩⟩
            · exact h v q
    · exact h v
theorem iup_keep {a : Int → Int} {z v : Int} (h : a v = 1) : iup a z 1 v = 1 := by
  unfold iup
  split
  · rfl
  · exact h
theorem fbk_keep : ∀ (k : Nat) (a : Int → Int) (v : Int), a v = 1 → fbk nu U np P u k a v = 1
  | 0, a, v, h => h
  | k + 1, a, v, h => by
    unfold fbk
    refine fbk_keep k _ v ?_
    split
    · split
      · exact h
      · split
        · exact iup_keep h
        · exact iup_keep (iup_keep h)
    · exact h
theorem fbk_closed (H : PH nu U np P) (hn : nu ≤ 60) (hu : 0 ≤ u ∧ u < nu) : ∀ (k : Nat) (a : Int → Int), (k : Int) ≤ nu → u < nu → (∀ w, (k : Int) ≤ w → (w = u ∨ a w = 1) → ∀ p, pa1 nu U np P w p → a p = 1) → ∀ w, (w = u ∨ fbk nu U np P u k a w = 1) → ∀ p, pa1 nu U np P w p → fbk nu U np P u k a p = 1
  | 0, a, _, _, h => fun w hw p hp => h w hp.1.1 hw p hp
  | k + 1, a, hk, hun, h => by
    unfold fbk
    refine fbk_closed H hn hu k _ (by omega) hun ?_
    intro w hw hc p hp
    have q := pa1_lt H hp
    by_cases e : w = k
    · subst e
      -- the marks of k itself are not changed by its parents
      have keep : ∀ z, (if (k : Int) = u ∨ a k = 1 then (if pN nu U np P k = 0 then a else if pN nu U np P k = 1 then iup a (pA nu U np P k 0) 1 else iup (iup a (pA nu U np P k 0) 1) (pA nu U np P k 1) 1) else a) z = a z ∨ z < k := by
        intro z
        have b := H.2 k hp.1.1 hp.1.2
        split
        · split
          · exact Or.inl rfl
          · next c0 =>
            have b1 : pA nu U np P k 0 < k := b.1 (by
              rcases pN_cases (nu := nu) (U := U) (np := np) (P := P) (u := (k : Int)) with z | z | z
              · exact absurd z c0
              · omega
              · omega)
            split
            · unfold iup
              split
              · right; omega
              · exact Or.inl rfl
            · next c1 =>
              have b2 : pA nu U np P k 1 < k := b.2 (by
                rcases pN_cases (nu := nu) (U := U) (np := np) (P := P) (u := (k : Int)) with z | z | z
                · exact absurd z c0
                · exact absurd z c1
                · exact z)
              unfold iup
              split
              · right; omega
              · split
                · right; omega
                · exact Or.inl rfl
        · exact Or.inl rfl
      have hc2 : (k : Int) = u ∨ a k = 1 := by
        rcases hc with hc | hc
        · exact Or.inl hc
        · rcases keep k with z | z
          · rw [z] at hc; exact Or.inr hc
          · omega
      rw [if_pos hc2]
      rcases hp.2 with ⟨p1, e1⟩ | ⟨p1, e1⟩
      · rw [if_neg (by omega)]
        split
        · unfold iup
          rw [if_pos e1]
        · refine iup_keep ?_
          unfold iup
          rw [if_pos e1]
      · rw [if_neg (by omega), if_neg (by omega)]
        unfold iup
        rw [if_pos e1]
    · -- marks of higher units came before
      have hw1 : w = u ∨ a w = 1 := by
        rcases hc with hc | hc
        · exact Or.inl hc
        · right
          have b := H.2 k
          split at hc
          · split at hc
            · exact hc
            · next c0 =>
              have b1 : pA nu U np P k 0 < k := (b (by omega) (by omega)).1 (by
                rcases pN_cases (nu := nu) (U := U) (np := np) (P := P) (u := (k : Int)) with z | z | z
                · exact absurd z c0
                · omega
                · omega)
              split at hc
              · rw [iup_ne (by omega)] at hc
                exact hc
              · next c1 =>
                have b2 : pA nu U np P k 1 < k := (b (by omega) (by omega)).2 (by
                  rcases pN_cases (nu := nu) (U := U) (np := np) (P := P) (u := (k : Int)) with z | z | z
                  · exact absurd z c0
                  · exact absurd z c1
                  · exact z)
                rw [iup_ne (by omega), iup_ne (by omega)] at hc
                exact hc
          · exact hc
      have ap := h w (by omega) hw1 p hp
      split
      · split
        · exact ap
        · split
          · exact iup_keep ap
          · exact iup_keep (iup_keep ap)
      · exact ap
theorem fab_anc (H : PH nu U np P) (hn : nu ≤ 60) (hu : 0 ≤ u ∧ u < nu) : fab nu U np P u j = 1 ↔ anc nu U np P u j := by
  unfold fab
  constructor
  · intro q S hS
    exact fbk_sound hn hu hS _ _ (by omega) (fun v z => absurd z (by decide)) j q
  · intro q
    refine q (fun w => fbk nu U np P u (u + 1).toNat (fun _ => 0) w = 1) ?_
    refine fbk_closed H hn hu _ _ (by omega) hu.2 ?_
    intro w hw hc p hp
    rcases hc with hc | hc
    · omega
    · exact absurd hc (by decide)
theorem line_fab (H : PH nu U np P) (hn : nu ≤ 60) (hu : 0 ≤ u ∧ u < nu) (hj : 0 ≤ j ∧ j < nu) : (¬ u = j ∧ tb (lnE nu U np P u) j) = (fab nu U np P j u = 1) := by
  apply propext
  rw [fab_anc H hn hj, tb_bt (by omega)]
  constructor
  · rintro ⟨a, b⟩
    rcases lnE_anc H hn hu _ j (Nat.lt_succ_self _) hj.1 hj.2 b with e | e
    · exact absurd e.symm a
    · exact e
  · intro a
    have := anc_lt H a
    exact ⟨by omega, anc_lnE H hn hu hj a⟩
theorem nth_congr {p q : Int → Prop} {x : Int} : ∀ (k : Nat) (i c : Int), (∀ v, i ≤ v → v < i + k → (p v ↔ q v)) → nth p x k i c = nth q x k i c
  | 0, _, _, _ => rfl
  | k + 1, i, c, h => by
    unfold nth
    rw [nth_congr k (i + 1) (c + 1) (fun v a b => h v (by omega) (by omega)), nth_congr k (i + 1) c (fun v a b => h v (by omega) (by omega)), propext (h i (by omega) (by omega))]
theorem nth_succ {p : Int → Prop} {x : Int} {k : Nat} {i c : Int} : nth p x (k + 1) i c = zI (p i) (if c = x then i else nth p x k (i + 1) (c + 1)) (nth p x k (i + 1) c) := rfl
theorem nth_skip {p : Int → Prop} {x : Int} : ∀ (m k : Nat) (i c : Int), (∀ v, i ≤ v → v < i + m → ¬ p v) → nth p x (m + k) i c = nth p x k (i + m) c
  | 0, k, i, c, _ => by
    rw [Nat.zero_add]
    show nth p x k i c = nth p x k (i + ((0 : Nat) : Int)) c
    rw [show i + ((0 : Nat) : Int) = i by omega]
  | m + 1, k, i, c, h => by
    rw [show m + 1 + k = (m + k) + 1 by omega, nth_succ, zI_f (h i (by omega) (by omega)), nth_skip m k (i + 1) c (fun v a b => h v (by omega) (by omega))]
    rw [show i + 1 + (m : Int) = i + ((m + 1 : Nat) : Int) by omega]
theorem heir_eq (H : PH nu U np P) (hn : nu ≤ 60) (hu : 0 ≤ u ∧ u < nu) : nth (hrM nu U np P u) j nu.toNat 0 0 = nth (hrP nu U np P u) j (nu - u).toNat u 0 := by
  have e := nth_skip (p := hrM nu U np P u) (x := j) u.toNat (nu - u).toNat 0 0 (by
    intro v a b c
    obtain ⟨⟨c1, c2⟩, c3⟩ := c
    rcases c3 with c3 | c3
    · omega
    · have := anc_lt H ((fab_anc H hn c1).1 c3)
      omega)
  rw [show u.toNat + (nu - u).toNat = nu.toNat by omega, show (0 : Int) + (u.toNat : Int) = u by omega] at e
  rw [e]
  refine nth_congr _ _ _ ?_
  intro v a b
  have hv : 0 ≤ v ∧ v < nu := by omega
  unfold hrM hrP
  constructor
  · rintro ⟨c1, c2⟩
    refine ⟨c1, ?_⟩
    rcases c2 with c2 | c2
    · subst c2
      rw [tb_bt (by omega)]
      exact (lnE_I H hn hu v hu.1 (by omega)).2 ⟨hu.2, Or.inl rfl⟩
    · rw [← line_fab H hn hu hv] at c2
      exact c2.2
  · rintro ⟨c1, c2⟩
    refine ⟨c1, ?_⟩
    by_cases e : v = u
    · exact Or.inl e
    · right
      rw [← line_fab H hn hu hv]
      exact ⟨fun z => e z.symm, c2⟩
end Lin
