set_option maxRecDepth 20000
/-! Copies of Records; carrying out again. -/
theorem xh_ext {h h' : XH} (h1 : ∀ q, hget h q = hget h' q) (h2 : h.2 = h'.2) : h = h' := Prod.ext (funext h1) h2
theorem wr_wr {h : XH} {r : Nat} {dy nb nu np nf : Int} {B U P F : Int → Int} {dy' nb' nu' np' nf' : Int} {B' U' P' F' : Int → Int} : wr (wr h r dy nb B nu U np P nf F) r dy' nb' B' nu' U' np' P' nf' F' = wr h r dy' nb' B' nu' U' np' P' nf' F' := by
  refine xh_ext (fun q => ?_) rfl
  by_cases hq : q < r ∨ r + 9 ≤ q
  · rw [hw_n hq, hw_n hq, hw_n hq]
  · rcases (show q = r ∨ q = r + 1 ∨ q = r + 2 ∨ q = r + 3 ∨ q = r + 4 ∨ q = r + 5 ∨ q = r + 6 ∨ q = r + 7 ∨ q = r + 8 by omega) with z | z | z | z | z | z | z | z | z <;> subst z <;> (first | rw [hw_0, hw_0] | rw [hw_1, hw_1] | rw [hw_2, hw_2] | rw [hw_3, hw_3] | rw [hw_4, hw_4] | rw [hw_5, hw_5] | rw [hw_6, hw_6] | rw [hw_7, hw_7] | rw [hw_8, hw_8])
/-- the Records at r hold these numbers -/
def RA (h : XH) (r : Nat) (dy nb : Int) (B : Int → Int) (nu : Int) (U : Int → Int) (np : Int) (P : Int → Int) (nf : Int) (F : Int → Int) : Prop := wr h r dy nb B nu U np P nf F = h
theorem wr_comm {h : XH} {r o : Nat} {dy nb nu np nf : Int} {B U P F : Int → Int} {dy' nb' nu' np' nf' : Int} {B' U' P' F' : Int → Int} (ho : o + 9 ≤ r ∨ r + 9 ≤ o) : wr (wr h r dy nb B nu U np P nf F) o dy' nb' B' nu' U' np' P' nf' F' = wr (wr h o dy' nb' B' nu' U' np' P' nf' F') r dy nb B nu U np P nf F := by
  refine xh_ext (fun q => ?_) rfl
  by_cases hq : q < r ∨ r + 9 ≤ q
  · rw [hw_n (r := r) hq]
    by_cases hp : q < o ∨ o + 9 ≤ q
    · rw [hw_n hp, hw_n hp, hw_n hq]
    · rcases (show q = o ∨ q = o + 1 ∨ q = o + 2 ∨ q = o + 3 ∨ q = o + 4 ∨ q = o + 5 ∨ q = o + 6 ∨ q = o + 7 ∨ q = o + 8 by omega) with z | z | z | z | z | z | z | z | z <;> subst z <;> (first | rw [hw_0, hw_0] | rw [hw_1, hw_1] | rw [hw_2, hw_2] | rw [hw_3, hw_3] | rw [hw_4, hw_4] | rw [hw_5, hw_5] | rw [hw_6, hw_6] | rw [hw_7, hw_7] | rw [hw_8, hw_8])
  · rw [hw_n (r := o) (by omega)]
    rcases (show q = r ∨ q = r + 1 ∨ q = r + 2 ∨ q = r + 3 ∨ q = r + 4 ∨ q = r + 5 ∨ q = r + 6 ∨ q = r + 7 ∨ q = r + 8 by omega) with z | z | z | z | z | z | z | z | z <;> subst z <;> (first | rw [hw_0, hw_0] | rw [hw_1, hw_1] | rw [hw_2, hw_2] | rw [hw_3, hw_3] | rw [hw_4, hw_4] | rw [hw_5, hw_5] | rw [hw_6, hw_6] | rw [hw_7, hw_7] | rw [hw_8, hw_8])
section Ra
variable {h : XH} {r o q : Nat} {dy nb nu np nf : Int} {B U P F : Int → Int} {dy' nb' nu' np' nf' : Int} {B' U' P' F' : Int → Int}
theorem RA_wr : RA (wr h r dy nb B nu U np P nf F) r dy nb B nu U np P nf F := wr_wr
theorem RA_ne (A : RA h o dy' nb' B' nu' U' np' P' nf' F') (ho : o + 9 ≤ r ∨ r + 9 ≤ o) : RA (wr h r dy nb B nu U np P nf F) o dy' nb' B' nu' U' np' P' nf' F' := by
  unfold RA at A ⊢
  rw [wr_comm ho, A]
theorem wr_hset {e : va_E} (ho : q < r ∨ r + 9 ≤ q) : hset (wr h r dy nb B nu U np P nf F) q e = wr (hset h q e) r dy nb B nu U np P nf F := by
  refine xh_ext (fun x => ?_) rfl
  by_cases hx : x = q
  · subst hx
    rw [hget_set, hw_n ho, hget_set]
  · rw [hget_ne hx]
    by_cases hq : x < r ∨ r + 9 ≤ x
    · rw [hw_n hq, hw_n hq, hget_ne hx]
    · rcases (show x = r ∨ x = r + 1 ∨ x = r + 2 ∨ x = r + 3 ∨ x = r + 4 ∨ x = r + 5 ∨ x = r + 6 ∨ x = r + 7 ∨ x = r + 8 by omega) with z | z | z | z | z | z | z | z | z <;> subst z <;> (first | rw [hw_0, hw_0] | rw [hw_1, hw_1] | rw [hw_2, hw_2] | rw [hw_3, hw_3] | rw [hw_4, hw_4] | rw [hw_5, hw_5] | rw [hw_6, hw_6] | rw [hw_7, hw_7] | rw [hw_8, hw_8])
theorem RA_hset {e : va_E} (A : RA h o dy' nb' B' nu' U' np' P' nf' F') (ho : q < o ∨ o + 9 ≤ q) : RA (hset h q e) o dy' nb' B' nu' U' np' P' nf' F' := by
  unfold RA at A ⊢
  rw [← wr_hset ho, A]
theorem RA_0 (A : RA h o dy' nb' B' nu' U' np' P' nf' F') : hget h (o) = some (rco o dy') := by
  have e := hw_0 (h := h) (r := o) (dy := dy') (nb := nb') (nu := nu') (np := np') (nf := nf') (B := B') (U := U') (P := P') (F := F')
  rw [show wr h o dy' nb' B' nu' U' np' P' nf' F' = h from A] at e
  exact e
theorem RA_1 (A : RA h o dy' nb' B' nu' U' np' P' nf' F') : hget h (o + 1) = some (tbl (o + 1) 7 nb') := by
  have e := hw_1 (h := h) (r := o) (dy := dy') (nb := nb') (nu := nu') (np := np') (nf := nf') (B := B') (U := U') (P := P') (F := F')
  rw [show wr h o dy' nb' B' nu' U' np' P' nf' F' = h from A] at e
  exact e
theorem RA_2 (A : RA h o dy' nb' B' nu' U' np' P' nf' F') : hget h (o + 2) = some (nar 28 B') := by
  have e := hw_2 (h := h) (r := o) (dy := dy') (nb := nb') (nu := nu') (np := np') (nf := nf') (B := B') (U := U') (P := P') (F := F')
  rw [show wr h o dy' nb' B' nu' U' np' P' nf' F' = h from A] at e
  exact e
theorem RA_3 (A : RA h o dy' nb' B' nu' U' np' P' nf' F') : hget h (o + 3) = some (tbl (o + 3) 11 nu') := by
  have e := hw_3 (h := h) (r := o) (dy := dy') (nb := nb') (nu := nu') (np := np') (nf := nf') (B := B') (U := U') (P := P') (F := F')
  rw [show wr h o dy' nb' B' nu' U' np' P' nf' F' = h from A] at e
  exact e
theorem RA_4 (A : RA h o dy' nb' B' nu' U' np' P' nf' F') : hget h (o + 4) = some (nar 660 U') := by
  have e := hw_4 (h := h) (r := o) (dy := dy') (nb := nb') (nu := nu') (np := np') (nf := nf') (B := B') (U := U') (P := P') (F := F')
  rw [show wr h o dy' nb' B' nu' U' np' P' nf' F' = h from A] at e
  exact e
theorem RA_5 (A : RA h o dy' nb' B' nu' U' np' P' nf' F') : hget h (o + 5) = some (tbl (o + 5) 7 np') := by
  have e := hw_5 (h := h) (r := o) (dy := dy') (nb := nb') (nu := nu') (np := np') (nf := nf') (B := B') (U := U') (P := P') (F := F')
  rw [show wr h o dy' nb' B' nu' U' np' P' nf' F' = h from A] at e
  exact e
theorem RA_6 (A : RA h o dy' nb' B' nu' U' np' P' nf' F') : hget h (o + 6) = some (nar 280 P') := by
  have e := hw_6 (h := h) (r := o) (dy := dy') (nb := nb') (nu := nu') (np := np') (nf := nf') (B := B') (U := U') (P := P') (F := F')
  rw [show wr h o dy' nb' B' nu' U' np' P' nf' F' = h from A] at e
  exact e
theorem RA_7 (A : RA h o dy' nb' B' nu' U' np' P' nf' F') : hget h (o + 7) = some (tbl (o + 7) 1 nf') := by
  have e := hw_7 (h := h) (r := o) (dy := dy') (nb := nb') (nu := nu') (np := np') (nf := nf') (B := B') (U := U') (P := P') (F := F')
  rw [show wr h o dy' nb' B' nu' U' np' P' nf' F' = h from A] at e
  exact e
theorem RA_8 (A : RA h o dy' nb' B' nu' U' np' P' nf' F') : hget h (o + 8) = some (nar 40 F') := by
  have e := hw_8 (h := h) (r := o) (dy := dy') (nb := nb') (nu := nu') (np := np') (nf := nf') (B := B') (U := U') (P := P') (F := F')
  rw [show wr h o dy' nb' B' nu' U' np' P' nf' F' = h from A] at e
  exact e
end Ra
theorem epf0 {c : Nat} {v v' : Value} {fs : List Value} {K : va_E → Prop} (hx : xfit (fty c 0) v' = true) : epf (some (.inr (c, v :: fs))) c 0 v' K = K (.inr (c, v' :: fs)) := epf_at rfl hx
section Cp
variable {d : Nat} {h : XH} {r o : Nat} {dy nb nu np nf : Int} {B U P F : Int → Int} {Q : XO → XH → Prop} {dy' nb' nu' np' nf' x : Int} {B' U' P' F' : Int → Int}
theorem epf_day {v : Value} {fs : List Value} {K : va_E → Prop} : epf (some (.inr (5, v :: fs))) 5 0 (.int (iI x)) K = K (.inr (5, .int (iI x) :: fs)) := epf0 rfl
theorem pw_day : hset (wr h r dy nb B nu U np P nf F) r (.inr (5, [.int (iI x), .ref (r + 1), .ref (r + 3), .ref (r + 5), .ref (r + 7)])) = wr h r x nb B nu U np P nf F := pw_0

theorem c_copyB (A : RA h o dy' nb' B' nu' U' np' P' nf' F') (ho : o + 9 ≤ r ∨ r + 9 ≤ o) : Call d m_X5_copyFrom [.ref (r + 1), .ref (o + 1)] (wr h r dy nb B nu U np P nf F) Q = Q (.inl none) (wr h r dy nb' B' nu U np P nf F) := by
  have T : TA (wr h r dy nb B nu U np P nf F) (o + 1) 28 7 nb' B' := ⟨by rw [hw_n (by omega)]; exact RA_1 A, by rw [hw_n (by omega)]; exact RA_2 A⟩
  rw [t_copy ta_B T (by omega) (by omega)]
  have e1 : hset (wr h r dy nb B nu U np P nf F) (r + 1 + 1) (nar 28 B') = _ := pw_2
  rw [e1, pw_1]
theorem c_copyU (A : RA h o dy' nb' B' nu' U' np' P' nf' F') (ho : o + 9 ≤ r ∨ r + 9 ≤ o) : Call d m_X5_copyFrom [.ref (r + 3), .ref (o + 3)] (wr h r dy nb B nu U np P nf F) Q = Q (.inl none) (wr h r dy nb B nu' U' np P nf F) := by
  have T : TA (wr h r dy nb B nu U np P nf F) (o + 3) 660 11 nu' U' := ⟨by rw [hw_n (by omega)]; exact RA_3 A, by rw [hw_n (by omega)]; exact RA_4 A⟩
  rw [t_copy ta_U T (by omega) (by omega)]
  have e1 : hset (wr h r dy nb B nu U np P nf F) (r + 3 + 1) (nar 660 U') = _ := pw_4
  rw [e1, pw_3]
theorem c_copyP (A : RA h o dy' nb' B' nu' U' np' P' nf' F') (ho : o + 9 ≤ r ∨ r + 9 ≤ o) : Call d m_X5_copyFrom [.ref (r + 5), .ref (o + 5)] (wr h r dy nb B nu U np P nf F) Q = Q (.inl none) (wr h r dy nb B nu U np' P' nf F) := by
  have T : TA (wr h r dy nb B nu U np P nf F) (o + 5) 280 7 np' P' := ⟨by rw [hw_n (by omega)]; exact RA_5 A, by rw [hw_n (by omega)]; exact RA_6 A⟩
  rw [t_copy ta_P T (by omega) (by omega)]
  have e1 : hset (wr h r dy nb B nu U np P nf F) (r + 5 + 1) (nar 280 P') = _ := pw_6
  rw [e1, pw_5]
theorem c_copyF (A : RA h o dy' nb' B' nu' U' np' P' nf' F') (ho : o + 9 ≤ r ∨ r + 9 ≤ o) : Call d m_X5_copyFrom [.ref (r + 7), .ref (o + 7)] (wr h r dy nb B nu U np P nf F) Q = Q (.inl none) (wr h r dy nb B nu U np P nf' F') := by
  have T : TA (wr h r dy nb B nu U np P nf F) (o + 7) 40 1 nf' F' := ⟨by rw [hw_n (by omega)]; exact RA_7 A, by rw [hw_n (by omega)]; exact RA_8 A⟩
  rw [t_copy ta_F T (by omega) (by omega)]
  have e1 : hset (wr h r dy nb B nu U np P nf F) (r + 7 + 1) (nar 40 F') = _ := pw_8
  rw [e1, pw_7]
theorem r_copyFrom (A : RA h o dy' nb' B' nu' U' np' P' nf' F') (ho : o + 9 ≤ r ∨ r + 9 ≤ o) : Call (d + 1) m_X4_copyFrom [.ref r, .ref o] (wr h r dy nb B nu U np P nf F) Q = Q (.inl none) (wr h r dy' nb' B' nu' U' np' P' nf' F') := by
  have g0 : ∀ {dy nb nu np nf : Int} {B U P F : Int → Int}, hget (wr h r dy nb B nu U np P nf F) o = some (rco o dy') := fun {dy nb nu np nf B U P F} => by rw [hw_n (by omega)]; exact RA_0 A
  simp (disch := (first | exact tgR (by assumption) | assumption | omega)) only [w_X4_copyFrom_0, w_X4_copyFrom_5, w_X4_copyFrom_8, w_X4_copyFrom_12, w_X4_copyFrom_16, w_X4_copyFrom_19, w_X4_copyFrom_23, w_X4_copyFrom_27, w_X4_copyFrom_30, w_X4_copyFrom_34, w_X4_copyFrom_38, w_X4_copyFrom_41, w_X4_copyFrom_45, w_X4_copyFrom_49, w_X4_copyFrom_52, c_X4_copyFrom, iI_add, iI_sub, iI_mul, iI_neg, iI_lt, iI_le, iI_eq, ne_eq, bI_e0, bI_e1, nor_em, bI_n0, bI_z, bI_zr, Classical.not_not, eq_self, true_or, or_true, false_or, or_false, if_true, if_false, ite_not, ↓reduceIte, dle_t, dle_f, dlt_t, dlt_f, deq_t, deq_f, Int.reduceEq, Int.reduceLT, Int.reduceLE, Int.reduceAdd, Int.reduceNeg, Nat.reduceAdd, bck_i, bck_v, r_sizeB, r_sizeU, r_sizeP, r_sizeF, r_hasB, r_hasU, r_hasP, r_getB, r_getU, r_getP, r_getF, r_putB, r_putU, r_putP, r_putF, eob_at, egf0, egf1, egf2, egf3, egf4, hw_0, hw_1, hw_3, hw_5, hw_7, rco, tbl, il_m1, il_0, il_1, il_2, il_3, il_4, il_5, il_6, il_7, il_8, il_9, il_10, il_11, il_12, il_13, il_14, il_26, il_28, il_30, il_32, il_35, il_40, il_43, il_44, il_48, il_50, il_52, il_57, il_58, il_59, il_60, il_61, il_64, il_65, il_70, il_78, il_95, il_97, il_99, il_100, il_101, il_102, il_106, il_115, il_117, il_660, il_812, il_999, il_1000, il_1092, il_8736, il_9999, g0, epf_day, pw_day, c_copyB A ho, c_copyU A ho, c_copyP A ho, c_copyF A ho]
end Cp
/-! carrying out again -/
def rbk (nb : Int) : Nat → Int → (Int → Int) → Int → Int
  | 0, _, B => B
  | k + 1, i, B => rbk nb k (i + 1) (tu nb 7 B i 0 1)
/-- one permit carried out: buildings, number of units, units -/
def cS (np : Int) (P : Int → Int) (nb p : Int) (s : (Int → Int) × Int × (Int → Int)) : (Int → Int) × Int × (Int → Int) := (cB (pq np P p 0) (pq np P p 1) (pq np P p 2) nb s.1, cN (pq np P p 0) s.2.1, cU (pq np P p 0) (pq np P p 1) (pq np P p 2) (pq np P p 3) (pq np P p 4) (pq np P p 6) p s.2.1 s.2.2)
def rn (np : Int) (P : Int → Int) (nf : Int) (F : Int → Int) (nb D : Int) : Nat → Int → (Int → Int) × Int × (Int → Int) → (Int → Int) × Int × (Int → Int)
  | 0, _, s => s
  | k + 1, i, s => rn np P nf F nb D k (i + 1) (if pq np P (tg nf 1 F i 0) 6 ≤ D then cS np P nb (tg nf 1 F i 0) s else s)
section Again
variable {d : Nat} {h : XH} {r : Nat} {dy nb nu np nf : Int} {B U P F : Int → Int} {Q : XO → XH → Prop} {i j x b f k t ia u p : Int}
variable {w : Nat} {D : Int} {J : Int → (Int → Int) × Int × (Int → Int) → Prop}
theorem k_again (hw : WF dy nb B nu U np P nf F) (hk : hget h w = some (.inr (7, [.ref r]))) (hd : w < r ∨ r + 9 ≤ w) (hD : -2147483648 ≤ D ∧ D < 2147483648) (hJ0 : J 0 (rbk nb nb.toNat 0 B, 0, U)) (hJ : ∀ i s, 0 ≤ i → i < nf → J i s → (WF dy nb s.1 s.2.1 s.2.2 np P nf F ∧ (pq np P (tg nf 1 F i 0) 6 ≤ D → cP (pq np P (tg nf 1 F i 0) 0) (pq np P (tg nf 1 F i 0) 1) (pq np P (tg nf 1 F i 0) 2) (pq np P (tg nf 1 F i 0) 3) (pq np P (tg nf 1 F i 0) 4) nb s.1 s.2.1 s.2.2)) ∧ J (i + 1) (if pq np P (tg nf 1 F i 0) 6 ≤ D then cS np P nb (tg nf 1 F i 0) s else s)) : Call (d + 6) m_X6_carryOutAgain [.ref w, .int (iI D)] (wr h r dy nb B nu U np P nf F) Q = Q (.inl none) (wr h r dy nb (rn np P nf F nb D nf.toNat 0 (rbk nb nb.toNat 0 B, 0, U)).1 (rn np P nf F nb D nf.toNat 0 (rbk nb nb.toNat 0 B, 0, U)).2.1 (rn np P nf F nb D nf.toNat 0 (rbk nb nb.toNat 0 B, 0, U)).2.2 np P nf F) := by
  obtain ⟨⟨dy1, dy2⟩, ⟨b1, b2⟩, ⟨u1, u2⟩, ⟨p1, p2⟩, ⟨f1, f2⟩, hB, hU, hP, hF⟩ := id hw
  have ho : ∀ {dy nb nu np nf : Int} {B U P F : Int → Int}, hget (wr h r dy nb B nu U np P nf F) w = some (.inr (7, [.ref r])) := fun {dy nb nu np nf B U P F} => by rw [hw_n (by omega)]; exact hk
  simp (disch := (first | exact tgR (by assumption) | assumption | omega)) only [w_X6_carryOutAgain_0, w_X6_carryOutAgain_4, w_X6_carryOutAgain_7, w_X6_carryOutAgain_10, w_X6_carryOutAgain_17, w_X6_carryOutAgain_20, w_X6_carryOutAgain_23, w_X6_carryOutAgain_26, w_X6_carryOutAgain_30, w_X6_carryOutAgain_33, w_X6_carryOutAgain_39, w_X6_carryOutAgain_45, w_X6_carryOutAgain_52, w_X6_carryOutAgain_55, w_X6_carryOutAgain_58, w_X6_carryOutAgain_61, w_X6_carryOutAgain_65, w_X6_carryOutAgain_68, w_X6_carryOutAgain_73, w_X6_carryOutAgain_78, w_X6_carryOutAgain_81, w_X6_carryOutAgain_87, w_X6_carryOutAgain_91, w_X6_carryOutAgain_96, w_X6_carryOutAgain_97, w_X6_carryOutAgain_103, c_X6_carryOutAgain, iI_add, iI_sub, iI_mul, iI_neg, iI_lt, iI_le, iI_eq, ne_eq, bI_e0, bI_e1, nor_em, bI_n0, bI_z, bI_zr, Classical.not_not, eq_self, true_or, or_true, false_or, or_false, if_true, if_false, ite_not, ↓reduceIte, dle_t, dle_f, dlt_t, dlt_f, deq_t, deq_f, Int.reduceEq, Int.reduceLT, Int.reduceLE, Int.reduceAdd, Int.reduceNeg, Nat.reduceAdd, bck_i, bck_v, r_sizeB, r_sizeU, r_sizeP, r_sizeF, r_hasB, r_hasU, r_hasP, r_getB, r_getU, r_getP, r_getF, r_putB, r_putU, r_putP, r_putF, eob_at, egf0, egf1, egf2, egf3, egf4, hw_0, hw_1, hw_3, hw_5, hw_7, rco, tbl, il_m1, il_0, il_1, il_2, il_3, il_4, il_5, il_6, il_7, il_8, il_9, il_10, il_11, il_12, il_13, il_14, il_26, il_28, il_30, il_32, il_35, il_40, il_43, il_44, il_48, il_50, il_52, il_57, il_58, il_59, il_60, il_61, il_64, il_65, il_70, il_78, il_95, il_97, il_99, il_100, il_101, il_102, il_106, il_115, il_117, il_660, il_812, il_999, il_1000, il_1092, il_8736, il_9999, r_clearU, ho]
  have k1 := lp (n := nb) (E := fun i (B : Int → Int) => EvQ (d + 5 + 1) m_X6_carryOutAgain 12 [.ref w, .int (iI D), .int (iI i), xjunk] [] (wr h r dy nb B 0 U np P nf F) Q) (V := fun i B => EvQ (d + 5 + 1) m_X6_carryOutAgain 47 [.ref w, .int (iI D), .int (iI 0), xjunk] [] (wr h r dy nb (rbk nb (nb - i).toNat i B) 0 U np P nf F) Q) ?_ ?_ 0 B (by omega) (by omega)
  · rw [Int.sub_zero] at k1
    rw [k1]
    have k2 := lpI (n := nf) (I := fun i (a : ((Int → Int) × Int × (Int → Int)) × Value) => J i a.1) (E := fun i a => EvQ (d + 5 + 1) m_X6_carryOutAgain 47 [.ref w, .int (iI D), .int (iI i), a.2] [] (wr h r dy nb a.1.1 a.1.2.1 a.1.2.2 np P nf F) Q) (V := fun i a => Q (.inl none) (wr h r dy nb (rn np P nf F nb D (nf - i).toNat i a.1).1 (rn np P nf F nb D (nf - i).toNat i a.1).2.1 (rn np P nf F nb D (nf - i).toNat i a.1).2.2 np P nf F)) ?_ ?_ 0 ((rbk nb nb.toNat 0 B, 0, U), xjunk) (by omega) (by omega) hJ0
    · rw [Int.sub_zero] at k2
      exact k2
    · rintro ⟨⟨B, nu, U⟩, l3⟩ _
      try dsimp only
      rw [w_X6_carryOutAgain_47, Int.sub_self]
      simp (disch := (first | exact tgR (by assumption) | assumption | omega)) only [w_X6_carryOutAgain_0, w_X6_carryOutAgain_4, w_X6_carryOutAgain_7, w_X6_carryOutAgain_10, w_X6_carryOutAgain_17, w_X6_carryOutAgain_20, w_X6_carryOutAgain_23, w_X6_carryOutAgain_26, w_X6_carryOutAgain_30, w_X6_carryOutAgain_33, w_X6_carryOutAgain_39, w_X6_carryOutAgain_45, w_X6_carryOutAgain_52, w_X6_carryOutAgain_55, w_X6_carryOutAgain_58, w_X6_carryOutAgain_61, w_X6_carryOutAgain_65, w_X6_carryOutAgain_68, w_X6_carryOutAgain_73, w_X6_carryOutAgain_78, w_X6_carryOutAgain_81, w_X6_carryOutAgain_87, w_X6_carryOutAgain_91, w_X6_carryOutAgain_96, w_X6_carryOutAgain_97, w_X6_carryOutAgain_103, c_X6_carryOutAgain, iI_add, iI_sub, iI_mul, iI_neg, iI_lt, iI_le, iI_eq, ne_eq, bI_e0, bI_e1, nor_em, bI_n0, bI_z, bI_zr, Classical.not_not, eq_self, true_or, or_true, false_or, or_false, if_true, if_false, ite_not, ↓reduceIte, dle_t, dle_f, dlt_t, dlt_f, deq_t, deq_f, Int.reduceEq, Int.reduceLT, Int.reduceLE, Int.reduceAdd, Int.reduceNeg, Nat.reduceAdd, bck_i, bck_v, r_sizeB, r_sizeU, r_sizeP, r_sizeF, r_hasB, r_hasU, r_hasP, r_getB, r_getU, r_getP, r_getF, r_putB, r_putU, r_putP, r_putF, eob_at, egf0, egf1, egf2, egf3, egf4, hw_0, hw_1, hw_3, hw_5, hw_7, rco, tbl, il_m1, il_0, il_1, il_2, il_3, il_4, il_5, il_6, il_7, il_8, il_9, il_10, il_11, il_12, il_13, il_14, il_26, il_28, il_30, il_32, il_35, il_40, il_43, il_44, il_48, il_50, il_52, il_57, il_58, il_59, il_60, il_61, il_64, il_65, il_70, il_78, il_95, il_97, il_99, il_100, il_101, il_102, il_106, il_115, il_117, il_660, il_812, il_999, il_1000, il_1092, il_8736, il_9999, ho]
      rfl
    · rintro i ⟨⟨B, nu, U⟩, l3⟩ h0 h1 hI ih
      try dsimp only at ih hI ⊢
      obtain ⟨⟨wf, hc⟩, hJ'⟩ := hJ i _ h0 h1 hI
      try dsimp only at wf hc hJ'
      have hX : -2147483648 ≤ pq np P (tg nf 1 F i 0) 6 ∧ pq np P (tg nf 1 F i 0) 6 < 2147483648 := tgR hP
      obtain ⟨_, _, ⟨v1, v2⟩, _, _, hB', hU', _⟩ := id wf
      rw [w_X6_carryOutAgain_47, show (nf - i).toNat = (nf - (i + 1)).toNat + 1 by omega]
      unfold rn
      by_cases c : pq np P (tg nf 1 F i 0) 6 ≤ D
      · rw [if_pos c] at hJ' ⊢
        have hc2 := hc c
        unfold pq at c
        simp (disch := (first | exact tgR (by assumption) | assumption | omega)) only [w_X6_carryOutAgain_0, w_X6_carryOutAgain_4, w_X6_carryOutAgain_7, w_X6_carryOutAgain_10, w_X6_carryOutAgain_17, w_X6_carryOutAgain_20, w_X6_carryOutAgain_23, w_X6_carryOutAgain_26, w_X6_carryOutAgain_30, w_X6_carryOutAgain_33, w_X6_carryOutAgain_39, w_X6_carryOutAgain_45, w_X6_carryOutAgain_52, w_X6_carryOutAgain_55, w_X6_carryOutAgain_58, w_X6_carryOutAgain_61, w_X6_carryOutAgain_65, w_X6_carryOutAgain_68, w_X6_carryOutAgain_73, w_X6_carryOutAgain_78, w_X6_carryOutAgain_81, w_X6_carryOutAgain_87, w_X6_carryOutAgain_91, w_X6_carryOutAgain_96, w_X6_carryOutAgain_97, w_X6_carryOutAgain_103, c_X6_carryOutAgain, iI_add, iI_sub, iI_mul, iI_neg, iI_lt, iI_le, iI_eq, ne_eq, bI_e0, bI_e1, nor_em, bI_n0, bI_z, bI_zr, Classical.not_not, eq_self, true_or, or_true, false_or, or_false, if_true, if_false, ite_not, ↓reduceIte, dle_t, dle_f, dlt_t, dlt_f, deq_t, deq_f, Int.reduceEq, Int.reduceLT, Int.reduceLE, Int.reduceAdd, Int.reduceNeg, Nat.reduceAdd, bck_i, bck_v, r_sizeB, r_sizeU, r_sizeP, r_sizeF, r_hasB, r_hasU, r_hasP, r_getB, r_getU, r_getP, r_getF, r_putB, r_putU, r_putP, r_putF, eob_at, egf0, egf1, egf2, egf3, egf4, hw_0, hw_1, hw_3, hw_5, hw_7, rco, tbl, il_m1, il_0, il_1, il_2, il_3, il_4, il_5, il_6, il_7, il_8, il_9, il_10, il_11, il_12, il_13, il_14, il_26, il_28, il_30, il_32, il_35, il_40, il_43, il_44, il_48, il_50, il_52, il_57, il_58, il_59, il_60, il_61, il_64, il_65, il_70, il_78, il_95, il_97, il_99, il_100, il_101, il_102, il_106, il_115, il_117, il_660, il_812, il_999, il_1000, il_1092, il_8736, il_9999, k_carryOut, ho]
        exact ih (cS np P nb (tg nf 1 F i 0) (B, nu, U), .int (iI (tg nf 1 F i 0))) hJ'
      · rw [if_neg c] at hJ' ⊢
        unfold pq at c
        simp (disch := (first | exact tgR (by assumption) | assumption | omega)) only [w_X6_carryOutAgain_0, w_X6_carryOutAgain_4, w_X6_carryOutAgain_7, w_X6_carryOutAgain_10, w_X6_carryOutAgain_17, w_X6_carryOutAgain_20, w_X6_carryOutAgain_23, w_X6_carryOutAgain_26, w_X6_carryOutAgain_30, w_X6_carryOutAgain_33, w_X6_carryOutAgain_39, w_X6_carryOutAgain_45, w_X6_carryOutAgain_52, w_X6_carryOutAgain_55, w_X6_carryOutAgain_58, w_X6_carryOutAgain_61, w_X6_carryOutAgain_65, w_X6_carryOutAgain_68, w_X6_carryOutAgain_73, w_X6_carryOutAgain_78, w_X6_carryOutAgain_81, w_X6_carryOutAgain_87, w_X6_carryOutAgain_91, w_X6_carryOutAgain_96, w_X6_carryOutAgain_97, w_X6_carryOutAgain_103, c_X6_carryOutAgain, iI_add, iI_sub, iI_mul, iI_neg, iI_lt, iI_le, iI_eq, ne_eq, bI_e0, bI_e1, nor_em, bI_n0, bI_z, bI_zr, Classical.not_not, eq_self, true_or, or_true, false_or, or_false, if_true, if_false, ite_not, ↓reduceIte, dle_t, dle_f, dlt_t, dlt_f, deq_t, deq_f, Int.reduceEq, Int.reduceLT, Int.reduceLE, Int.reduceAdd, Int.reduceNeg, Nat.reduceAdd, bck_i, bck_v, r_sizeB, r_sizeU, r_sizeP, r_sizeF, r_hasB, r_hasU, r_hasP, r_getB, r_getU, r_getP, r_getF, r_putB, r_putU, r_putP, r_putF, eob_at, egf0, egf1, egf2, egf3, egf4, hw_0, hw_1, hw_3, hw_5, hw_7, rco, tbl, il_m1, il_0, il_1, il_2, il_3, il_4, il_5, il_6, il_7, il_8, il_9, il_10, il_11, il_12, il_13, il_14, il_26, il_28, il_30, il_32, il_35, il_40, il_43, il_44, il_48, il_50, il_52, il_57, il_58, il_59, il_60, il_61, il_64, il_65, il_70, il_78, il_95, il_97, il_99, il_100, il_101, il_102, il_106, il_115, il_117, il_660, il_812, il_999, il_1000, il_1092, il_8736, il_9999, ho]
        exact ih ((B, nu, U), .int (iI (tg nf 1 F i 0))) hJ'
  · intro B
    try dsimp only
    rw [w_X6_carryOutAgain_12, Int.sub_self]
    simp (disch := (first | exact tgR (by assumption) | assumption | omega)) only [w_X6_carryOutAgain_0, w_X6_carryOutAgain_4, w_X6_carryOutAgain_7, w_X6_carryOutAgain_10, w_X6_carryOutAgain_17, w_X6_carryOutAgain_20, w_X6_carryOutAgain_23, w_X6_carryOutAgain_26, w_X6_carryOutAgain_30, w_X6_carryOutAgain_33, w_X6_carryOutAgain_39, w_X6_carryOutAgain_45, w_X6_carryOutAgain_52, w_X6_carryOutAgain_55, w_X6_carryOutAgain_58, w_X6_carryOutAgain_61, w_X6_carryOutAgain_65, w_X6_carryOutAgain_68, w_X6_carryOutAgain_73, w_X6_carryOutAgain_78, w_X6_carryOutAgain_81, w_X6_carryOutAgain_87, w_X6_carryOutAgain_91, w_X6_carryOutAgain_96, w_X6_carryOutAgain_97, w_X6_carryOutAgain_103, c_X6_carryOutAgain, iI_add, iI_sub, iI_mul, iI_neg, iI_lt, iI_le, iI_eq, ne_eq, bI_e0, bI_e1, nor_em, bI_n0, bI_z, bI_zr, Classical.not_not, eq_self, true_or, or_true, false_or, or_false, if_true, if_false, ite_not, ↓reduceIte, dle_t, dle_f, dlt_t, dlt_f, deq_t, deq_f, Int.reduceEq, Int.reduceLT, Int.reduceLE, Int.reduceAdd, Int.reduceNeg, Nat.reduceAdd, bck_i, bck_v, r_sizeB, r_sizeU, r_sizeP, r_sizeF, r_hasB, r_hasU, r_hasP, r_getB, r_getU, r_getP, r_getF, r_putB, r_putU, r_putP, r_putF, eob_at, egf0, egf1, egf2, egf3, egf4, hw_0, hw_1, hw_3, hw_5, hw_7, rco, tbl, il_m1, il_0, il_1, il_2, il_3, il_4, il_5, il_6, il_7, il_8, il_9, il_10, il_11, il_12, il_13, il_14, il_26, il_28, il_30, il_32, il_35, il_40, il_43, il_44, il_48, il_50, il_52, il_57, il_58, il_59, il_60, il_61, il_64, il_65, il_70, il_78, il_95, il_97, il_99, il_100, il_101, il_102, il_106, il_115, il_117, il_660, il_812, il_999, il_1000, il_1092, il_8736, il_9999, ho]
    rfl
  · intro i B h0 h1 ih
    try dsimp only at ih ⊢
    rw [w_X6_carryOutAgain_12, show (nb - i).toNat = (nb - (i + 1)).toNat + 1 by omega]
    unfold rbk
    simp (disch := (first | exact tgR (by assumption) | assumption | omega)) only [w_X6_carryOutAgain_0, w_X6_carryOutAgain_4, w_X6_carryOutAgain_7, w_X6_carryOutAgain_10, w_X6_carryOutAgain_17, w_X6_carryOutAgain_20, w_X6_carryOutAgain_23, w_X6_carryOutAgain_26, w_X6_carryOutAgain_30, w_X6_carryOutAgain_33, w_X6_carryOutAgain_39, w_X6_carryOutAgain_45, w_X6_carryOutAgain_52, w_X6_carryOutAgain_55, w_X6_carryOutAgain_58, w_X6_carryOutAgain_61, w_X6_carryOutAgain_65, w_X6_carryOutAgain_68, w_X6_carryOutAgain_73, w_X6_carryOutAgain_78, w_X6_carryOutAgain_81, w_X6_carryOutAgain_87, w_X6_carryOutAgain_91, w_X6_carryOutAgain_96, w_X6_carryOutAgain_97, w_X6_carryOutAgain_103, c_X6_carryOutAgain, iI_add, iI_sub, iI_mul, iI_neg, iI_lt, iI_le, iI_eq, ne_eq, bI_e0, bI_e1, nor_em, bI_n0, bI_z, bI_zr, Classical.not_not, eq_self, true_or, or_true, false_or, or_false, if_true, if_false, ite_not, ↓reduceIte, dle_t, dle_f, dlt_t, dlt_f, deq_t, deq_f, Int.reduceEq, Int.reduceLT, Int.reduceLE, Int.reduceAdd, Int.reduceNeg, Nat.reduceAdd, bck_i, bck_v, r_sizeB, r_sizeU, r_sizeP, r_sizeF, r_hasB, r_hasU, r_hasP, r_getB, r_getU, r_getP, r_getF, r_putB, r_putU, r_putP, r_putF, eob_at, egf0, egf1, egf2, egf3, egf4, hw_0, hw_1, hw_3, hw_5, hw_7, rco, tbl, il_m1, il_0, il_1, il_2, il_3, il_4, il_5, il_6, il_7, il_8, il_9, il_10, il_11, il_12, il_13, il_14, il_26, il_28, il_30, il_32, il_35, il_40, il_43, il_44, il_48, il_50, il_52, il_57, il_58, il_59, il_60, il_61, il_64, il_65, il_70, il_78, il_95, il_97, il_99, il_100, il_101, il_102, il_106, il_115, il_117, il_660, il_812, il_999, il_1000, il_1092, il_8736, il_9999, ho]
    exact ih (tu nb 7 B i 0 1)
end Again
