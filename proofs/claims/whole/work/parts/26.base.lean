/-! Whole numbers in place of ints. -/
def iI (z : Int) : Int32 := Int32.ofInt z
theorem iI_of (x : Int32) : iI x.toInt = x := Int32.ofInt_toInt x
theorem iI_to {z : Int} (h1 : -2147483648 ≤ z ∧ z < 2147483648) : (iI z).toInt = z := Int32.toInt_ofInt_of_le (by omega) (by omega)
theorem iI_add (a b : Int) : iI a + iI b = iI (a + b) := (Int32.ofInt_add a b).symm
theorem iI_sub (a b : Int) : iI a - iI b = iI (a - b) := (Int32.ofInt_sub a b).symm
theorem iI_mul (a b : Int) : iI a * iI b = iI (a * b) := (Int32.ofInt_mul a b).symm
theorem iI_neg (a : Int) : -iI a = iI (-a) := (Int32.ofInt_neg a).symm
theorem iI_lt {a b : Int} (ha : -2147483648 ≤ a ∧ a < 2147483648) (hb : -2147483648 ≤ b ∧ b < 2147483648) : (iI a < iI b) = (a < b) := by
  rw [Int32.lt_iff_toInt_lt, iI_to ha, iI_to hb]
theorem iI_le {a b : Int} (ha : -2147483648 ≤ a ∧ a < 2147483648) (hb : -2147483648 ≤ b ∧ b < 2147483648) : (iI a ≤ iI b) = (a ≤ b) := by
  rw [Int32.le_iff_toInt_le, iI_to ha, iI_to hb]
theorem iI_eq {a b : Int} (ha : -2147483648 ≤ a ∧ a < 2147483648) (hb : -2147483648 ≤ b ∧ b < 2147483648) : (iI a = iI b) = (a = b) := by
  rw [← Int32.toInt_inj, iI_to ha, iI_to hb]
theorem iI_ne {a b : Int} (ha : -2147483648 ≤ a ∧ a < 2147483648) (hb : -2147483648 ≤ b ∧ b < 2147483648) : (iI a ≠ iI b) = (a ≠ b) := by
  rw [ne_eq, iI_eq ha hb]
theorem iI_nat {z : Int} (h1 : 0 ≤ z ∧ z < 2147483648) : (iI z).toNatClampNeg = z.toNat := Int32.toNatClampNeg_ofInt_of_le (by omega) (by omega)
theorem iI_ofNat (n : Nat) : Int32.ofNat n = iI n := Int32.ofInt_eq_ofNat.symm
theorem iI_div {a b : Int} (ha : -2147483648 < a ∧ a < 2147483648) (hb : -2147483648 ≤ b ∧ b < 2147483648) : iI a / iI b = iI (a.tdiv b) := by
  apply Int32.toInt_inj.mp
  have hne : iI a ≠ Int32.minValue := fun z => by
    have q := congrArg Int32.toInt z
    rw [iI_to (by omega)] at q
    have : Int32.minValue.toInt = -2147483648 := by decide
    omega
  rw [Int32.toInt_div_of_ne_left _ _ hne, iI_to (by omega), iI_to hb, iI_to]
  have h1 : (a.tdiv b).natAbs = a.natAbs / b.natAbs := Int.natAbs_tdiv a b
  have h2 : a.natAbs / b.natAbs ≤ a.natAbs := Nat.div_le_self _ _
  omega
theorem iI_mod {a b : Int} (ha : -2147483648 < a ∧ a < 2147483648) (hb : -2147483648 ≤ b ∧ b < 2147483648) : iI a % iI b = iI (a.tmod b) := by
  apply Int32.toInt_inj.mp
  rw [Int32.toInt_mod, iI_to (by omega), iI_to hb, iI_to]
  have h1 : (a.tmod b).natAbs = a.natAbs % b.natAbs := Int.natAbs_tmod a b
  have h2 : a.natAbs % b.natAbs ≤ a.natAbs := Nat.mod_le _ _
  omega
/-- an int's number -/
theorem i32 (x : Int32) : ∃ z : Int, x = iI z ∧ -2147483648 ≤ z ∧ z < 2147483648 := ⟨x.toInt, (iI_of x).symm, Int32.le_toInt x, Int32.toInt_lt x⟩
/-! Loops: from i up to n. -/
theorem lp {α : Type} {n : Int} {E V : Int → α → Prop} (hn : ∀ a, E n a = V n a) (hs : ∀ i a, 0 ≤ i → i < n → (∀ a', E (i + 1) a' = V (i + 1) a') → E i a = V i a) : ∀ (i : Int) (a : α), 0 ≤ i → i ≤ n → E i a = V i a := by
  have key : ∀ (k : Nat) (i : Int) (a : α), 0 ≤ i → i + k = n → E i a = V i a := by
    intro k
    induction k with
    | zero => intro i a h0 h1; have : i = n := by omega
              subst this; exact hn a
    | succ k ih => intro i a h0 h1; exact hs i a h0 (by omega) fun a' => ih (i + 1) a' (by omega) (by omega)
  intro i a h0 h1
  exact key (n - i).toNat i a h0 (by omega)
def sm (g : Int → Int) (i : Int) : Nat → Int
  | 0 => 0
  | k + 1 => g i + sm g (i + 1) k
/-- the sum of g over i ≤ j < n -/
def su (g : Int → Int) (i n : Int) : Int := sm g i (n - i).toNat
theorem su_end (g : Int → Int) {i n : Int} (h : n ≤ i) : su g i n = 0 := by
  unfold su
  rw [Int.toNat_of_nonpos (by omega)]
  rfl
theorem su_step (g : Int → Int) {i n : Int} (h : i < n) : su g i n = g i + su g (i + 1) n := by
  unfold su
  have : (n - i).toNat = (n - (i + 1)).toNat + 1 := by omega
  rw [this]
  rfl
theorem sm_congr {f g : Int → Int} : ∀ (k : Nat) (i : Int), (∀ j, i ≤ j → j < i + k → f j = g j) → sm f i k = sm g i k
  | 0, _, _ => rfl
  | k + 1, i, h => by
    show f i + sm f (i + 1) k = g i + sm g (i + 1) k
    rw [h i (by omega) (by omega), sm_congr k (i + 1) fun j h1 h2 => h j (by omega) (by omega)]
theorem su_congr {f g : Int → Int} {i n : Int} (h : ∀ j, i ≤ j → j < n → f j = g j) : su f i n = su g i n := by
  by_cases hn : i ≤ n
  · exact sm_congr _ _ fun j h1 h2 => h j h1 (by omega)
  · rw [su_end f (by omega), su_end g (by omega)]
/-- whether p holds for a j, i ≤ j < n -/
def am (p : Int → Prop) (i n : Int) : Prop := ∃ j, i ≤ j ∧ j < n ∧ p j
theorem am_end {p : Int → Prop} {i n : Int} (h : n ≤ i) : am p i n = False := by
  apply propext
  exact ⟨fun ⟨j, h1, h2, _⟩ => by omega, False.elim⟩
theorem am_step {p : Int → Prop} {i n : Int} (h : i < n) : am p i n = (p i ∨ am p (i + 1) n) := by
  apply propext
  constructor
  · rintro ⟨j, h1, h2, h3⟩
    by_cases q : j = i
    · subst q; exact Or.inl h3
    · exact Or.inr ⟨j, by omega, h2, h3⟩
  · rintro (h3 | ⟨j, h1, h2, h3⟩)
    · exact ⟨i, by omega, h, h3⟩
    · exact ⟨j, by omega, h2, h3⟩
/-! Behind a call. -/
theorem bck_i {d : Nat} {M M' : XM} {pc : Nat} {L rest : List Value} {Q : XO → XH → Prop} {v : Value} {h2 : XH} : Bck d M M' pc L rest Q (.inl (some v)) h2 = EvQ d M (pc + 3) L (v :: rest) h2 Q := rfl
theorem bck_v {d : Nat} {M M' : XM} {pc : Nat} {L rest : List Value} {Q : XO → XH → Prop} {h2 : XH} : Bck d M M' pc L rest Q (.inl none) h2 = EvQ d M (pc + 3) L rest h2 Q := rfl
theorem egf_ev {c k : Nat} {fs : List Value} {K : Value → Prop} : egf (some (.inr (c, fs))) c k K = match fs[k]? with
    | some v => K v
    | none => False := by
  unfold egf
  have hc : Nat.beq c c = true := Nat.beq_refl c
  simp only [hc, cond_true]
  rfl
theorem egf0 {c : Nat} {fs : List Value} {v : Value} {K : Value → Prop} : egf (some (.inr (c, v :: fs))) c 0 K = K v := by
  rw [egf_ev]; rfl
theorem egf1 {c : Nat} {fs : List Value} {v v0 : Value} {K : Value → Prop} : egf (some (.inr (c, v0 :: v :: fs))) c 1 K = K v := by
  rw [egf_ev]; rfl
theorem egf2 {c : Nat} {fs : List Value} {v v0 v1 : Value} {K : Value → Prop} : egf (some (.inr (c, v0 :: v1 :: v :: fs))) c 2 K = K v := by
  rw [egf_ev]; rfl
theorem egf3 {c : Nat} {fs : List Value} {v v0 v1 v2 : Value} {K : Value → Prop} : egf (some (.inr (c, v0 :: v1 :: v2 :: v :: fs))) c 3 K = K v := by
  rw [egf_ev]; rfl
theorem egf4 {c : Nat} {fs : List Value} {v v0 v1 v2 v3 : Value} {K : Value → Prop} : egf (some (.inr (c, v0 :: v1 :: v2 :: v3 :: v :: fs))) c 4 K = K v := by
  rw [egf_ev]; rfl
theorem eob_at {c : Nat} {fs : List Value} {P : Prop} : eob (some (.inr (c, fs))) c P = P := by
  unfold eob
  have hc : Nat.beq c c = true := Nat.beq_refl c
  simp only [hc, cond_true]
/-! Arrays of ints. -/
/-- an array of n ints; outside of it the numbers don't count -/
def nar (n : Nat) (g : Int → Int) : va_E := .inl (0, n, .inl fun k => iI (if (k : Int) < n then g k else 0))
def iup (g : Int → Int) (z x : Int) : Int → Int := fun k => if k = z then x else g k
theorem iI_not_neg {i : Int} (h : 0 ≤ i ∧ i < 2147483648) : ¬ iI i < 0 := by
  have : (0 : Int32) = iI 0 := rfl
  rw [this, iI_lt (by omega) (by omega)]
  omega
theorem ega_n {n : Nat} {g : Int → Int} {i : Int} {K : Int32 → Prop} (h : 0 ≤ i ∧ i < n ∧ n < 2147483648) : ega (some (nar n g)) 0 (iI i) K = K (iI (g i)) := by
  unfold nar
  rw [ega_at (iI_not_neg (by omega)) (by rw [iI_nat (by omega)]; omega), iI_nat (by omega)]
  have h1 : ((i.toNat : Nat) : Int) = i := by omega
  rw [h1, if_pos (by omega)]
theorem upd_n {n : Nat} {g : Int → Int} {i x : Int} (h : 0 ≤ i ∧ i < n) : upd (fun k => iI (if (k : Int) < n then g k else 0)) i.toNat (iI x) = fun (k : Nat) => iI (if (k : Int) < n then iup g i x k else 0) := by
  funext k
  unfold upd iup
  by_cases hk : k = i.toNat
  · have : (k : Int) = i := by omega
    rw [if_pos hk, if_pos (by omega), if_pos this]
  · have : ¬ (k : Int) = i := by omega
    rw [if_neg hk, if_neg this]
theorem epa_n {n : Nat} {g : Int → Int} {i x : Int} {K : va_E → Prop} (h : 0 ≤ i ∧ i < n ∧ n < 2147483648) : epa (some (nar n g)) 0 (iI i) (iI x) K = K (nar n (iup g i x)) := by
  unfold nar
  rw [epa_at (iI_not_neg (by omega)) (by rw [iI_nat (by omega)]; omega), iI_nat (by omega), upd_n (by omega)]
theorem elen_n {n : Nat} {g : Int → Int} {K : Int32 → Prop} : elen (some (nar n g)) K = K (iI n) := by
  show K (Int32.ofNat n) = _
  rw [iI_ofNat]
theorem ecp_n {n : Nat} {g g' : Int → Int} {K : va_E → Prop} (h : n < 2147483648) : ecp (some (nar n g)) (some (nar n g')) (iI 0) (iI 0) (iI n) K = K (nar n g) := by
  unfold ecp nar
  dsimp only
  have hb : (Nat.beq 0 0 && Nat.beq 0 0) = true := rfl
  rw [hb, iI_nat (by omega), iI_nat (by omega)]
  have hc : ¬ (iI 0 < 0 ∨ iI 0 < 0 ∨ iI n < 0 ∨ n < Int.toNat 0 + Int.toNat n ∨ n < Int.toNat 0 + Int.toNat n) := by
    have e0 := iI_not_neg (i := 0) (by omega)
    have e1 := iI_not_neg (i := (n : Int)) (by omega)
    rintro (z | z | z | z | z)
    · exact e0 z
    · exact e0 z
    · exact e1 z
    · omega
    · omega
  rw [cond_true, if_neg hc]
  refine congrArg K ?_
  refine congrArg (fun f => (Sum.inl (0, n, Sum.inl f) : va_E)) ?_
  funext k
  unfold va_cpy
  have e1 : Int.toNat (0 : Int) = 0 := rfl
  have e2 : Int.toNat (n : Int) = n := by omega
  rw [e1, e2]
  by_cases hk : k < n
  · rw [if_pos (by omega)]
    simp
  · rw [if_neg (by omega), if_neg (by omega)]
    dsimp only
    rw [if_neg (by omega)]
theorem hset_same {h : XH} {q : Nat} {e : va_E} (he : hget h q = some e) : hset h q e = h := by
  unfold hset
  refine Prod.ext (funext fun x => ?_) rfl
  dsimp only
  by_cases hx : x = q
  · rw [if_pos hx, hx]; exact he.symm
  · rw [if_neg hx]
theorem hget_set {h : XH} {q : Nat} {e : va_E} : hget (hset h q e) q = some e := by simp [hget, hset]
theorem hget_ne {h : XH} {q p : Nat} {e : va_E} (hp : p ≠ q) : hget (hset h q e) p = hget h p := by simp [hget, hset, hp]
theorem hset_set {h : XH} {q : Nat} {e e' : va_E} : hset (hset h q e) q e' = hset h q e' := by
  unfold hset
  refine Prod.ext (funext fun x => ?_) rfl
  dsimp only
  by_cases hx : x = q
  · rw [if_pos hx, if_pos hx]
  · rw [if_neg hx, if_neg hx, if_neg hx]
theorem hset_comm {h : XH} {q p : Nat} {e e' : va_E} (hp : p ≠ q) : hset (hset h q e) p e' = hset (hset h p e') q e := by
  unfold hset
  refine Prod.ext (funext fun x => ?_) rfl
  dsimp only
  by_cases hx : x = q
  · have : ¬ x = p := fun z => hp (z.symm.trans hx)
    rw [if_neg this, if_pos hx, if_pos hx]
  · rw [if_neg hx, if_neg hx]
/-! Records: nine cells from r on. -/
def tbl (t : Nat) (w c : Int) : va_E := .inr (6, [.int (iI w), .ref (t + 1), .int (iI c)])
def rco (r : Nat) (dy : Int) : va_E := .inr (5, [.int (iI dy), .ref (r + 1), .ref (r + 3), .ref (r + 5), .ref (r + 7)])
def wr (h : XH) (r : Nat) (dy nb : Int) (B : Int → Int) (nu : Int) (U : Int → Int) (np : Int) (P : Int → Int) (nf : Int) (F : Int → Int) : XH :=
  (fun q => if q = r then some (rco r dy) else if q = r + 1 then some (tbl (r + 1) 7 nb) else if q = r + 2 then some (nar 28 B) else if q = r + 3 then some (tbl (r + 3) 11 nu) else if q = r + 4 then some (nar 660 U)
    else if q = r + 5 then some (tbl (r + 5) 7 np) else if q = r + 6 then some (nar 280 P) else if q = r + 7 then some (tbl (r + 7) 1 nf) else if q = r + 8 then some (nar 40 F) else h.1 q, h.2)
section Wr
variable {h : XH} {r : Nat} {dy nb nu np nf : Int} {B U P F : Int → Int}
theorem hw_0 : hget (wr h r dy nb B nu U np P nf F) r = some (rco r dy) := by simp [hget, wr]
theorem hw_1 : hget (wr h r dy nb B nu U np P nf F) (r + 1) = some (tbl (r + 1) 7 nb) := by simp [hget, wr]
theorem hw_2 : hget (wr h r dy nb B nu U np P nf F) (r + 2) = some (nar 28 B) := by simp [hget, wr]
theorem hw_3 : hget (wr h r dy nb B nu U np P nf F) (r + 3) = some (tbl (r + 3) 11 nu) := by simp [hget, wr]
theorem hw_4 : hget (wr h r dy nb B nu U np P nf F) (r + 4) = some (nar 660 U) := by simp [hget, wr]
theorem hw_5 : hget (wr h r dy nb B nu U np P nf F) (r + 5) = some (tbl (r + 5) 7 np) := by simp [hget, wr]
theorem hw_6 : hget (wr h r dy nb B nu U np P nf F) (r + 6) = some (nar 280 P) := by simp [hget, wr]
theorem hw_7 : hget (wr h r dy nb B nu U np P nf F) (r + 7) = some (tbl (r + 7) 1 nf) := by simp [hget, wr]
theorem hw_8 : hget (wr h r dy nb B nu U np P nf F) (r + 8) = some (nar 40 F) := by simp [hget, wr]
theorem hw_n {q : Nat} (hq : q < r ∨ r + 9 ≤ q) : hget (wr h r dy nb B nu U np P nf F) q = hget h q := by
  unfold hget wr
  dsimp only
  rw [if_neg (by omega), if_neg (by omega), if_neg (by omega), if_neg (by omega), if_neg (by omega), if_neg (by omega), if_neg (by omega), if_neg (by omega), if_neg (by omega)]
theorem pw_0 {x : Int} : hset (wr h r dy nb B nu U np P nf F) r (rco r x) = wr h r x nb B nu U np P nf F := by
  unfold hset wr
  refine Prod.ext (funext fun q => ?_) rfl
  dsimp only
  by_cases h0 : q = r
  · rw [if_pos h0, if_pos h0]
  · rw [if_neg h0, if_neg h0, if_neg h0]
theorem pw_1 {x : Int} : hset (wr h r dy nb B nu U np P nf F) (r + 1) (tbl (r + 1) 7 x) = wr h r dy x B nu U np P nf F := by
  unfold hset wr
  refine Prod.ext (funext fun q => ?_) rfl
  dsimp only
  by_cases h0 : q = r + 1
  · subst h0
    simp
  · simp only [h0, if_false]
theorem pw_2 {X : Int → Int} : hset (wr h r dy nb B nu U np P nf F) (r + 2) (nar 28 X) = wr h r dy nb X nu U np P nf F := by
  unfold hset wr
  refine Prod.ext (funext fun q => ?_) rfl
  dsimp only
  by_cases h0 : q = r + 2
  · subst h0
    simp
  · simp only [h0, if_false]
theorem pw_3 {x : Int} : hset (wr h r dy nb B nu U np P nf F) (r + 3) (tbl (r + 3) 11 x) = wr h r dy nb B x U np P nf F := by
  unfold hset wr
  refine Prod.ext (funext fun q => ?_) rfl
  dsimp only
  by_cases h0 : q = r + 3
  · subst h0
    simp
  · simp only [h0, if_false]
theorem pw_4 {X : Int → Int} : hset (wr h r dy nb B nu U np P nf F) (r + 4) (nar 660 X) = wr h r dy nb B nu X np P nf F := by
  unfold hset wr
  refine Prod.ext (funext fun q => ?_) rfl
  dsimp only
  by_cases h0 : q = r + 4
  · subst h0
    simp
  · simp only [h0, if_false]
theorem pw_5 {x : Int} : hset (wr h r dy nb B nu U np P nf F) (r + 5) (tbl (r + 5) 7 x) = wr h r dy nb B nu U x P nf F := by
  unfold hset wr
  refine Prod.ext (funext fun q => ?_) rfl
  dsimp only
  by_cases h0 : q = r + 5
  · subst h0
    simp
  · simp only [h0, if_false]
theorem pw_6 {X : Int → Int} : hset (wr h r dy nb B nu U np P nf F) (r + 6) (nar 280 X) = wr h r dy nb B nu U np X nf F := by
  unfold hset wr
  refine Prod.ext (funext fun q => ?_) rfl
  dsimp only
  by_cases h0 : q = r + 6
  · subst h0
    simp
  · simp only [h0, if_false]
theorem pw_7 {x : Int} : hset (wr h r dy nb B nu U np P nf F) (r + 7) (tbl (r + 7) 1 x) = wr h r dy nb B nu U np P x F := by
  unfold hset wr
  refine Prod.ext (funext fun q => ?_) rfl
  dsimp only
  by_cases h0 : q = r + 7
  · subst h0
    simp
  · simp only [h0, if_false]
theorem pw_8 {X : Int → Int} : hset (wr h r dy nb B nu U np P nf F) (r + 8) (nar 40 X) = wr h r dy nb B nu U np P nf X := by
  unfold hset wr
  refine Prod.ext (funext fun q => ?_) rfl
  dsimp only
  by_cases h0 : q = r + 8
  · subst h0
    simp
  · simp only [h0, if_false]
end Wr
