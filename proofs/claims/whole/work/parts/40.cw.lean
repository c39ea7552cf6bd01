set_option maxRecDepth 20000
/-! The class's world. -/
abbrev RT : Type := Int × Int × (Int → Int) × Int × (Int → Int) × Int × (Int → Int) × Int × (Int → Int)
def RAt (H : XH) (r : Nat) (z : RT) : Prop := RA H r z.1 z.2.1 z.2.2.1 z.2.2.2.1 z.2.2.2.2.1 z.2.2.2.2.2.1 z.2.2.2.2.2.2.1 z.2.2.2.2.2.2.2.1 z.2.2.2.2.2.2.2.2
def wrt (H : XH) (r : Nat) (z : RT) : XH := wr H r z.1 z.2.1 z.2.2.1 z.2.2.2.1 z.2.2.2.2.1 z.2.2.2.2.2.1 z.2.2.2.2.2.2.1 z.2.2.2.2.2.2.2.1 z.2.2.2.2.2.2.2.2
/-- an array of n chars -/
def car (n : Nat) (g : Int → Int) : va_E := .inl (2, n, .inl fun k => iI (if (k : Int) < n then g k else 0))
def bco (sv lr le : Int) : va_E := .inr (8, [.ref 1, .ref 10, .ref 11, .ref 12, .ref 86, .ref 95, .ref 96, .ref 105, .ref 107, .int (iI sv), .int (iI lr), .int (iI le)])
def hio (nx kp : Int) : va_E := .inr (3, [.ref 13, .int (iI nx), .int (iI kp)])
def ino (ln ps : Int) : va_E := .inr (4, [.ref 106, .int (iI ln), .int (iI ps)])
def par : va_E := .inl (5, 8, .inr (.inr (.inr (.inr fun i => if i < 8 then some (14 + 9 * i) else none))))
def CW (H : XH) (dy nb : Int) (B : Int → Int) (nu : Int) (U : Int → Int) (np : Int) (P : Int → Int) (nf : Int) (F : Int → Int) (nx kp : Int) (pa : Int → RT) (zr0 zs : RT) (sv lr le ln ps : Int) (ch : Int → Int) (rq : Int) (V : Int → Int) : Prop :=
  RA H 1 dy nb B nu U np P nf F ∧ hget H 0 = some (bco sv lr le) ∧ hget H 10 = some (.inr (7, [.ref 1])) ∧ hget H 11 = some (.inr (2, [.ref 1])) ∧ hget H 12 = some (hio nx kp) ∧ hget H 13 = some par ∧
  (∀ i : Int, 0 ≤ i → i < 8 → RAt H (14 + 9 * i.toNat) (pa i)) ∧ RAt H 86 zr0 ∧ hget H 95 = some (.inr (7, [.ref 86])) ∧ RAt H 96 zs ∧ hget H 105 = some (ino ln ps) ∧ hget H 106 = some (car 60 ch) ∧ TA H 107 150 5 rq V
/-- what is not the class's is as it was -/
def HF (H K : XH) : Prop := (∀ q, 109 ≤ q → hget K q = hget H q) ∧ K.2 = H.2
theorem HF_refl {H : XH} : HF H H := ⟨fun _ _ => rfl, rfl⟩
theorem HF_trans {H K L : XH} (a : HF H K) (b : HF K L) : HF H L := ⟨fun q h => (b.1 q h).trans (a.1 q h), b.2.trans a.2⟩
theorem HF_wr {H : XH} {r : Nat} {dy nb nu np nf : Int} {B U P F : Int → Int} (hr : r ≤ 100) : HF H (wr H r dy nb B nu U np P nf F) := ⟨fun q h => hw_n (by omega), rfl⟩
theorem HF_set {H : XH} {q : Nat} {e : va_E} (hq : q < 109) : HF H (hset H q e) := ⟨fun p h => hget_ne (by omega), rfl⟩
section Cw
variable {d : Nat} {H K : XH} {dy nb nu np nf : Int} {B U P F : Int → Int} {nx kp : Int} {pa : Int → RT} {zr0 zs : RT} {sv lr le ln ps : Int} {ch : Int → Int} {rq : Int} {V : Int → Int} {Q : XO → XH → Prop} {i j x y z b f k t ia u p : Int}
theorem RA_same {r : Nat} {dy' nb' nu' np' nf' : Int} {B' U' P' F' : Int → Int} (A : RA H r dy nb B nu U np P nf F) (e : dy = dy' ∧ nb = nb' ∧ B = B' ∧ nu = nu' ∧ U = U' ∧ np = np' ∧ P = P' ∧ nf = nf' ∧ F = F') : RA H r dy' nb' B' nu' U' np' P' nf' F' := by
  obtain ⟨rfl, rfl, rfl, rfl, rfl, rfl, rfl, rfl, rfl⟩ := e
  exact A
theorem RAt_ne {r o : Nat} {w : RT} (A : RAt H o w) (ho : o + 9 ≤ r ∨ r + 9 ≤ o) : RAt (wr H r dy nb B nu U np P nf F) o w := RA_ne A ho
theorem RAt_hset {q o : Nat} {e : va_E} {w : RT} (A : RAt H o w) (ho : q < o ∨ o + 9 ≤ q) : RAt (hset H q e) o w := RA_hset A ho
/-- other numbers in the present records -/
theorem CW_now {dy' nb' nu' np' nf' : Int} {B' U' P' F' : Int → Int} (C : CW H dy nb B nu U np P nf F nx kp pa zr0 zs sv lr le ln ps ch rq V) : CW (wr H 1 dy' nb' B' nu' U' np' P' nf' F') dy' nb' B' nu' U' np' P' nf' F' nx kp pa zr0 zs sv lr le ln ps ch rq V := by
  obtain ⟨c0, c1, c2, c3, c4, c5, c6, c7, c8, c9, c10, c11, c12⟩ := C
  refine ⟨RA_wr, ?_, ?_, ?_, ?_, ?_, fun i h0 h1 => RAt_ne (c6 i h0 h1) (by omega), RAt_ne c7 (by omega), ?_, RAt_ne c9 (by omega), ?_, ?_, TA_wr c12 (by omega)⟩
  all_goals
    rw [hw_n (by omega)]
    assumption
/-- an object that is not the Records' -/
theorem CW_bc {sv' lr' le' : Int} (C : CW H dy nb B nu U np P nf F nx kp pa zr0 zs sv lr le ln ps ch rq V) : CW (hset H 0 (bco sv' lr' le')) dy nb B nu U np P nf F nx kp pa zr0 zs sv' lr' le' ln ps ch rq V := by
  obtain ⟨c0, c1, c2, c3, c4, c5, c6, c7, c8, c9, c10, c11, c12⟩ := C
  refine ⟨RA_hset c0 (by omega), hget_set, ?_, ?_, ?_, ?_, fun i h0 h1 => RAt_hset (c6 i h0 h1) (by omega), RAt_hset c7 (by omega), ?_, RAt_hset c9 (by omega), ?_, ?_, ?_, ?_⟩
  all_goals
    rw [hget_ne (by omega)]
    first
      | assumption
      | exact c12.1
      | exact c12.2
theorem CW_hi {nx' kp' : Int} (C : CW H dy nb B nu U np P nf F nx kp pa zr0 zs sv lr le ln ps ch rq V) : CW (hset H 12 (hio nx' kp')) dy nb B nu U np P nf F nx' kp' pa zr0 zs sv lr le ln ps ch rq V := by
  obtain ⟨c0, c1, c2, c3, c4, c5, c6, c7, c8, c9, c10, c11, c12⟩ := C
  refine ⟨RA_hset c0 (by omega), ?_, ?_, ?_, hget_set, ?_, fun i h0 h1 => RAt_hset (c6 i h0 h1) (by omega), RAt_hset c7 (by omega), ?_, RAt_hset c9 (by omega), ?_, ?_, ?_, ?_⟩
  all_goals
    rw [hget_ne (by omega)]
    first
      | assumption
      | exact c12.1
      | exact c12.2
theorem CW_in {ln' ps' : Int} (C : CW H dy nb B nu U np P nf F nx kp pa zr0 zs sv lr le ln ps ch rq V) : CW (hset H 105 (ino ln' ps')) dy nb B nu U np P nf F nx kp pa zr0 zs sv lr le ln' ps' ch rq V := by
  obtain ⟨c0, c1, c2, c3, c4, c5, c6, c7, c8, c9, c10, c11, c12⟩ := C
  refine ⟨RA_hset c0 (by omega), ?_, ?_, ?_, ?_, ?_, fun i h0 h1 => RAt_hset (c6 i h0 h1) (by omega), RAt_hset c7 (by omega), ?_, RAt_hset c9 (by omega), hget_set, ?_, ?_, ?_⟩
  all_goals
    rw [hget_ne (by omega)]
    first
      | assumption
      | exact c12.1
      | exact c12.2
theorem CW_ch {ch' : Int → Int} (C : CW H dy nb B nu U np P nf F nx kp pa zr0 zs sv lr le ln ps ch rq V) : CW (hset H 106 (car 60 ch')) dy nb B nu U np P nf F nx kp pa zr0 zs sv lr le ln ps ch' rq V := by
  obtain ⟨c0, c1, c2, c3, c4, c5, c6, c7, c8, c9, c10, c11, c12⟩ := C
  refine ⟨RA_hset c0 (by omega), ?_, ?_, ?_, ?_, ?_, fun i h0 h1 => RAt_hset (c6 i h0 h1) (by omega), RAt_hset c7 (by omega), ?_, RAt_hset c9 (by omega), ?_, hget_set, ?_, ?_⟩
  all_goals
    rw [hget_ne (by omega)]
    first
      | assumption
      | exact c12.1
      | exact c12.2
theorem CW_rq {rq' : Int} {V' : Int → Int} (C : CW H dy nb B nu U np P nf F nx kp pa zr0 zs sv lr le ln ps ch rq V) : CW (hset (hset H 107 (tbl 107 5 rq')) 108 (nar 150 V')) dy nb B nu U np P nf F nx kp pa zr0 zs sv lr le ln ps ch rq' V' := by
  obtain ⟨c0, c1, c2, c3, c4, c5, c6, c7, c8, c9, c10, c11, c12⟩ := C
  refine ⟨RA_hset (RA_hset c0 (by omega)) (by omega), ?_, ?_, ?_, ?_, ?_, fun i h0 h1 => RAt_hset (RAt_hset (c6 i h0 h1) (by omega)) (by omega), RAt_hset (RAt_hset c7 (by omega)) (by omega), ?_, RAt_hset (RAt_hset c9 (by omega)) (by omega), ?_, ?_, ?_, hget_set⟩
  all_goals
    rw [hget_ne (by omega)]
    first
      | exact hget_set
      | (rw [hget_ne (by omega)]; assumption)
theorem CW_re {dy' nb' nu' np' nf' : Int} {B' U' P' F' : Int → Int} (C : CW H dy nb B nu U np P nf F nx kp pa zr0 zs sv lr le ln ps ch rq V) : CW (wr H 86 dy' nb' B' nu' U' np' P' nf' F') dy nb B nu U np P nf F nx kp pa (dy', nb', B', nu', U', np', P', nf', F') zs sv lr le ln ps ch rq V := by
  obtain ⟨c0, c1, c2, c3, c4, c5, c6, c7, c8, c9, c10, c11, c12⟩ := C
  refine ⟨RA_ne c0 (by omega), ?_, ?_, ?_, ?_, ?_, fun i h0 h1 => RAt_ne (c6 i h0 h1) (by omega), RA_wr, ?_, RAt_ne c9 (by omega), ?_, ?_, TA_wr c12 (by omega)⟩
  all_goals
    rw [hw_n (by omega)]
    assumption
theorem CW_sa {dy' nb' nu' np' nf' : Int} {B' U' P' F' : Int → Int} (C : CW H dy nb B nu U np P nf F nx kp pa zr0 zs sv lr le ln ps ch rq V) : CW (wr H 96 dy' nb' B' nu' U' np' P' nf' F') dy nb B nu U np P nf F nx kp pa zr0 (dy', nb', B', nu', U', np', P', nf', F') sv lr le ln ps ch rq V := by
  obtain ⟨c0, c1, c2, c3, c4, c5, c6, c7, c8, c9, c10, c11, c12⟩ := C
  refine ⟨RA_ne c0 (by omega), ?_, ?_, ?_, ?_, ?_, fun i h0 h1 => RAt_ne (c6 i h0 h1) (by omega), RAt_ne c7 (by omega), ?_, RA_wr, ?_, ?_, TA_wr c12 (by omega)⟩
  all_goals
    rw [hw_n (by omega)]
    assumption
theorem CW_pa {dy' nb' nu' np' nf' : Int} {B' U' P' F' : Int → Int} (hi : 0 ≤ i ∧ i < 8) (C : CW H dy nb B nu U np P nf F nx kp pa zr0 zs sv lr le ln ps ch rq V) : CW (wr H (14 + 9 * i.toNat) dy' nb' B' nu' U' np' P' nf' F') dy nb B nu U np P nf F nx kp (fun j => if j = i then (dy', nb', B', nu', U', np', P', nf', F') else pa j) zr0 zs sv lr le ln ps ch rq V := by
  obtain ⟨c0, c1, c2, c3, c4, c5, c6, c7, c8, c9, c10, c11, c12⟩ := C
  refine ⟨RA_ne c0 (by omega), ?_, ?_, ?_, ?_, ?_, fun j h0 h1 => ?_, RAt_ne c7 (by omega), ?_, RAt_ne c9 (by omega), ?_, ?_, TA_wr c12 (by omega)⟩
  case refine_6 =>
    show RAt _ _ (if j = i then (dy', nb', B', nu', U', np', P', nf', F') else pa j)
    by_cases c : j = i
    · subst c
      rw [if_pos rfl]
      exact RA_wr
    · rw [if_neg c]
      exact RAt_ne (c6 j h0 h1) (by omega)
  all_goals
    rw [hw_n (by omega)]
    assumption
end Cw
