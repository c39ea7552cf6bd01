/-! What relates the two sides between calls of the law. -/
def IVt (z : RT) : Prop := IV z.1 z.2.1 z.2.2.1 z.2.2.2.1 z.2.2.2.2.1 z.2.2.2.2.2.1 z.2.2.2.2.2.2.1 z.2.2.2.2.2.2.2.1 z.2.2.2.2.2.2.2.2
def MRt (G : Int → Int) (z : RT) : Prop := MR G z.1 z.2.1 z.2.2.1 z.2.2.2.1 z.2.2.2.2.1 z.2.2.2.2.2.1 z.2.2.2.2.2.2.1
/-- what can be undone -/
def HR (nx kp : Int) (pa : Int → RT) (A : Int → Int) : Prop := (0 ≤ nx ∧ nx < 8) ∧ (0 ≤ kp ∧ kp ≤ 8) ∧ ∀ i, 0 ≤ i → i < kp → IVt (pa ((nx + 16 - kp + i) % 8)) ∧ MRt (fun k => A (1092 * i + k)) (pa ((nx + 16 - kp + i) % 8))
def LPx (dy nb : Int) (B : Int → Int) (nu : Int) (U : Int → Int) (np : Int) (P : Int → Int) (nf : Int) (F : Int → Int) (nx kp : Int) (pa : Int → RT) (zs : RT) (sv lr le ln : Int) (ch : Int → Int) (rq : Int) (V G A S : Int → Int) (ke : Int) : Prop :=
  IV dy nb B nu U np P nf F ∧ MR G dy nb B nu U np P ∧ HR nx kp pa A ∧ (sv = 0 ∨ (sv = 1 ∧ IVt zs ∧ MRt S zs)) ∧ ((lr = -1 ∧ ke = 0) ∨ (lr = ke ∧ 1 ≤ ke ∧ ke ≤ 5)) ∧ (-1 ≤ le ∧ le ≤ 60) ∧ (0 ≤ ln ∧ ln ≤ 60) ∧ (∀ k, 0 ≤ ch k ∧ ch k < 65536) ∧ (0 ≤ rq ∧ rq ≤ 30) ∧ RU V
def LRx (H : XH) : Prop := ∃ (dy nb : Int) (B : Int → Int) (nu : Int) (U : Int → Int) (np : Int) (P : Int → Int) (nf : Int) (F : Int → Int) (nx kp : Int) (pa : Int → RT) (zr0 zs : RT) (sv lr le ln ps : Int) (ch : Int → Int) (rq : Int) (V G A S : Int → Int) (tw ke : Int) (ab pt rm : Int → Int) (en aa : Int) (iw : Int32) (kd n1 n2 n3 n4 : Int) (gd : Int32) (g : Nat → Int64) (g2 : Nat → UInt64),
  CW H dy nb B nu U np P nf F nx kp pa zr0 zs sv lr le ln ps ch rq V ∧ MWo H G A kp S (iI sv) tw ke le ch ln ab pt rm en aa iw kd n1 n2 n3 n4 gd ∧ hget H 117 = some (ola g) ∧ hget H 118 = some (oda g2) ∧ LPx dy nb B nu U np P nf F nx kp pa zs sv lr le ln ch rq V G A S ke
/-- the counters, and the script -/
def Fn (H H2 : XH) : Prop := H2.2.2.2.2 = H.2.2.2.2 ∧ H2.2.2.1 ≤ H.2.2.1 + 1 ∧ H2.2.2.2.1 ≤ H.2.2.2.1 + 6
section Lr
variable {d : Nat} {H K : XH} {dy nb nu np nf : Int} {B U P F : Int → Int} {nx kp : Int} {pa : Int → RT} {zr0 zs : RT} {sv lr le ln ps : Int} {ch : Int → Int} {rq : Int} {V : Int → Int} {Q : XO → XH → Prop} {i j x y z b f k t ia u p : Int}
variable {G A S : Int → Int} {tw ke : Int} {ab pt rm : Int → Int} {en aa : Int} {iw : Int32} {kd n1 n2 n3 n4 : Int} {gd : Int32} {g : Nat → Int64} {g2 : Nat → UInt64} {w : UInt64} {pm er ty : Int} {iv : Int32} {I : Int → Int} {e : va_E}
theorem LRx_mk (C : CW H dy nb B nu U np P nf F nx kp pa zr0 zs sv lr le ln ps ch rq V) (M : MWo H G A kp S (iI sv) tw ke le ch ln ab pt rm en aa iw kd n1 n2 n3 n4 gd) (h1 : hget H 117 = some (ola g)) (h2 : hget H 118 = some (oda g2)) (L : LPx dy nb B nu U np P nf F nx kp pa zs sv lr le ln ch rq V G A S ke) : LRx H :=
  ⟨dy, nb, B, nu, U, np, P, nf, F, nx, kp, pa, zr0, zs, sv, lr, le, ln, ps, ch, rq, V, G, A, S, tw, ke, ab, pt, rm, en, aa, iw, kd, n1, n2, n3, n4, gd, g, g2, C, M, h1, h2, L⟩
/-- behind the class's call and the helper's store -/
theorem st_cw (CK : CW K dy nb B nu U np P nf F nx kp pa zr0 zs sv lr le ln ps ch rq V) (hq : ∀ q, q < 109 → hget H q = hget K q) : CW H dy nb B nu U np P nf F nx kp pa zr0 zs sv lr le ln ps ch rq V := CW_cong hq CK
theorem st_out (C : CW K dy nb B nu U np P nf F nx kp pa zr0 zs sv lr le ln ps ch rq V) : CW (hset K 117 e) dy nb B nu U np P nf F nx kp pa zr0 zs sv lr le ln ps ch rq V := CW_cong (fun q h => hget_ne (by omega)) C
theorem st_outD (C : CW K dy nb B nu U np P nf F nx kp pa zr0 zs sv lr le ln ps ch rq V) : CW (hset K 118 e) dy nb B nu U np P nf F nx kp pa zr0 zs sv lr le ln ps ch rq V := CW_cong (fun q h => hget_ne (by omega)) C
theorem st_exc (C : CW K dy nb B nu U np P nf F nx kp pa zr0 zs sv lr le ln ps ch rq V) : CW (hexc K) dy nb B nu U np P nf F nx kp pa zr0 zs sv lr le ln ps ch rq V := CW_cong (fun q h => hexc_get) C
theorem st_wm {X : XH} (C : CW X dy nb B nu U np P nf F nx kp pa zr0 zs sv lr le ln ps ch rq V) : CW (wm X G A pm S iv tw ke er I ty ab pt rm en aa iw kd n1 n2 n3 n4 gd) dy nb B nu U np P nf F nx kp pa zr0 zs sv lr le ln ps ch rq V := CW_cong (fun q h => xmm_n (by omega)) C
theorem mo_hf (M : MWo H G A pm S iv tw ke er I ty ab pt rm en aa iw kd n1 n2 n3 n4 gd) (F : HF H K) : MWo K G A pm S iv tw ke er I ty ab pt rm en aa iw kd n1 n2 n3 n4 gd := MWo_cong (fun q h _ => F.1 q h) M
theorem mo_out (M : MWo K G A pm S iv tw ke er I ty ab pt rm en aa iw kd n1 n2 n3 n4 gd) : MWo (hset K 117 e) G A pm S iv tw ke er I ty ab pt rm en aa iw kd n1 n2 n3 n4 gd := MWo_cong (fun q h h' => hget_ne (by omega)) M
theorem mo_outD (M : MWo K G A pm S iv tw ke er I ty ab pt rm en aa iw kd n1 n2 n3 n4 gd) : MWo (hset K 118 e) G A pm S iv tw ke er I ty ab pt rm en aa iw kd n1 n2 n3 n4 gd := MWo_cong (fun q h h' => hget_ne (by omega)) M
theorem mo_exc (M : MWo K G A pm S iv tw ke er I ty ab pt rm en aa iw kd n1 n2 n3 n4 gd) : MWo (hexc K) G A pm S iv tw ke er I ty ab pt rm en aa iw kd n1 n2 n3 n4 gd := MWo_cong (fun q h h' => hexc_get) M
theorem mo_h9 (M : MWo K G A pm S iv tw ke er I ty ab pt rm en aa iw kd n1 n2 n3 n4 gd) : ∃ fs, hget K 109 = some (.inr (9, fs)) := ⟨_, MWo_109 M⟩
theorem mo_tw {X : XH} (Q : XO → XH → Prop) : Call 12 m_X8_thrown [.ref 109] (wm X G A pm S iv tw ke er I ty ab pt rm en aa iw kd n1 n2 n3 n4 gd) Q = Q (.inl (some (.int (iI tw)))) (wm X G A pm S iv tw ke er I ty ab pt rm en aa iw kd n1 n2 n3 n4 gd) := m_thrown
theorem wm_2 {X : XH} : (wm X G A pm S iv tw ke er I ty ab pt rm en aa iw kd n1 n2 n3 n4 gd).2 = X.2 := rfl
end Lr
/-! The rings. -/
theorem tm8 {x : Int} (h : 0 ≤ x) : x.tmod 8 = x % 8 := Int.tmod_eq_emod_of_nonneg h
theorem pm_ring {kp : Int} (h : 0 ≤ kp ∧ kp ≤ 8) : pmN kp = ring kp := by
  unfold pmN ring
  split <;> split <;> omega
theorem MR_cong {G G' : Int → Int} {dy nb : Int} {B : Int → Int} {nu : Int} {U : Int → Int} {np : Int} {P : Int → Int} {nf : Int} {F : Int → Int} (I : IV dy nb B nu U np P nf F) (h : ∀ k, 0 ≤ k → k < 1092 → G' k = G k) (R : MR G dy nb B nu U np P) : MR G' dy nb B nu U np P := by
  obtain ⟨R0, R1, R2, R3, RB, RUU, RP⟩ := R
  obtain ⟨W, iB0, _⟩ := I
  obtain ⟨d1, hb, hu, hnp, _⟩ := W
  refine ⟨by rw [h 0 (by omega) (by omega)]; exact R0, by rw [h 1 (by omega) (by omega)]; exact R1, by rw [h 2 (by omega) (by omega)]; exact R2, by rw [h 3 (by omega) (by omega)]; exact R3, fun b b0 b1 => ⟨by rw [h _ (by omega) (by omega)]; exact (RB b b0 b1).1, fun f f0 f1 => ?_⟩, fun u j a b c d => by rw [h _ (by omega) (by omega)]; exact RUU u j a b c d, fun p j a b c d => by rw [h _ (by omega) (by omega)]; exact RP p j a b c d⟩
  have := iB0.2 b
  rw [h _ (by omega) (by omega)]
  exact (RB b b0 b1).2 f f0 f1
theorem HR_keep {nx kp : Int} {pa : Int → RT} {A G : Int → Int} {dy nb : Int} {B : Int → Int} {nu : Int} {U : Int → Int} {np : Int} {P : Int → Int} {nf : Int} {F : Int → Int} (h : HR nx kp pa A) (I : IV dy nb B nu U np P nf F) (R : MR G dy nb B nu U np P) : HR ((nx + 1).tmod 8) (ring kp) (fun j => if j = nx then (dy, nb, B, nu, U, np, P, nf, F) else pa j) (pmA A kp G) := by
  obtain ⟨hn, hk, hh⟩ := h
  rw [tm8 (by omega)]
  have hr : 0 ≤ ring kp ∧ ring kp ≤ 8 := by unfold ring; split <;> omega
  refine ⟨by omega, hr, fun i i0 i1 => ?_⟩
  by_cases c8 : kp = 8
  · have er : ring kp = 8 := by unfold ring; rw [if_pos (by omega)]
    rw [er] at i1 ⊢
    have ea : pmA A kp G = put1 (sh8 A) 7 G 1092 := by unfold pmA; rw [if_pos c8]
    rw [ea]
    by_cases c : i = 7
    · have e : ((nx + 1) % 8 + 16 - 8 + i) % 8 = nx := by omega
      rw [e]
      dsimp only
      rw [if_pos rfl]
      refine ⟨I, MR_cong I (fun k k0 k1 => ?_) R⟩
      unfold put1
      rw [if_pos (by omega), show 1092 * i + k - 1092 * 7 = k by omega]
    · have e : ((nx + 1) % 8 + 16 - 8 + i) % 8 = (nx + 16 - kp + (i + 1)) % 8 := by omega
      have ne : ¬ (nx + 16 - kp + (i + 1)) % 8 = nx := by omega
      rw [e]
      dsimp only
      rw [if_neg ne]
      have y := hh (i + 1) (by omega) (by omega)
      refine ⟨y.1, MR_cong y.1 (fun k k0 k1 => ?_) y.2⟩
      unfold put1
      rw [if_neg (by omega)]
      unfold sh8
      rw [cpp_in _ (by omega) (by omega), show 1092 * i + k + 1092 = 1092 * (i + 1) + k by omega]
  · have er : ring kp = kp + 1 := by unfold ring; rw [if_neg (by omega)]
    rw [er] at i1 ⊢
    have ea : pmA A kp G = put1 A kp G 1092 := by unfold pmA; rw [if_neg c8]
    rw [ea]
    by_cases c : i = kp
    · have e : ((nx + 1) % 8 + 16 - (kp + 1) + i) % 8 = nx := by omega
      rw [e]
      dsimp only
      rw [if_pos rfl]
      refine ⟨I, MR_cong I (fun k k0 k1 => ?_) R⟩
      unfold put1
      rw [if_pos (by rw [c]; omega), show 1092 * i + k - 1092 * kp = k by rw [c]; omega]
    · have e : ((nx + 1) % 8 + 16 - (kp + 1) + i) % 8 = (nx + 16 - kp + i) % 8 := by omega
      have ne : ¬ (nx + 16 - kp + i) % 8 = nx := by omega
      rw [e]
      dsimp only
      rw [if_neg ne]
      have y := hh i i0 (by omega)
      refine ⟨y.1, MR_cong y.1 (fun k k0 k1 => ?_) y.2⟩
      unfold put1
      rw [if_neg (by omega)]
theorem HR_undo {nx kp : Int} {pa : Int → RT} {A : Int → Int} (h : HR nx kp pa A) (hk : 0 < kp) : HR ((nx + 8 - 1).tmod 8) (kp - 1) pa A ∧ IVt (pa ((nx + 8 - 1).tmod 8)) ∧ MRt (fun k => A (1092 * (kp - 1) + k)) (pa ((nx + 8 - 1).tmod 8)) := by
  obtain ⟨hn, hk2, hh⟩ := h
  rw [tm8 (by omega)]
  refine ⟨⟨by omega, by omega, fun i i0 i1 => ?_⟩, ?_⟩
  · have e : ((nx + 8 - 1) % 8 + 16 - (kp - 1) + i) % 8 = (nx + 16 - kp + i) % 8 := by omega
    rw [e]
    exact hh i i0 (by omega)
  · have e : (nx + 16 - kp + (kp - 1)) % 8 = (nx + 8 - 1) % 8 := by omega
    have y := hh (kp - 1) (by omega) (by omega)
    rw [e] at y
    exact y
theorem HR_0 {nx : Int} {pa : Int → RT} {A : Int → Int} (hn : 0 ≤ nx ∧ nx < 8) : HR nx 0 pa A := ⟨hn, by omega, fun i a b => by omega⟩
