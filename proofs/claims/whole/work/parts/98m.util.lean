/-! Small things for the steps. -/
theorem nn_bits {x : UInt64} (h : FP.Core.dIsNaN x = false) : x &&& 0x7fffffffffffffff ≤ 0x7ff0000000000000 := by
  have a : ¬ 9218868437227405312 < x.toNat % 2 ^ 63 := by
    rw [← FP.Core.isNaN_bits, h]
    decide
  rw [UInt64.le_iff_toNat_le, UInt64.toNat_and]
  rw [show (0x7fffffffffffffff : UInt64).toNat = 2 ^ 63 - 1 from rfl, Nat.and_two_pow_sub_one_eq_mod]
  show x.toNat % 2 ^ 63 ≤ 9218868437227405312
  omega
theorem mean_nn {a b : Int} (hb : 0 < b ∧ b < 2147483648) : FP.ddiv (FP.i2d (iI a)) (FP.i2d (iI b)) &&& 0x7fffffffffffffff ≤ 0x7ff0000000000000 := by
  rw [FP.i2d_core, FP.ddiv_core]
  refine nn_bits ?_
  have fa := FP.Core.i2d_fin (iI a)
  have fb := FP.Core.i2d_fin (iI b)
  refine FP.Core.ddiv_out ?_ fb ?_
  · rw [FP.Core.fin_bits] at fa
    rw [← Bool.not_eq_true, FP.Core.isNaN_bits]
    omega
  · rw [FP.Core.zero_bits2]
    refine FP.Core.i2d_ne_zero ?_
    intro e
    have := iI_eq (a := b) (b := 0) (by omega) (by omega)
    rw [show (0 : Int32) = iI 0 from rfl, this] at e
    omega
theorem ch_val (x : Int32) : ∃ y : Int, (x.toUInt32 % 65536).toInt32 = iI y ∧ 0 ≤ y ∧ y < 65536 := by
  have h : (x.toUInt32 % 65536).toNat < 65536 := by
    rw [UInt32.toNat_mod]
    exact Nat.mod_lt _ (by decide)
  have e : ((x.toUInt32 % 65536).toInt32).toInt = ((x.toUInt32 % 65536).toNat : Int) := by
    show (x.toUInt32 % 65536).toBitVec.toInt = _
    rw [BitVec.toInt_eq_toNat_of_lt (by
      show 2 * (x.toUInt32 % 65536).toNat < 2 ^ 32
      omega)]
    rfl
  refine ⟨((x.toUInt32 % 65536).toInt32).toInt, (iI_of _).symm, ?_, ?_⟩
  · rw [e]; omega
  · rw [e]; omega
theorem call_det {α : Type} {d : Nat} {M : XM} {As : List Value} {h : XH} {v : XO} {hX : α → XH} (H : ∀ Q : XO → XH → Prop, ∃ X, Call d M As h Q = Q v (hX X)) : ∃ X, ∀ Q : XO → XH → Prop, Call d M As h Q = Q v (hX X) := by
  obtain ⟨X0, e0⟩ := H (fun o h2 => ∃ X, o = v ∧ h2 = hX X)
  have c : Call d M As h (fun o h2 => ∃ X, o = v ∧ h2 = hX X) := by
    rw [e0]
    exact ⟨X0, rfl, rfl⟩
  obtain ⟨f, o, h2, he, X, rfl, rfl⟩ := c
  refine ⟨X, fun Q => propext ⟨?_, fun hq => ⟨f, _, _, he, hq⟩⟩⟩
  rintro ⟨f', o', h2', he', hq⟩
  have a := ex_mono (Nat.le_max_left f f') he
  have b := ex_mono (Nat.le_max_right f f') he'
  rw [a] at b
  cases b
  exact hq
section Ut
variable {d : Nat} {H K : XH} {dy nb nu np nf : Int} {B U P F : Int → Int} {nx kp : Int} {pa : Int → RT} {zr0 zs : RT} {sv lr le ln ps : Int} {ch : Int → Int} {rq : Int} {V : Int → Int} {Q : XO → XH → Prop} {i j x y z b f k t ia u p : Int}
variable {G A S : Int → Int} {tw ke : Int}
variable {dy' nb' : Int} {B' : Int → Int} {nu' : Int} {U' : Int → Int} {np' : Int} {P' : Int → Int} {nf' : Int} {F' G' : Int → Int} {rq' ln' le' : Int} {V' : Int → Int}
theorem LP_keep (L : LPx dy nb B nu U np P nf F nx kp pa zs sv lr le ln ch rq V G A S ke) (I' : IV dy' nb' B' nu' U' np' P' nf' F') (R' : MR G' dy' nb' B' nu' U' np' P') : LPx dy' nb' B' nu' U' np' P' nf' F' ((nx + 1).tmod 8) (ring kp) (fun j => if j = nx then (dy, nb, B, nu, U, np, P, nf, F) else pa j) zs sv lr le ln ch rq V G' (pmA A kp G) S ke := by
  obtain ⟨I, R, hr, hs, r⟩ := L
  exact ⟨I', R', HR_keep hr I R, hs, r⟩
theorem LP_rq (L : LPx dy nb B nu U np P nf F nx kp pa zs sv lr le ln ch rq V G A S ke) (h : 0 ≤ rq' ∧ rq' ≤ 30) (hV : RU V') : LPx dy nb B nu U np P nf F nx kp pa zs sv lr le ln ch rq' V' G A S ke := by
  obtain ⟨I, R, hr, hs, hk, hle, hln, hch, _, _⟩ := L
  exact ⟨I, R, hr, hs, hk, hle, hln, hch, h, hV⟩
theorem LP_ln (L : LPx dy nb B nu U np P nf F nx kp pa zs sv lr le ln ch rq V G A S ke) (h : 0 ≤ ln' ∧ ln' ≤ 60) : LPx dy nb B nu U np P nf F nx kp pa zs sv lr le ln' ch rq V G A S ke := by
  obtain ⟨I, R, hr, hs, hk, hle, hln, hch, a, b⟩ := L
  exact ⟨I, R, hr, hs, hk, hle, h, hch, a, b⟩
theorem LP_le (L : LPx dy nb B nu U np P nf F nx kp pa zs sv lr le ln ch rq V G A S ke) (h : -1 ≤ le' ∧ le' ≤ 60) : LPx dy nb B nu U np P nf F nx kp pa zs sv lr le' ln ch rq V G A S ke := by
  obtain ⟨I, R, hr, hs, hk, hle, hln, hch, a, b⟩ := L
  exact ⟨I, R, hr, hs, hk, h, hln, hch, a, b⟩
end Ut
