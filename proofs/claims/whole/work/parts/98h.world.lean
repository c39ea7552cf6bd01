/-! Both worlds in one heap. -/
theorem RA_of {h : XH} {r : Nat} {dy nb nu np nf : Int} {B U P F : Int → Int} (h0 : hget h r = some (rco r dy)) (h1 : hget h (r + 1) = some (tbl (r + 1) 7 nb)) (h2 : hget h (r + 2) = some (nar 28 B)) (h3 : hget h (r + 3) = some (tbl (r + 3) 11 nu)) (h4 : hget h (r + 4) = some (nar 660 U)) (h5 : hget h (r + 5) = some (tbl (r + 5) 7 np)) (h6 : hget h (r + 6) = some (nar 280 P)) (h7 : hget h (r + 7) = some (tbl (r + 7) 1 nf)) (h8 : hget h (r + 8) = some (nar 40 F)) : RA h r dy nb B nu U np P nf F := by
  unfold RA
  apply xh_ext
  · intro q
    by_cases c : q < r ∨ r + 9 ≤ q
    · exact hw_n c
    · have : q = r ∨ q = r + 1 ∨ q = r + 2 ∨ q = r + 3 ∨ q = r + 4 ∨ q = r + 5 ∨ q = r + 6 ∨ q = r + 7 ∨ q = r + 8 := by omega
      rcases this with rfl | rfl | rfl | rfl | rfl | rfl | rfl | rfl | rfl
      · rw [hw_0, h0]
      · rw [hw_1, h1]
      · rw [hw_2, h2]
      · rw [hw_3, h3]
      · rw [hw_4, h4]
      · rw [hw_5, h5]
      · rw [hw_6, h6]
      · rw [hw_7, h7]
      · rw [hw_8, h8]
  · rfl
theorem RA_cong {h k : XH} {r : Nat} {dy nb nu np nf : Int} {B U P F : Int → Int} (e : ∀ q, r ≤ q → q < r + 9 → hget k q = hget h q) (A : RA h r dy nb B nu U np P nf F) : RA k r dy nb B nu U np P nf F := by
  refine RA_of ?_ ?_ ?_ ?_ ?_ ?_ ?_ ?_ ?_
  · rw [e _ (by omega) (by omega)]; exact RA_0 A
  · rw [e _ (by omega) (by omega)]; exact RA_1 A
  · rw [e _ (by omega) (by omega)]; exact RA_2 A
  · rw [e _ (by omega) (by omega)]; exact RA_3 A
  · rw [e _ (by omega) (by omega)]; exact RA_4 A
  · rw [e _ (by omega) (by omega)]; exact RA_5 A
  · rw [e _ (by omega) (by omega)]; exact RA_6 A
  · rw [e _ (by omega) (by omega)]; exact RA_7 A
  · rw [e _ (by omega) (by omega)]; exact RA_8 A
section Cw
variable {d : Nat} {H K : XH} {dy nb nu np nf : Int} {B U P F : Int → Int} {nx kp : Int} {pa : Int → RT} {zr0 zs : RT} {sv lr le ln ps : Int} {ch : Int → Int} {rq : Int} {V : Int → Int} {Q : XO → XH → Prop} {i j x y z b f k t ia u p : Int}
theorem CW_cong (e : ∀ q, q < 109 → hget K q = hget H q) (C : CW H dy nb B nu U np P nf F nx kp pa zr0 zs sv lr le ln ps ch rq V) : CW K dy nb B nu U np P nf F nx kp pa zr0 zs sv lr le ln ps ch rq V := by
  obtain ⟨a1, a2, a3, a4, a5, a6, a7, a8, a9, a10, a11, a12, a13⟩ := C
  refine ⟨RA_cong (fun q _ b => e q (by omega)) a1, by rw [e _ (by omega)]; exact a2, by rw [e _ (by omega)]; exact a3, by rw [e _ (by omega)]; exact a4, by rw [e _ (by omega)]; exact a5, by rw [e _ (by omega)]; exact a6, fun i b c => RA_cong (fun q _ d => e q (by omega)) (a7 i b c), RA_cong (fun q _ b => e q (by omega)) a8, by rw [e _ (by omega)]; exact a9, RA_cong (fun q _ b => e q (by omega)) a10, by rw [e _ (by omega)]; exact a11, by rw [e _ (by omega)]; exact a12, ?_⟩
  exact ⟨by rw [e _ (by omega)]; exact a13.1, by rw [e _ (by omega)]; exact a13.2⟩
theorem CW_W1 (C : CW H dy nb B nu U np P nf F nx kp pa zr0 zs sv lr le ln ps ch rq V) : wr H 1 dy nb B nu U np P nf F = H := C.1
end Cw
section Mw
variable {d : Nat} {h : XH} {G A : Int → Int} {pm : Int} {S : Int → Int} {iv : Int32} {tw ke er : Int} {I : Int → Int} {ty : Int} {ab pt rm : Int → Int} {en aa : Int} {iw : Int32} {kd n1 n2 n3 n4 : Int} {gd : Int32} {Q : XO → XH → Prop} {dy nb nu np nf : Int} {B U P F : Int → Int} {b f u p i j x y z t k : Int}
variable {K : XH}
/-- the Model's cells hold these numbers -/
def MWo (h : XH) (G A : Int → Int) (pm : Int) (S : Int → Int) (iv : Int32) (tw ke er : Int) (I : Int → Int) (ty : Int) (ab pt rm : Int → Int) (en aa : Int) (iw : Int32) (kd n1 n2 n3 n4 : Int) (gd : Int32) : Prop := wm h G A pm S iv tw ke er I ty ab pt rm en aa iw kd n1 n2 n3 n4 gd = h
theorem MWo_of (h0 : hget h 109 = some (mob pm iv tw ke er ty en aa iw kd n1 n2 n3 n4 gd)) (h1 : hget h 110 = some (nar 1092 G)) (h2 : hget h 111 = some (nar 8736 A)) (h3 : hget h 112 = some (nar 1092 S)) (h4 : hget h 113 = some (car 60 I)) (h5 : hget h 114 = some (bar 60 ab)) (h6 : hget h 115 = some (nar 5 pt)) (h7 : hget h 116 = some (nar 5 rm)) : MWo h G A pm S iv tw ke er I ty ab pt rm en aa iw kd n1 n2 n3 n4 gd := by
  unfold MWo
  apply xh_ext
  · intro q
    by_cases c : q < 109 ∨ 117 ≤ q
    · exact xmm_n c
    · have : q = 109 ∨ q = 110 ∨ q = 111 ∨ q = 112 ∨ q = 113 ∨ q = 114 ∨ q = 115 ∨ q = 116 := by omega
      rcases this with rfl | rfl | rfl | rfl | rfl | rfl | rfl | rfl
      · rw [xm_109, h0]; rfl
      · rw [xm_110, h1]
      · rw [xm_111, h2]
      · rw [xm_112, h3]
      · rw [xm_113, h4]
      · rw [xm_114, h5]
      · rw [xm_115, h6]
      · rw [xm_116, h7]
  · rfl
theorem MWo_cong (e : ∀ q, 109 ≤ q → q < 117 → hget K q = hget h q) (M : MWo h G A pm S iv tw ke er I ty ab pt rm en aa iw kd n1 n2 n3 n4 gd) : MWo K G A pm S iv tw ke er I ty ab pt rm en aa iw kd n1 n2 n3 n4 gd := by
  unfold MWo at M
  refine MWo_of ?_ ?_ ?_ ?_ ?_ ?_ ?_ ?_
  · rw [e _ (by omega) (by omega), ← M, xm_109]; rfl
  · rw [e _ (by omega) (by omega), ← M, xm_110]
  · rw [e _ (by omega) (by omega), ← M, xm_111]
  · rw [e _ (by omega) (by omega), ← M, xm_112]
  · rw [e _ (by omega) (by omega), ← M, xm_113]
  · rw [e _ (by omega) (by omega), ← M, xm_114]
  · rw [e _ (by omega) (by omega), ← M, xm_115]
  · rw [e _ (by omega) (by omega), ← M, xm_116]
theorem MWo_wm : MWo (wm h G A pm S iv tw ke er I ty ab pt rm en aa iw kd n1 n2 n3 n4 gd) G A pm S iv tw ke er I ty ab pt rm en aa iw kd n1 n2 n3 n4 gd := by
  unfold MWo
  exact wm_wm
theorem MWo_109 (M : MWo h G A pm S iv tw ke er I ty ab pt rm en aa iw kd n1 n2 n3 n4 gd) : hget h 109 = some (mob pm iv tw ke er ty en aa iw kd n1 n2 n3 n4 gd) := by
  unfold MWo at M
  rw [← M, xm_109]
  rfl
end Mw
theorem hexc_get {H : XH} {q : Nat} : hget (hexc H) q = hget H q := rfl
/-- the out arrays -/
def ola (g : Nat → Int64) : va_E := .inl (3, 1, .inr (.inl g))
def oda (g : Nat → UInt64) : va_E := .inl (4, 1, .inr (.inr (.inr (.inl g))))
theorem epl_o {g : Nat → Int64} {x : Int64} {K : va_E → Prop} : epl (some (ola g)) (iI 0) x K = K (ola (vp_updL g (iI 0).toNatClampNeg x)) := by
  unfold epl ola
  dsimp only
  rw [show Nat.beq 3 3 = true from rfl, cond_true, if_neg (by
    rw [show (iI 0).toNatClampNeg = 0 from rfl]
    intro h
    rcases h with h | h
    · exact absurd h (by decide)
    · omega)]
theorem epd_o {g : Nat → UInt64} {x : UInt64} {K : va_E → Prop} : epd (some (oda g)) (iI 0) x K = K (oda (vf_upd g (iI 0).toNatClampNeg x)) := by
  unfold epd oda
  dsimp only
  rw [show Nat.beq 4 4 = true from rfl, cond_true, if_neg (by
    rw [show (iI 0).toNatClampNeg = 0 from rfl]
    intro h
    rcases h with h | h
    · exact absurd h (by decide)
    · omega)]
theorem egl_o {g : Nat → Int64} {K : Int64 → Prop} : egl (some (ola g)) (iI 0) K = K (g (iI 0).toNatClampNeg) := by
  unfold egl ola
  dsimp only
  rw [show Nat.beq 3 3 = true from rfl, cond_true, if_neg (by
    rw [show (iI 0).toNatClampNeg = 0 from rfl]
    intro h
    rcases h with h | h
    · exact absurd h (by decide)
    · omega)]
theorem egd_o {g : Nat → UInt64} {K : UInt64 → Prop} : egd (some (oda g)) (iI 0) K = K (g (iI 0).toNatClampNeg) := by
  unfold egd oda
  dsimp only
  rw [show Nat.beq 4 4 = true from rfl, cond_true, if_neg (by
    rw [show (iI 0).toNatClampNeg = 0 from rfl]
    intro h
    rcases h with h | h
    · exact absurd h (by decide)
    · omega)]
theorem updL_at {g : Nat → Int64} {x : Int64} : vp_updL g (iI 0).toNatClampNeg x (iI 0).toNatClampNeg = x := by
  unfold vp_updL
  exact if_pos rfl
theorem updD_at {g : Nat → UInt64} {x : UInt64} : vf_upd g (iI 0).toNatClampNeg x (iI 0).toNatClampNeg = x := by
  unfold vf_upd
  exact if_pos rfl
/-! Catching. -/
theorem bck_catch {d : Nat} {M M' : XM} {pc E a k : Nat} {L rest : List Value} {h2 : XH} {Q : XO → XH → Prop} (h4 : ((xm_y M').name == "<init>") = false) (h1 : (xm_hh M).isEmpty = false) (hh : xhandler M pc E (xm_hh M) = some (a, k)) (hk : k < L.length) : Bck d M M' pc L rest Q (.inr E) h2 = EvQ d M a (xsto1 L k xjunk) [] h2 Q := by
  apply propext
  unfold Bck EvQ
  constructor
  · rintro ⟨f, o', h3', q, hQ⟩
    unfold xback at q
    dsimp only at q
    rw [h4, h1, hh] at q
    dsimp only [cond_false] at q
    rw [if_pos hk] at q
    exact ⟨f, o', h3', q, hQ⟩
  · rintro ⟨f, o', h3', q, hQ⟩
    refine ⟨f, o', h3', ?_, hQ⟩
    unfold xback
    dsimp only
    rw [h4, h1, hh]
    dsimp only [cond_false]
    rw [if_pos hk]
    exact q
/-- the script's reading -/
theorem sal {n : Nat} {z : Int} {X : Prop} (h : 0 ≤ z ∧ z < n ∧ n < 1000000) : (if iI z < 0 ∨ n ≤ (iI z).toNatClampNeg then False else X) = X := by
  rw [if_neg]
  rw [show (0 : Int32) = iI 0 from rfl, iI_lt (by omega) (by omega), iI_nat (by omega)]
  omega
