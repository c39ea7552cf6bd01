set_option maxRecDepth 20000
/-! The Model's world. -/

theorem egf12 {c : Nat} {fs : List Value} {v v0 v1 v2 v3 v4 v5 v6 v7 v8 v9 v10 v11 : Value} {K : Value → Prop} : egf (some (.inr (c, v0 :: v1 :: v2 :: v3 :: v4 :: v5 :: v6 :: v7 :: v8 :: v9 :: v10 :: v11 :: v :: fs))) c 12 K = K v := by
  rw [egf_ev]; rfl
theorem egf13 {c : Nat} {fs : List Value} {v v0 v1 v2 v3 v4 v5 v6 v7 v8 v9 v10 v11 v12 : Value} {K : Value → Prop} : egf (some (.inr (c, v0 :: v1 :: v2 :: v3 :: v4 :: v5 :: v6 :: v7 :: v8 :: v9 :: v10 :: v11 :: v12 :: v :: fs))) c 13 K = K v := by
  rw [egf_ev]; rfl
theorem egf14 {c : Nat} {fs : List Value} {v v0 v1 v2 v3 v4 v5 v6 v7 v8 v9 v10 v11 v12 v13 : Value} {K : Value → Prop} : egf (some (.inr (c, v0 :: v1 :: v2 :: v3 :: v4 :: v5 :: v6 :: v7 :: v8 :: v9 :: v10 :: v11 :: v12 :: v13 :: v :: fs))) c 14 K = K v := by
  rw [egf_ev]; rfl
theorem egf15 {c : Nat} {fs : List Value} {v v0 v1 v2 v3 v4 v5 v6 v7 v8 v9 v10 v11 v12 v13 v14 : Value} {K : Value → Prop} : egf (some (.inr (c, v0 :: v1 :: v2 :: v3 :: v4 :: v5 :: v6 :: v7 :: v8 :: v9 :: v10 :: v11 :: v12 :: v13 :: v14 :: v :: fs))) c 15 K = K v := by
  rw [egf_ev]; rfl
theorem egf16 {c : Nat} {fs : List Value} {v v0 v1 v2 v3 v4 v5 v6 v7 v8 v9 v10 v11 v12 v13 v14 v15 : Value} {K : Value → Prop} : egf (some (.inr (c, v0 :: v1 :: v2 :: v3 :: v4 :: v5 :: v6 :: v7 :: v8 :: v9 :: v10 :: v11 :: v12 :: v13 :: v14 :: v15 :: v :: fs))) c 16 K = K v := by
  rw [egf_ev]; rfl
theorem egf17 {c : Nat} {fs : List Value} {v v0 v1 v2 v3 v4 v5 v6 v7 v8 v9 v10 v11 v12 v13 v14 v15 v16 : Value} {K : Value → Prop} : egf (some (.inr (c, v0 :: v1 :: v2 :: v3 :: v4 :: v5 :: v6 :: v7 :: v8 :: v9 :: v10 :: v11 :: v12 :: v13 :: v14 :: v15 :: v16 :: v :: fs))) c 17 K = K v := by
  rw [egf_ev]; rfl
theorem egf18 {c : Nat} {fs : List Value} {v v0 v1 v2 v3 v4 v5 v6 v7 v8 v9 v10 v11 v12 v13 v14 v15 v16 v17 : Value} {K : Value → Prop} : egf (some (.inr (c, v0 :: v1 :: v2 :: v3 :: v4 :: v5 :: v6 :: v7 :: v8 :: v9 :: v10 :: v11 :: v12 :: v13 :: v14 :: v15 :: v16 :: v17 :: v :: fs))) c 18 K = K v := by
  rw [egf_ev]; rfl
theorem egf19 {c : Nat} {fs : List Value} {v v0 v1 v2 v3 v4 v5 v6 v7 v8 v9 v10 v11 v12 v13 v14 v15 v16 v17 v18 : Value} {K : Value → Prop} : egf (some (.inr (c, v0 :: v1 :: v2 :: v3 :: v4 :: v5 :: v6 :: v7 :: v8 :: v9 :: v10 :: v11 :: v12 :: v13 :: v14 :: v15 :: v16 :: v17 :: v18 :: v :: fs))) c 19 K = K v := by
  rw [egf_ev]; rfl
theorem egf20 {c : Nat} {fs : List Value} {v v0 v1 v2 v3 v4 v5 v6 v7 v8 v9 v10 v11 v12 v13 v14 v15 v16 v17 v18 v19 : Value} {K : Value → Prop} : egf (some (.inr (c, v0 :: v1 :: v2 :: v3 :: v4 :: v5 :: v6 :: v7 :: v8 :: v9 :: v10 :: v11 :: v12 :: v13 :: v14 :: v15 :: v16 :: v17 :: v18 :: v19 :: v :: fs))) c 20 K = K v := by
  rw [egf_ev]; rfl
theorem egf21 {c : Nat} {fs : List Value} {v v0 v1 v2 v3 v4 v5 v6 v7 v8 v9 v10 v11 v12 v13 v14 v15 v16 v17 v18 v19 v20 : Value} {K : Value → Prop} : egf (some (.inr (c, v0 :: v1 :: v2 :: v3 :: v4 :: v5 :: v6 :: v7 :: v8 :: v9 :: v10 :: v11 :: v12 :: v13 :: v14 :: v15 :: v16 :: v17 :: v18 :: v19 :: v20 :: v :: fs))) c 21 K = K v := by
  rw [egf_ev]; rfl
def bar (n : Nat) (g : Int → Int) : va_E := .inl (1, n, .inl fun k => iI (if (k : Int) < n then g k else 0))
def mob (pm : Int) (iv : Int32) (th ke er ty en aa : Int) (iw : Int32) (kd n1 n2 n3 n4 : Int) (gd : Int32) : va_E := .inr (9, [.ref 110, .ref 111, .int (iI pm), .ref 112, .int iv, .int (iI th), .int (iI ke), .int (iI er), .ref 113, .int (iI ty), .ref 114, .ref 115, .ref 116, .int (iI en), .int (iI aa), .int iw, .int (iI kd), .int (iI n1), .int (iI n2), .int (iI n3), .int (iI n4), .int gd])
def wm (h : XH) (G A : Int → Int) (pm : Int) (S : Int → Int) (iv : Int32) (th ke er : Int) (I : Int → Int) (ty : Int) (ab pt rm : Int → Int) (en aa : Int) (iw : Int32) (kd n1 n2 n3 n4 : Int) (gd : Int32) : XH :=
  (fun q => if q = 109 then some (mob pm iv th ke er ty en aa iw kd n1 n2 n3 n4 gd) else if q = 110 then some (nar 1092 G) else if q = 111 then some (nar 8736 A) else if q = 112 then some (nar 1092 S) else if q = 113 then some (car 60 I) else if q = 114 then some (bar 60 ab) else if q = 115 then some (nar 5 pt) else if q = 116 then some (nar 5 rm) else h.1 q, h.2)
section Wm
variable {d : Nat} {h : XH} {G A : Int → Int} {pm : Int} {S : Int → Int} {iv : Int32} {tw ke er : Int} {I : Int → Int} {ty : Int} {ab pt rm : Int → Int} {en aa : Int} {iw : Int32} {kd n1 n2 n3 n4 : Int} {gd : Int32} {Q : XO → XH → Prop} {dy nb nu np nf : Int} {B U P F : Int → Int} {b f u p i j x y z t k : Int}
theorem xm_109 : hget (wm h G A pm S iv tw ke er I ty ab pt rm en aa iw kd n1 n2 n3 n4 gd) 109 = some (.inr (9, [.ref 110, .ref 111, .int (iI pm), .ref 112, .int iv, .int (iI tw), .int (iI ke), .int (iI er), .ref 113, .int (iI ty), .ref 114, .ref 115, .ref 116, .int (iI en), .int (iI aa), .int iw, .int (iI kd), .int (iI n1), .int (iI n2), .int (iI n3), .int (iI n4), .int gd])) := by simp [hget, wm, mob]
theorem xm_110 : hget (wm h G A pm S iv tw ke er I ty ab pt rm en aa iw kd n1 n2 n3 n4 gd) 110 = some (nar 1092 G) := by simp [hget, wm]
theorem xm_111 : hget (wm h G A pm S iv tw ke er I ty ab pt rm en aa iw kd n1 n2 n3 n4 gd) 111 = some (nar 8736 A) := by simp [hget, wm]
theorem xm_112 : hget (wm h G A pm S iv tw ke er I ty ab pt rm en aa iw kd n1 n2 n3 n4 gd) 112 = some (nar 1092 S) := by simp [hget, wm]
theorem xm_113 : hget (wm h G A pm S iv tw ke er I ty ab pt rm en aa iw kd n1 n2 n3 n4 gd) 113 = some (car 60 I) := by simp [hget, wm]
theorem xm_114 : hget (wm h G A pm S iv tw ke er I ty ab pt rm en aa iw kd n1 n2 n3 n4 gd) 114 = some (bar 60 ab) := by simp [hget, wm]
theorem xm_115 : hget (wm h G A pm S iv tw ke er I ty ab pt rm en aa iw kd n1 n2 n3 n4 gd) 115 = some (nar 5 pt) := by simp [hget, wm]
theorem xm_116 : hget (wm h G A pm S iv tw ke er I ty ab pt rm en aa iw kd n1 n2 n3 n4 gd) 116 = some (nar 5 rm) := by simp [hget, wm]
theorem xmm_n {q : Nat} (hq : q < 109 ∨ 117 ≤ q) : hget (wm h G A pm S iv tw ke er I ty ab pt rm en aa iw kd n1 n2 n3 n4 gd) q = hget h q := by
  unfold hget wm
  dsimp only
  rw [if_neg (by omega), if_neg (by omega), if_neg (by omega), if_neg (by omega), if_neg (by omega), if_neg (by omega), if_neg (by omega), if_neg (by omega)]
variable {pm' th' ke' er' ty' en' aa' kd' n1' n2' n3' n4' : Int} {iv' iw' gd' : Int32} {X : Int → Int}
theorem pm_o : hset (wm h G A pm S iv tw ke er I ty ab pt rm en aa iw kd n1 n2 n3 n4 gd) 109 (.inr (9, [.ref 110, .ref 111, .int (iI pm'), .ref 112, .int iv', .int (iI th'), .int (iI ke'), .int (iI er'), .ref 113, .int (iI ty'), .ref 114, .ref 115, .ref 116, .int (iI en'), .int (iI aa'), .int iw', .int (iI kd'), .int (iI n1'), .int (iI n2'), .int (iI n3'), .int (iI n4'), .int gd'])) = wm h G A pm' S iv' th' ke' er' I ty' ab pt rm en' aa' iw' kd' n1' n2' n3' n4' gd' := by
  unfold hset wm mob
  refine Prod.ext (funext fun q => ?_) rfl
  dsimp only
  by_cases h0 : q = 109
  · rw [if_pos h0, if_pos h0]
  · rw [if_neg h0, if_neg h0, if_neg h0]
theorem pm_110 : hset (wm h G A pm S iv tw ke er I ty ab pt rm en aa iw kd n1 n2 n3 n4 gd) 110 (nar 1092 X) = wm h X A pm S iv tw ke er I ty ab pt rm en aa iw kd n1 n2 n3 n4 gd := by
  unfold hset wm
  refine Prod.ext (funext fun q => ?_) rfl
  dsimp only
  by_cases h0 : q = 110
  · subst h0
    simp
  · simp only [h0, if_false]
theorem pm_111 : hset (wm h G A pm S iv tw ke er I ty ab pt rm en aa iw kd n1 n2 n3 n4 gd) 111 (nar 8736 X) = wm h G X pm S iv tw ke er I ty ab pt rm en aa iw kd n1 n2 n3 n4 gd := by
  unfold hset wm
  refine Prod.ext (funext fun q => ?_) rfl
  dsimp only
  by_cases h0 : q = 111
  · subst h0
    simp
  · simp only [h0, if_false]
theorem pm_112 : hset (wm h G A pm S iv tw ke er I ty ab pt rm en aa iw kd n1 n2 n3 n4 gd) 112 (nar 1092 X) = wm h G A pm X iv tw ke er I ty ab pt rm en aa iw kd n1 n2 n3 n4 gd := by
  unfold hset wm
  refine Prod.ext (funext fun q => ?_) rfl
  dsimp only
  by_cases h0 : q = 112
  · subst h0
    simp
  · simp only [h0, if_false]
theorem pm_113 : hset (wm h G A pm S iv tw ke er I ty ab pt rm en aa iw kd n1 n2 n3 n4 gd) 113 (car 60 X) = wm h G A pm S iv tw ke er X ty ab pt rm en aa iw kd n1 n2 n3 n4 gd := by
  unfold hset wm
  refine Prod.ext (funext fun q => ?_) rfl
  dsimp only
  by_cases h0 : q = 113
  · subst h0
    simp
  · simp only [h0, if_false]
theorem pm_114 : hset (wm h G A pm S iv tw ke er I ty ab pt rm en aa iw kd n1 n2 n3 n4 gd) 114 (bar 60 X) = wm h G A pm S iv tw ke er I ty X pt rm en aa iw kd n1 n2 n3 n4 gd := by
  unfold hset wm
  refine Prod.ext (funext fun q => ?_) rfl
  dsimp only
  by_cases h0 : q = 114
  · subst h0
    simp
  · simp only [h0, if_false]
theorem pm_115 : hset (wm h G A pm S iv tw ke er I ty ab pt rm en aa iw kd n1 n2 n3 n4 gd) 115 (nar 5 X) = wm h G A pm S iv tw ke er I ty ab X rm en aa iw kd n1 n2 n3 n4 gd := by
  unfold hset wm
  refine Prod.ext (funext fun q => ?_) rfl
  dsimp only
  by_cases h0 : q = 115
  · subst h0
    simp
  · simp only [h0, if_false]
theorem pm_116 : hset (wm h G A pm S iv tw ke er I ty ab pt rm en aa iw kd n1 n2 n3 n4 gd) 116 (nar 5 X) = wm h G A pm S iv tw ke er I ty ab pt X en aa iw kd n1 n2 n3 n4 gd := by
  unfold hset wm
  refine Prod.ext (funext fun q => ?_) rfl
  dsimp only
  by_cases h0 : q = 116
  · subst h0
    simp
  · simp only [h0, if_false]
theorem wm_wm {G' A' S' I' ab' pt' rm' : Int → Int} : wm (wm h G A pm S iv tw ke er I ty ab pt rm en aa iw kd n1 n2 n3 n4 gd) G' A' pm' S' iv' th' ke' er' I' ty' ab' pt' rm' en' aa' iw' kd' n1' n2' n3' n4' gd' = wm h G' A' pm' S' iv' th' ke' er' I' ty' ab' pt' rm' en' aa' iw' kd' n1' n2' n3' n4' gd' := by
  refine xh_ext (fun q => ?_) rfl
  by_cases hq : q < 109 ∨ 117 ≤ q
  · rw [xmm_n hq, xmm_n hq, xmm_n hq]
  · rcases (show q = 109 ∨ q = 110 ∨ q = 111 ∨ q = 112 ∨ q = 113 ∨ q = 114 ∨ q = 115 ∨ q = 116 by omega) with z | z | z | z | z | z | z | z <;> subst z <;> (first | rw [xm_109, xm_109] | rw [xm_110, xm_110] | rw [xm_111, xm_111] | rw [xm_112, xm_112] | rw [xm_113, xm_113] | rw [xm_114, xm_114] | rw [xm_115, xm_115] | rw [xm_116, xm_116])
end Wm
section Epm
variable {x : Int} {y : Int32} {K : va_E → Prop} {a0 a1 a2 a3 a4 a5 a6 a7 a8 a9 a10 a11 a12 a13 a14 a15 a16 a17 a18 a19 a20 a21 : Value}
theorem epm_2 : epf (some (.inr (9, [a0, a1, a2, a3, a4, a5, a6, a7, a8, a9, a10, a11, a12, a13, a14, a15, a16, a17, a18, a19, a20, a21]))) 9 2 (.int (iI x)) K = K (.inr (9, [a0, a1, .int (iI x), a3, a4, a5, a6, a7, a8, a9, a10, a11, a12, a13, a14, a15, a16, a17, a18, a19, a20, a21])) := epf_at rfl rfl
theorem epm_5 : epf (some (.inr (9, [a0, a1, a2, a3, a4, a5, a6, a7, a8, a9, a10, a11, a12, a13, a14, a15, a16, a17, a18, a19, a20, a21]))) 9 5 (.int (iI x)) K = K (.inr (9, [a0, a1, a2, a3, a4, .int (iI x), a6, a7, a8, a9, a10, a11, a12, a13, a14, a15, a16, a17, a18, a19, a20, a21])) := epf_at rfl rfl
theorem epm_6 : epf (some (.inr (9, [a0, a1, a2, a3, a4, a5, a6, a7, a8, a9, a10, a11, a12, a13, a14, a15, a16, a17, a18, a19, a20, a21]))) 9 6 (.int (iI x)) K = K (.inr (9, [a0, a1, a2, a3, a4, a5, .int (iI x), a7, a8, a9, a10, a11, a12, a13, a14, a15, a16, a17, a18, a19, a20, a21])) := epf_at rfl rfl
theorem epm_7 : epf (some (.inr (9, [a0, a1, a2, a3, a4, a5, a6, a7, a8, a9, a10, a11, a12, a13, a14, a15, a16, a17, a18, a19, a20, a21]))) 9 7 (.int (iI x)) K = K (.inr (9, [a0, a1, a2, a3, a4, a5, a6, .int (iI x), a8, a9, a10, a11, a12, a13, a14, a15, a16, a17, a18, a19, a20, a21])) := epf_at rfl rfl
theorem epm_9 : epf (some (.inr (9, [a0, a1, a2, a3, a4, a5, a6, a7, a8, a9, a10, a11, a12, a13, a14, a15, a16, a17, a18, a19, a20, a21]))) 9 9 (.int (iI x)) K = K (.inr (9, [a0, a1, a2, a3, a4, a5, a6, a7, a8, .int (iI x), a10, a11, a12, a13, a14, a15, a16, a17, a18, a19, a20, a21])) := epf_at rfl rfl
theorem epm_13 : epf (some (.inr (9, [a0, a1, a2, a3, a4, a5, a6, a7, a8, a9, a10, a11, a12, a13, a14, a15, a16, a17, a18, a19, a20, a21]))) 9 13 (.int (iI x)) K = K (.inr (9, [a0, a1, a2, a3, a4, a5, a6, a7, a8, a9, a10, a11, a12, .int (iI x), a14, a15, a16, a17, a18, a19, a20, a21])) := epf_at rfl rfl
theorem epm_14 : epf (some (.inr (9, [a0, a1, a2, a3, a4, a5, a6, a7, a8, a9, a10, a11, a12, a13, a14, a15, a16, a17, a18, a19, a20, a21]))) 9 14 (.int (iI x)) K = K (.inr (9, [a0, a1, a2, a3, a4, a5, a6, a7, a8, a9, a10, a11, a12, a13, .int (iI x), a15, a16, a17, a18, a19, a20, a21])) := epf_at rfl rfl
theorem epm_16 : epf (some (.inr (9, [a0, a1, a2, a3, a4, a5, a6, a7, a8, a9, a10, a11, a12, a13, a14, a15, a16, a17, a18, a19, a20, a21]))) 9 16 (.int (iI x)) K = K (.inr (9, [a0, a1, a2, a3, a4, a5, a6, a7, a8, a9, a10, a11, a12, a13, a14, a15, .int (iI x), a17, a18, a19, a20, a21])) := epf_at rfl rfl
theorem epm_17 : epf (some (.inr (9, [a0, a1, a2, a3, a4, a5, a6, a7, a8, a9, a10, a11, a12, a13, a14, a15, a16, a17, a18, a19, a20, a21]))) 9 17 (.int (iI x)) K = K (.inr (9, [a0, a1, a2, a3, a4, a5, a6, a7, a8, a9, a10, a11, a12, a13, a14, a15, a16, .int (iI x), a18, a19, a20, a21])) := epf_at rfl rfl
theorem epm_18 : epf (some (.inr (9, [a0, a1, a2, a3, a4, a5, a6, a7, a8, a9, a10, a11, a12, a13, a14, a15, a16, a17, a18, a19, a20, a21]))) 9 18 (.int (iI x)) K = K (.inr (9, [a0, a1, a2, a3, a4, a5, a6, a7, a8, a9, a10, a11, a12, a13, a14, a15, a16, a17, .int (iI x), a19, a20, a21])) := epf_at rfl rfl
theorem epm_19 : epf (some (.inr (9, [a0, a1, a2, a3, a4, a5, a6, a7, a8, a9, a10, a11, a12, a13, a14, a15, a16, a17, a18, a19, a20, a21]))) 9 19 (.int (iI x)) K = K (.inr (9, [a0, a1, a2, a3, a4, a5, a6, a7, a8, a9, a10, a11, a12, a13, a14, a15, a16, a17, a18, .int (iI x), a20, a21])) := epf_at rfl rfl
theorem epm_20 : epf (some (.inr (9, [a0, a1, a2, a3, a4, a5, a6, a7, a8, a9, a10, a11, a12, a13, a14, a15, a16, a17, a18, a19, a20, a21]))) 9 20 (.int (iI x)) K = K (.inr (9, [a0, a1, a2, a3, a4, a5, a6, a7, a8, a9, a10, a11, a12, a13, a14, a15, a16, a17, a18, a19, .int (iI x), a21])) := epf_at rfl rfl
theorem epm_4t : epf (some (.inr (9, [a0, a1, a2, a3, a4, a5, a6, a7, a8, a9, a10, a11, a12, a13, a14, a15, a16, a17, a18, a19, a20, a21]))) 9 4 (.int (iI 1)) K = K (.inr (9, [a0, a1, a2, a3, .int (iI 1), a5, a6, a7, a8, a9, a10, a11, a12, a13, a14, a15, a16, a17, a18, a19, a20, a21])) := epf_at rfl rfl
theorem epm_4f : epf (some (.inr (9, [a0, a1, a2, a3, a4, a5, a6, a7, a8, a9, a10, a11, a12, a13, a14, a15, a16, a17, a18, a19, a20, a21]))) 9 4 (.int (iI 0)) K = K (.inr (9, [a0, a1, a2, a3, .int (iI 0), a5, a6, a7, a8, a9, a10, a11, a12, a13, a14, a15, a16, a17, a18, a19, a20, a21])) := epf_at rfl rfl
theorem epm_4b {p : Prop} : epf (some (.inr (9, [a0, a1, a2, a3, a4, a5, a6, a7, a8, a9, a10, a11, a12, a13, a14, a15, a16, a17, a18, a19, a20, a21]))) 9 4 (.int (bI p)) K = K (.inr (9, [a0, a1, a2, a3, .int (bI p), a5, a6, a7, a8, a9, a10, a11, a12, a13, a14, a15, a16, a17, a18, a19, a20, a21])) := by
  by_cases h : p
  · rw [bI_t h]; exact epm_4t
  · rw [bI_f h]; exact epm_4f
theorem epm_15t : epf (some (.inr (9, [a0, a1, a2, a3, a4, a5, a6, a7, a8, a9, a10, a11, a12, a13, a14, a15, a16, a17, a18, a19, a20, a21]))) 9 15 (.int (iI 1)) K = K (.inr (9, [a0, a1, a2, a3, a4, a5, a6, a7, a8, a9, a10, a11, a12, a13, a14, .int (iI 1), a16, a17, a18, a19, a20, a21])) := epf_at rfl rfl
theorem epm_15f : epf (some (.inr (9, [a0, a1, a2, a3, a4, a5, a6, a7, a8, a9, a10, a11, a12, a13, a14, a15, a16, a17, a18, a19, a20, a21]))) 9 15 (.int (iI 0)) K = K (.inr (9, [a0, a1, a2, a3, a4, a5, a6, a7, a8, a9, a10, a11, a12, a13, a14, .int (iI 0), a16, a17, a18, a19, a20, a21])) := epf_at rfl rfl
theorem epm_15b {p : Prop} : epf (some (.inr (9, [a0, a1, a2, a3, a4, a5, a6, a7, a8, a9, a10, a11, a12, a13, a14, a15, a16, a17, a18, a19, a20, a21]))) 9 15 (.int (bI p)) K = K (.inr (9, [a0, a1, a2, a3, a4, a5, a6, a7, a8, a9, a10, a11, a12, a13, a14, .int (bI p), a16, a17, a18, a19, a20, a21])) := by
  by_cases h : p
  · rw [bI_t h]; exact epm_15t
  · rw [bI_f h]; exact epm_15f
theorem epm_21t : epf (some (.inr (9, [a0, a1, a2, a3, a4, a5, a6, a7, a8, a9, a10, a11, a12, a13, a14, a15, a16, a17, a18, a19, a20, a21]))) 9 21 (.int (iI 1)) K = K (.inr (9, [a0, a1, a2, a3, a4, a5, a6, a7, a8, a9, a10, a11, a12, a13, a14, a15, a16, a17, a18, a19, a20, .int (iI 1)])) := epf_at rfl rfl
theorem epm_21f : epf (some (.inr (9, [a0, a1, a2, a3, a4, a5, a6, a7, a8, a9, a10, a11, a12, a13, a14, a15, a16, a17, a18, a19, a20, a21]))) 9 21 (.int (iI 0)) K = K (.inr (9, [a0, a1, a2, a3, a4, a5, a6, a7, a8, a9, a10, a11, a12, a13, a14, a15, a16, a17, a18, a19, a20, .int (iI 0)])) := epf_at rfl rfl
theorem epm_21b {p : Prop} : epf (some (.inr (9, [a0, a1, a2, a3, a4, a5, a6, a7, a8, a9, a10, a11, a12, a13, a14, a15, a16, a17, a18, a19, a20, a21]))) 9 21 (.int (bI p)) K = K (.inr (9, [a0, a1, a2, a3, a4, a5, a6, a7, a8, a9, a10, a11, a12, a13, a14, a15, a16, a17, a18, a19, a20, .int (bI p)])) := by
  by_cases h : p
  · rw [bI_t h]; exact epm_21t
  · rw [bI_f h]; exact epm_21f
end Epm
/-- a unit's number in the Model, in the class's terms -/
def mu (nu : Int) (U : Int → Int) (np : Int) (P : Int → Int) (u j : Int) : Int :=
  if j = 0 then tg nu 11 U u 0 else if j = 1 then tg nu 11 U u 1 else if j = 7 then tg nu 11 U u 2 else if j = 8 then tg nu 11 U u 3 else if j = 9 then tg nu 11 U u 5 else if j = 10 then (if pN nu U np P u = 0 then -1 else pA nu U np P u 0) else if j = 11 then (if pN nu U np P u = 2 then pA nu U np P u 1 else -1) else if j = 12 then tg nu 11 U u 4 else tg nu 11 U u (j + 4)
/-- the Model's numbers are the class's -/
def MR (G : Int → Int) (dy nb : Int) (B : Int → Int) (nu : Int) (U : Int → Int) (np : Int) (P : Int → Int) : Prop :=
  G 0 = dy ∧ G 1 = nb ∧ G 2 = nu ∧ G 3 = np ∧ (∀ b, 0 ≤ b → b < nb → G (4 + 7 * b) = tg nb 7 B b 0 ∧ ∀ f, 0 ≤ f → f < tg nb 7 B b 0 → G (4 + 7 * b + 1 + f) = tg nb 7 B b (1 + f)) ∧ (∀ u j, 0 ≤ u → u < nu → 0 ≤ j → j < 13 → G (32 + 13 * u + j) = mu nu U np P u j) ∧ (∀ p j, 0 ≤ p → p < np → 0 ≤ j → j < 7 → G (812 + 7 * p + j) = tg np 7 P p j)
