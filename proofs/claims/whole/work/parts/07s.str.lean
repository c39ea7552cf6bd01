/-- the form constants' bytes -/
def lenF : List Nat := [6, 4, 4, 6, 2, 4, 5]
def bytF : List (List Int32) := [[117, 35, 35, 61, 65, 64], [115, 78, 58, 65], [106, 78, 43, 78], [99, 78, 58, 65, 64, 64], [101, 78], [102, 35, 61, 70], [35, 58, 78, 44, 78]]
def sNo : Nat → Prop := fun _ => False
def SZ (adK adV : Nat → Nat) (A : Nat → Prop) (U : State) (H : Heap) : Prop := vk_S 7 lenF bytF adK adV A U H ∧ va_Z RJ0 "COMPACT_STRINGS" "Z" (.int 1) A U H ∧ va_Zq RJ3 "SIOOBE_FORMATTER" "Ljava/util/function/BiFunction;" A U H
theorem SZ.moved {adK adV : Nat → Nat} {A : Nat → Prop} {u U : State} {H : Heap} (hvm : u.vm.Alike U.vm) (h : SZ adK adV A u H) : SZ adK adV A U H := ⟨vk_S.moved hvm h.1, va_Z.moved hvm h.2.1, va_Zq.moved hvm h.2.2⟩
theorem SZ.kept {adK adV : Nat → Nat} {A : Nat → Prop} {U : State} {H H1 : Heap} (h : SZ adK adV A U H) (hq : ∀ a : Nat, a < H.size → ¬ A a → H1[a]? = H[a]?) : SZ adK adV A U H1 := ⟨h.1.kept hq, h.2.1.kept hq, h.2.2.kept hq⟩
theorem SZ.narrow {adK adV : Nat → Nat} {A B : Nat → Prop} {U : State} {H : Heap} (h : SZ adK adV A U H) (hAB : ∀ q, B q → A q) : SZ adK adV B U H := ⟨h.1.narrow hAB, h.2.1.narrow hAB, h.2.2.narrow hAB⟩
/-- in a call's words: nothing may be changed -/
def SV (adK adV : Nat → Nat) (U : State) : Prop := SZ adK adV sNo U U.heap
def sQi (r : Int32) : Array Value → State → Outcome → State → Prop := va_Qi (S := Unit) (fun x _ => x = r) (fun _ _ => True) sNo
def sQv : Array Value → State → Outcome → State → Prop := va_Qv (S := Unit) (fun _ => True) (fun _ _ => True) sNo
def sRm (f n : Nat) : Room := { frames := f, cells := 0, slots := 0, locals := n }
theorem sBl {adK adV : Nat → Nat} {av : List Value} : FrameBlind (va_Pc av (SV adK adV)) := fun _ U g mk h => ⟨h.1, SZ.moved (u := U) (U := U.calling g mk _) (Vm.Alike.refl U.vm) h.2⟩
theorem sPre {adK adV : Nat → Nat} {s : State} {H : Heap} {locs : List Loc} {av : List Value} {A : Nat → Prop} (h : SZ adK adV A s s.heap) (hS : va_S A s.heap H locs) (U : State) (hU : U.heap = H) (hW : s.WarmedH U.vm) : va_Pc av (SV adK adV) av.toArray U := by
  refine ⟨rfl, ?_⟩
  show SZ adK adV sNo U U.heap
  rw [hU]
  exact (SZ.moved hW.alike (h.kept hS.2.1)).narrow (fun _ z => z.elim)
theorem sCallB {R : Room} {s : State} {args : Array Value} {own : String} {index : Nat} {y : MethodName} {bytes : ByteArray} {maxL n f nn : Nat} {ret : Option FieldType} (hts : ∀ w ∈ XT, w.before args s = true) (hc : XMem (.code y bytes maxL ret)) (hi : XMem (.initialized y.cls)) (hl : XMem (.methodLink own index y))
    (hy : y.cls ≠ "java/lang/invoke/MethodHandle" ∧ y.cls ≠ "java/lang/invoke/VarHandle") (hn : (parseMethodDescriptor y.desc).map (fun d => d.parameters.length) = some n) (hR : f + 1 ≤ R.frames ∧ 8 + (maxL + 11) + nn ≤ R.locals) :
    CallB R s args own index y bytes maxL ret (Cond.code y bytes maxL ret :: XT) (sRm f nn) 0 0 n := by
  refine ⟨rfl, rfl, hR.1, hR.2, fun w hw a' U hW => ?_, List.mem_cons_self, hts _ hc.inT, hts _ hi.inT, hy, fun sig h => ?_, hts _ hl.inT⟩
  · rcases List.mem_cons.mp hw with rfl | hw
    · exact stab_pay hc.2 (hts _ hc.inT) a' U hW
    · exact stab_pay (List.mem_filter.mp hw).2 (hts _ hw) a' U hW
  · rw [h] at hn
    exact (Option.some.inj hn).symm
def chF (k : Nat) (i : Int32) : Int32 := ((((bytF.getD k []).getD i.toNatClampNeg 0) &&& 255).toUInt32 % 65536).toInt32
theorem chF_nar : ∀ k : Nat, k < 7 → ∀ j : Nat, j < lenF.getD k 0 → (((((bytF.getD k []).getD j 0) &&& 255).toUInt32 % 65536).toInt32.toUInt32 % 65536).toInt32 = ((((bytF.getD k []).getD j 0) &&& 255).toUInt32 % 65536).toInt32 := by decide +kernel
theorem chF_str : ∀ k : Nat, k < 7 → ∀ j : Nat, j < lenF.getD k 0 → ((((bytF.getD k []).getD j 0) &&& 255).toUInt32 % 65536).toInt32 = Int32.ofNat ((xstr k).getD j 0) := by decide +kernel
theorem lenF_str : ∀ k : Nat, k < 7 → lenF.getD k 0 = (xstr k).length := by decide +kernel
theorem lenF_shr : ∀ k : Nat, k < 7 → Int32.ofNat (lenF.getD k 0) >>> ((0 : Int32) &&& 31) = Int32.ofNat (lenF.getD k 0) := by decide +kernel
theorem lenF_ne : ∀ k : Nat, k < 7 → ¬ Int32.ofNat (lenF.getD k 0) = 0 := by decide +kernel
theorem lenF_le : ∀ k : Nat, k < 7 → lenF.getD k 0 ≤ 6 := by decide +kernel
theorem sLt {k : Nat} (hk : k < 7) {i : Int32} (hi : vp_in i (lenF.getD k 0)) : i < Int32.ofNat (lenF.getD k 0) := by
  have h0 := lenF_le k hk
  have h1 : ¬ i < 0 := fun z => hi (Or.inl z)
  have h2 : i.toNatClampNeg < lenF.getD k 0 := Nat.not_le.mp fun z => hi (Or.inr z)
  rw [Int32.lt_iff_toInt_lt] at h1 ⊢
  have h3 : i.toNatClampNeg = i.toInt.toNat := rfl
  have h4 : (Int32.ofNat (lenF.getD k 0)).toInt = (lenF.getD k 0 : Int) := Int32.toInt_ofNat_of_lt (by omega)
  have h5 : (0 : Int32).toInt = 0 := rfl
  omega

theorem qJ0_length_8abf5_0 : decode cJ0_length_8abf5 0 = .ok (.aload_n 0, 1) := by decide +kernel
theorem qJ0_length_8abf5_1 : decode cJ0_length_8abf5 1 = .ok (.getfield 9, 3) := by decide +kernel
theorem qJ0_length_8abf5_4 : decode cJ0_length_8abf5 4 = .ok (.arraylength, 1) := by decide +kernel
theorem qJ0_length_8abf5_5 : decode cJ0_length_8abf5 5 = .ok (.aload_n 0, 1) := by decide +kernel
theorem qJ0_length_8abf5_6 : decode cJ0_length_8abf5 6 = .ok (.invokevirtual 335, 3) := by decide +kernel
theorem qJ0_length_8abf5_9 : decode cJ0_length_8abf5 9 = .ok (.ishr, 1) := by decide +kernel
theorem qJ0_length_8abf5_10 : decode cJ0_length_8abf5 10 = .ok (.ireturn, 1) := by decide +kernel
theorem qJ0_isEmpty_aae02_0 : decode cJ0_isEmpty_aae02 0 = .ok (.aload_n 0, 1) := by decide +kernel
theorem qJ0_isEmpty_aae02_1 : decode cJ0_isEmpty_aae02 1 = .ok (.getfield 9, 3) := by decide +kernel
theorem qJ0_isEmpty_aae02_4 : decode cJ0_isEmpty_aae02 4 = .ok (.arraylength, 1) := by decide +kernel
theorem qJ0_isEmpty_aae02_5 : decode cJ0_isEmpty_aae02 5 = .ok (.ifCond .ne 7, 3) := by decide +kernel
theorem qJ0_isEmpty_aae02_8 : decode cJ0_isEmpty_aae02 8 = .ok (.iconst 1, 1) := by decide +kernel
theorem qJ0_isEmpty_aae02_9 : decode cJ0_isEmpty_aae02 9 = .ok (.goto 4, 3) := by decide +kernel
theorem qJ0_isEmpty_aae02_12 : decode cJ0_isEmpty_aae02 12 = .ok (.iconst 0, 1) := by decide +kernel
theorem qJ0_isEmpty_aae02_13 : decode cJ0_isEmpty_aae02 13 = .ok (.ireturn, 1) := by decide +kernel
theorem qJ0_charAt_5068e_0 : decode cJ0_charAt_5068e 0 = .ok (.aload_n 0, 1) := by decide +kernel
theorem qJ0_charAt_5068e_1 : decode cJ0_charAt_5068e 1 = .ok (.invokevirtual 492, 3) := by decide +kernel
theorem qJ0_charAt_5068e_4 : decode cJ0_charAt_5068e 4 = .ok (.ifCond .eq 12, 3) := by decide +kernel
theorem qJ0_charAt_5068e_7 : decode cJ0_charAt_5068e 7 = .ok (.aload_n 0, 1) := by decide +kernel
theorem qJ0_charAt_5068e_8 : decode cJ0_charAt_5068e 8 = .ok (.getfield 9, 3) := by decide +kernel
theorem qJ0_charAt_5068e_11 : decode cJ0_charAt_5068e 11 = .ok (.iload_n 1, 1) := by decide +kernel
theorem qJ0_charAt_5068e_12 : decode cJ0_charAt_5068e 12 = .ok (.invokestatic 495, 3) := by decide +kernel
theorem qJ0_charAt_5068e_15 : decode cJ0_charAt_5068e 15 = .ok (.ireturn, 1) := by decide +kernel
theorem qJ0_charAt_5068e_16 : decode cJ0_charAt_5068e 16 = .ok (.aload_n 0, 1) := by decide +kernel
theorem qJ0_charAt_5068e_17 : decode cJ0_charAt_5068e 17 = .ok (.getfield 9, 3) := by decide +kernel
theorem qJ0_charAt_5068e_20 : decode cJ0_charAt_5068e 20 = .ok (.iload_n 1, 1) := by decide +kernel
theorem qJ0_charAt_5068e_21 : decode cJ0_charAt_5068e 21 = .ok (.invokestatic 498, 3) := by decide +kernel
theorem qJ0_charAt_5068e_24 : decode cJ0_charAt_5068e 24 = .ok (.ireturn, 1) := by decide +kernel
theorem qJ0_coder_7d493_0 : decode cJ0_coder_7d493 0 = .ok (.getstatic 38, 3) := by decide +kernel
theorem qJ0_coder_7d493_3 : decode cJ0_coder_7d493 3 = .ok (.ifCond .eq 10, 3) := by decide +kernel
theorem qJ0_coder_7d493_6 : decode cJ0_coder_7d493 6 = .ok (.aload_n 0, 1) := by decide +kernel
theorem qJ0_coder_7d493_7 : decode cJ0_coder_7d493 7 = .ok (.getfield 15, 3) := by decide +kernel
theorem qJ0_coder_7d493_10 : decode cJ0_coder_7d493 10 = .ok (.goto 4, 3) := by decide +kernel
theorem qJ0_coder_7d493_13 : decode cJ0_coder_7d493 13 = .ok (.iconst 1, 1) := by decide +kernel
theorem qJ0_coder_7d493_14 : decode cJ0_coder_7d493 14 = .ok (.ireturn, 1) := by decide +kernel
theorem qJ0_isLatin1_aae02_0 : decode cJ0_isLatin1_aae02 0 = .ok (.getstatic 38, 3) := by decide +kernel
theorem qJ0_isLatin1_aae02_3 : decode cJ0_isLatin1_aae02 3 = .ok (.ifCond .eq 14, 3) := by decide +kernel
theorem qJ0_isLatin1_aae02_6 : decode cJ0_isLatin1_aae02 6 = .ok (.aload_n 0, 1) := by decide +kernel
theorem qJ0_isLatin1_aae02_7 : decode cJ0_isLatin1_aae02 7 = .ok (.getfield 15, 3) := by decide +kernel
theorem qJ0_isLatin1_aae02_10 : decode cJ0_isLatin1_aae02 10 = .ok (.ifCond .ne 7, 3) := by decide +kernel
theorem qJ0_isLatin1_aae02_13 : decode cJ0_isLatin1_aae02 13 = .ok (.iconst 1, 1) := by decide +kernel
theorem qJ0_isLatin1_aae02_14 : decode cJ0_isLatin1_aae02 14 = .ok (.goto 4, 3) := by decide +kernel
theorem qJ0_isLatin1_aae02_17 : decode cJ0_isLatin1_aae02 17 = .ok (.iconst 0, 1) := by decide +kernel
theorem qJ0_isLatin1_aae02_18 : decode cJ0_isLatin1_aae02 18 = .ok (.ireturn, 1) := by decide +kernel
theorem qJ0_checkIndex_df160_0 : decode cJ0_checkIndex_df160 0 = .ok (.iload_n 0, 1) := by decide +kernel
theorem qJ0_checkIndex_df160_1 : decode cJ0_checkIndex_df160 1 = .ok (.iload_n 1, 1) := by decide +kernel
theorem qJ0_checkIndex_df160_2 : decode cJ0_checkIndex_df160 2 = .ok (.getstatic 1053, 3) := by decide +kernel
theorem qJ0_checkIndex_df160_5 : decode cJ0_checkIndex_df160 5 = .ok (.invokestatic 1059, 3) := by decide +kernel
theorem qJ0_checkIndex_df160_8 : decode cJ0_checkIndex_df160 8 = .ok (.pop, 1) := by decide +kernel
theorem qJ0_checkIndex_df160_9 : decode cJ0_checkIndex_df160 9 = .ok (.return_, 1) := by decide +kernel
theorem qJ1_charAt_3b067_0 : decode cJ1_charAt_3b067 0 = .ok (.iload_n 1, 1) := by decide +kernel
theorem qJ1_charAt_3b067_1 : decode cJ1_charAt_3b067 1 = .ok (.aload_n 0, 1) := by decide +kernel
theorem qJ1_charAt_3b067_2 : decode cJ1_charAt_3b067 2 = .ok (.arraylength, 1) := by decide +kernel
theorem qJ1_charAt_3b067_3 : decode cJ1_charAt_3b067 3 = .ok (.invokestatic 9, 3) := by decide +kernel
theorem qJ1_charAt_3b067_6 : decode cJ1_charAt_3b067 6 = .ok (.aload_n 0, 1) := by decide +kernel
theorem qJ1_charAt_3b067_7 : decode cJ1_charAt_3b067 7 = .ok (.iload_n 1, 1) := by decide +kernel
theorem qJ1_charAt_3b067_8 : decode cJ1_charAt_3b067 8 = .ok (.baload, 1) := by decide +kernel
theorem qJ1_charAt_3b067_9 : decode cJ1_charAt_3b067 9 = .ok (.sipush 255, 3) := by decide +kernel
theorem qJ1_charAt_3b067_12 : decode cJ1_charAt_3b067 12 = .ok (.iand, 1) := by decide +kernel
theorem qJ1_charAt_3b067_13 : decode cJ1_charAt_3b067 13 = .ok (.i2c, 1) := by decide +kernel
theorem qJ1_charAt_3b067_14 : decode cJ1_charAt_3b067 14 = .ok (.ireturn, 1) := by decide +kernel
theorem qJ3_checkIndex_8e157_0 : decode cJ3_checkIndex_8e157 0 = .ok (.iload_n 0, 1) := by decide +kernel
theorem qJ3_checkIndex_8e157_1 : decode cJ3_checkIndex_8e157 1 = .ok (.ifCond .lt 8, 3) := by decide +kernel
theorem qJ3_checkIndex_8e157_4 : decode cJ3_checkIndex_8e157 4 = .ok (.iload_n 0, 1) := by decide +kernel
theorem qJ3_checkIndex_8e157_5 : decode cJ3_checkIndex_8e157 5 = .ok (.iload_n 1, 1) := by decide +kernel
theorem qJ3_checkIndex_8e157_6 : decode cJ3_checkIndex_8e157 6 = .ok (.if_icmp .lt 10, 3) := by decide +kernel
theorem qJ3_checkIndex_8e157_9 : decode cJ3_checkIndex_8e157 9 = .ok (.aload_n 2, 1) := by decide +kernel
theorem qJ3_checkIndex_8e157_10 : decode cJ3_checkIndex_8e157 10 = .ok (.iload_n 0, 1) := by decide +kernel
theorem qJ3_checkIndex_8e157_11 : decode cJ3_checkIndex_8e157 11 = .ok (.iload_n 1, 1) := by decide +kernel
theorem qJ3_checkIndex_8e157_12 : decode cJ3_checkIndex_8e157 12 = .ok (.invokestatic 95, 3) := by decide +kernel
theorem qJ3_checkIndex_8e157_15 : decode cJ3_checkIndex_8e157 15 = .ok (.athrow, 1) := by decide +kernel
theorem qJ3_checkIndex_8e157_16 : decode cJ3_checkIndex_8e157 16 = .ok (.iload_n 0, 1) := by decide +kernel
theorem qJ3_checkIndex_8e157_17 : decode cJ3_checkIndex_8e157 17 = .ok (.ireturn, 1) := by decide +kernel
set_option maxHeartbeats 1000000 in
theorem c_pci (l : Launch) (adK adV : Nat → Nat) (i n : Int32) (w : Value) (hw : w = .null ∨ ∃ t, w = .ref t) (h0 : ¬ i < 0) (h1 : i < n) : Met l yJ3_checkIndex_8e157 (Cond.code yJ3_checkIndex_8e157 cJ3_checkIndex_8e157 3 (some .int) :: XT) (sRm 0 0) (va_Pc [.int i, .int n, w] (SV adK adV)) (sQi i) 0 0 sNo := by
  refine Met.ofW (cc := cJ3_checkIndex_8e157) (maxL := 3) (ret := (some .int)) (by decide) rfl ?_
  intro p e s m args below meth c s₁ B hml hv
  obtain ⟨rfl, hE⟩ := hv
  have hx := B.exec
  have hb := B.bytes
  have hr := B.returns
  have hts0 := atoms_spec (ws := Cond.code yJ3_checkIndex_8e157 cJ3_checkIndex_8e157 3 (some .int) :: XT) B.pre
  have hts : ∀ w ∈ XT, w.before _ s = true := fun w hw => hts0 w (List.mem_cons_of_mem _ hw)
  have hown : s.vm.findClass RJ3 = some m.cls := findClass_of_methodNamed B.named
  have hlocks := B.notSynchronized
  have hE : SZ adK adV sNo s s.heap := hE
  have hS : va_S sNo s.heap s.heap [] := va_S.rf
  have hl := lv_entry ([.int i, .int n, w]) (n := 3) (by rcases hw with rfl | ⟨t, rfl⟩ <;> exact Nat.le_of_ble_eq_true rfl)
  rw [lg_entry_eq]
  generalize (lg_sl ([.int i, .int n, w]) ++ List.replicate (3 - (lg_sl ([.int i, .int n, w])).length) Slot.unset).toArray = ls at hl ⊢
  have hl : lv_has ls 3 [(0, .int i), (1, .int n), (2, w)] := hl
  refine lv_iload_n hx hb qJ3_checkIndex_8e157_0 rfl (lv_at hl 0 rfl) ?_
  refine lv_if_lt hx hb qJ3_checkIndex_8e157_1 (tgt := 9) rfl (fun z => absurd z h0) (fun _ => ?_)
  refine lv_iload_n hx hb qJ3_checkIndex_8e157_4 rfl (lv_at hl 0 rfl) ?_
  refine lv_iload_n hx hb qJ3_checkIndex_8e157_5 rfl (lv_at hl 1 rfl) ?_
  refine lv_icmp_lt hx hb qJ3_checkIndex_8e157_6 (tgt := 16) rfl (fun _ => ?_) (fun z => absurd h1 z)
  refine lv_iload_n hx hb qJ3_checkIndex_8e157_16 rfl (lv_at hl 0 rfl) ?_
  exact W.iret (v := i) hx hb hr (fun t ht _ => ⟨⟨_, (), rfl, rfl, trivial⟩, hS.F ht⟩) hS.2.2 qJ3_checkIndex_8e157_17

set_option maxHeartbeats 1000000 in
theorem c_sci (l : Launch) (adK adV : Nat → Nat) (i n : Int32) (h0 : ¬ i < 0) (h1 : i < n) : Met l yJ0_checkIndex_df160 (Cond.code yJ0_checkIndex_df160 cJ0_checkIndex_df160 2 none :: XT) (sRm 1 22) (va_Pc [.int i, .int n] (SV adK adV)) sQv 0 0 sNo := by
  refine Met.ofW (cc := cJ0_checkIndex_df160) (maxL := 2) (ret := none) (by decide) rfl ?_
  intro p e s m args below meth c s₁ B hml hv
  obtain ⟨rfl, hE⟩ := hv
  have hx := B.exec
  have hb := B.bytes
  have hr := B.returns
  have hts0 := atoms_spec (ws := Cond.code yJ0_checkIndex_df160 cJ0_checkIndex_df160 2 none :: XT) B.pre
  have hts : ∀ w ∈ XT, w.before _ s = true := fun w hw => hts0 w (List.mem_cons_of_mem _ hw)
  have hown : s.vm.findClass RJ0 = some m.cls := findClass_of_methodNamed B.named
  have hlocks := B.notSynchronized
  have hE : SZ adK adV sNo s s.heap := hE
  have hS : va_S sNo s.heap s.heap [] := va_S.rf
  have hl := lv_entry ([.int i, .int n]) (n := 2) (Nat.le_of_ble_eq_true rfl)
  rw [lg_entry_eq]
  generalize (lg_sl ([.int i, .int n]) ++ List.replicate (2 - (lg_sl ([.int i, .int n])).length) Slot.unset).toArray = ls at hl ⊢
  have hl : lv_has ls 2 [(0, .int i), (1, .int n)] := hl
  obtain ⟨w, hw, hZ⟩ : ∃ w : Value, (w = .null ∨ ∃ t, w = .ref t) ∧ va_Z RJ3 "SIOOBE_FORMATTER" "Ljava/util/function/BiFunction;" w sNo s s.heap := by
    rcases hE.2.2 with z | ⟨t, z⟩
    · exact ⟨_, Or.inl rfl, z⟩
    · exact ⟨_, Or.inr ⟨t, rfl⟩, z⟩
  have hwc : w.category = 1 := by
    rcases hw with rfl | ⟨t, rfl⟩ <;> rfl
  refine lv_iload_n hx hb qJ0_checkIndex_df160_0 rfl (lv_at hl 0 rfl) ?_
  refine lv_iload_n hx hb qJ0_checkIndex_df160_1 rfl (lv_at hl 1 rfl) ?_
  refine va_gets (own := RJ0) (ref := RJ3) hx hb hZ hS hown (hts _ (xm_r 594 (by decide +kernel) (by decide +kernel)).inT) (fun _ h9 => h9) qJ0_checkIndex_df160_2 ?_
  refine va_calli (va_runS (As := [.int i, .int n, w]) (rest := []) (own := RJ0) (Ts := XT) ⟨hx, hb, hml, hown, hts⟩ (c_pci l adK adV i n w hw h0 h1) ⟨sCallB hts (xm_r 598 (by decide +kernel) (by decide +kernel)) (xm_r 22 (by decide +kernel) (by decide +kernel)) (xm_r 596 (by decide +kernel) (by decide +kernel)) (n := 3) (by decide) (by decide +kernel) ⟨Nat.le_of_ble_eq_true rfl, Nat.le_of_ble_eq_true rfl⟩, (hts _ (xm_r 597 (by decide +kernel) (by decide +kernel)).inT)⟩ ⟨sBl, sPre hE hS⟩ rfl rfl hl.1 rfl (lv_room (Nat.le_of_ble_eq_true rfl)) qJ0_checkIndex_df160_5 ⟨Nat.le_refl _, Nat.le_refl _⟩) hS (fun _ _ z => z) (fun _ z => z) (fun r u t H locs ht hvm hw9 hB hz1 hk1 hS => ?_)
  refine lv_pop hx hb qJ0_checkIndex_df160_8 rfl ?_
  exact W.vret hx hb hr (fun t ht _ => ⟨⟨(), rfl, trivial, trivial⟩, hS.F ht⟩) hS.2.2 qJ0_checkIndex_df160_9

set_option maxHeartbeats 1000000 in
theorem c_l1c (l : Launch) (adK adV : Nat → Nat) {k : Nat} (hk : k < 7) (i : Int32) (hi : vp_in i (lenF.getD k 0)) : Met l yJ1_charAt_3b067 (Cond.code yJ1_charAt_3b067 cJ1_charAt_3b067 2 (some .char) :: XT) (sRm 2 43) (va_Pc [.ref (adV k), .int i] (SV adK adV)) (sQi (chF k i)) 0 0 sNo := by
  refine Met.ofW (cc := cJ1_charAt_3b067) (maxL := 2) (ret := (some .char)) (by decide) rfl ?_
  intro p e s m args below meth c s₁ B hml hv
  obtain ⟨rfl, hE⟩ := hv
  have hx := B.exec
  have hb := B.bytes
  have hr := B.returns
  have hts0 := atoms_spec (ws := Cond.code yJ1_charAt_3b067 cJ1_charAt_3b067 2 (some .char) :: XT) B.pre
  have hts : ∀ w ∈ XT, w.before _ s = true := fun w hw => hts0 w (List.mem_cons_of_mem _ hw)
  have hown : s.vm.findClass RJ1 = some m.cls := findClass_of_methodNamed B.named
  have hlocks := B.notSynchronized
  have hE : SZ adK adV sNo s s.heap := hE
  have hS : va_S sNo s.heap s.heap [] := va_S.rf
  have hl := lv_entry ([.ref (adV k), .int i]) (n := 2) (Nat.le_of_ble_eq_true rfl)
  rw [lg_entry_eq]
  generalize (lg_sl ([.ref (adV k), .int i]) ++ List.replicate (2 - (lg_sl ([.ref (adV k), .int i])).length) Slot.unset).toArray = ls at hl ⊢
  have hl : lv_has ls 2 [(0, .ref (adV k)), (1, .int i)] := hl
  have hT := (hE.1.1 k hk).2.2.2
  refine lv_iload_n hx hb qJ1_charAt_3b067_0 rfl (lv_at hl 1 rfl) ?_
  refine lv_aload_n hx hb qJ1_charAt_3b067_1 rfl (lv_at hl 0 rfl) ?_
  refine va_tlen hx hb hT hS rfl qJ1_charAt_3b067_2 ?_
  refine va_callv (va_runS (As := [.int i, .int (Int32.ofNat (lenF.getD k 0))]) (rest := []) (own := RJ1) (Ts := XT) ⟨hx, hb, hml, hown, hts⟩ (c_sci l adK adV i (Int32.ofNat (lenF.getD k 0)) (fun z => hi (Or.inl z)) (sLt hk hi)) ⟨sCallB hts (xm_r 593 (by decide +kernel) (by decide +kernel)) (xm_r 18 (by decide +kernel) (by decide +kernel)) (xm_r 591 (by decide +kernel) (by decide +kernel)) (n := 2) (by decide) (by decide +kernel) ⟨Nat.le_of_ble_eq_true rfl, Nat.le_of_ble_eq_true rfl⟩, (hts _ (xm_r 592 (by decide +kernel) (by decide +kernel)).inT)⟩ ⟨sBl, sPre hE hS⟩ rfl rfl hl.1 rfl (lv_room (Nat.le_of_ble_eq_true rfl)) qJ1_charAt_3b067_3 ⟨Nat.le_refl _, Nat.le_refl _⟩) hS (fun _ _ z => z) (fun _ z => z) (fun u t H locs ht hvm hw9 hB hz1 hk1 hS => ?_)
  refine lv_aload_n hx hb qJ1_charAt_3b067_6 rfl (lv_at hl 0 rfl) ?_
  refine lv_iload_n hx hb qJ1_charAt_3b067_7 rfl (lv_at hl 1 rfl) ?_
  refine va_tb hx hb hT hS hi rfl qJ1_charAt_3b067_8 ?_
  refine lv_sipush (v := 255) hx hb qJ1_charAt_3b067_9 (by decide) ?_
  refine lv_iand hx hb qJ1_charAt_3b067_12 ?_
  refine lv_i2c hx hb (v := chF k i) qJ1_charAt_3b067_13 rfl ?_
  exact W.zret (v := chF k i) hx hb hr (congrArg Value.int (chF_nar k hk _ (Nat.not_le.mp fun z => hi (Or.inr z)))) (fun t ht _ => ⟨⟨_, (), rfl, rfl, trivial⟩, hS.F ht⟩) hS.2.2 qJ1_charAt_3b067_14

set_option maxHeartbeats 1000000 in
theorem c_cod (l : Launch) (adK adV : Nat → Nat) {k : Nat} (hk : k < 7) : Met l yJ0_coder_7d493 (Cond.code yJ0_coder_7d493 cJ0_coder_7d493 1 (some .byte) :: XT) (sRm 0 0) (va_Pc [.ref (adK k)] (SV adK adV)) (sQi 0) 0 0 sNo := by
  refine Met.ofW (cc := cJ0_coder_7d493) (maxL := 1) (ret := (some .byte)) (by decide) rfl ?_
  intro p e s m args below meth c s₁ B hml hv
  obtain ⟨rfl, hE⟩ := hv
  have hx := B.exec
  have hb := B.bytes
  have hr := B.returns
  have hts0 := atoms_spec (ws := Cond.code yJ0_coder_7d493 cJ0_coder_7d493 1 (some .byte) :: XT) B.pre
  have hts : ∀ w ∈ XT, w.before _ s = true := fun w hw => hts0 w (List.mem_cons_of_mem _ hw)
  have hown : s.vm.findClass RJ0 = some m.cls := findClass_of_methodNamed B.named
  have hlocks := B.notSynchronized
  have hE : SZ adK adV sNo s s.heap := hE
  have hS : va_S sNo s.heap s.heap [] := va_S.rf
  have hl := lv_entry ([.ref (adK k)]) (n := 1) (Nat.le_of_ble_eq_true rfl)
  rw [lg_entry_eq]
  generalize (lg_sl ([.ref (adK k)]) ++ List.replicate (1 - (lg_sl ([.ref (adK k)])).length) Slot.unset).toArray = ls at hl ⊢
  have hl : lv_has ls 1 [(0, .ref (adK k))] := hl
  refine va_gets (own := RJ0) (ref := RJ0) hx hb hE.2.1 hS hown (hts _ (xm_r 578 (by decide +kernel) (by decide +kernel)).inT) (fun _ h9 => h9) qJ0_coder_7d493_0 ?_
  refine lv_if_eq hx hb qJ0_coder_7d493_3 (tgt := 13) rfl (fun z => absurd z (by decide)) (fun _ => ?_)
  refine lv_aload_n hx hb qJ0_coder_7d493_6 rfl (lv_at hl 0 rfl) ?_
  refine vk_getf (own := RJ0) (ref := RJ0) hx hb (hE.1.1 k hk).2.1 hS hown (hts _ (xm_r 1452 (by decide +kernel) (by decide +kernel)).inT) (fun _ h9 => h9) qJ0_coder_7d493_7 ?_
  refine lv_goto hx hb qJ0_coder_7d493_10 (tgt := 14) rfl ?_
  exact W.zret (v := 0) hx hb hr rfl (fun t ht _ => ⟨⟨_, (), rfl, rfl, trivial⟩, hS.F ht⟩) hS.2.2 qJ0_coder_7d493_14

set_option maxHeartbeats 1000000 in
theorem c_la1 (l : Launch) (adK adV : Nat → Nat) {k : Nat} (hk : k < 7) : Met l yJ0_isLatin1_aae02 (Cond.code yJ0_isLatin1_aae02 cJ0_isLatin1_aae02 1 (some .boolean) :: XT) (sRm 0 0) (va_Pc [.ref (adK k)] (SV adK adV)) (sQi 1) 0 0 sNo := by
  refine Met.ofW (cc := cJ0_isLatin1_aae02) (maxL := 1) (ret := (some .boolean)) (by decide) rfl ?_
  intro p e s m args below meth c s₁ B hml hv
  obtain ⟨rfl, hE⟩ := hv
  have hx := B.exec
  have hb := B.bytes
  have hr := B.returns
  have hts0 := atoms_spec (ws := Cond.code yJ0_isLatin1_aae02 cJ0_isLatin1_aae02 1 (some .boolean) :: XT) B.pre
  have hts : ∀ w ∈ XT, w.before _ s = true := fun w hw => hts0 w (List.mem_cons_of_mem _ hw)
  have hown : s.vm.findClass RJ0 = some m.cls := findClass_of_methodNamed B.named
  have hlocks := B.notSynchronized
  have hE : SZ adK adV sNo s s.heap := hE
  have hS : va_S sNo s.heap s.heap [] := va_S.rf
  have hl := lv_entry ([.ref (adK k)]) (n := 1) (Nat.le_of_ble_eq_true rfl)
  rw [lg_entry_eq]
  generalize (lg_sl ([.ref (adK k)]) ++ List.replicate (1 - (lg_sl ([.ref (adK k)])).length) Slot.unset).toArray = ls at hl ⊢
  have hl : lv_has ls 1 [(0, .ref (adK k))] := hl
  refine va_gets (own := RJ0) (ref := RJ0) hx hb hE.2.1 hS hown (hts _ (xm_r 578 (by decide +kernel) (by decide +kernel)).inT) (fun _ h9 => h9) qJ0_isLatin1_aae02_0 ?_
  refine lv_if_eq hx hb qJ0_isLatin1_aae02_3 (tgt := 17) rfl (fun z => absurd z (by decide)) (fun _ => ?_)
  refine lv_aload_n hx hb qJ0_isLatin1_aae02_6 rfl (lv_at hl 0 rfl) ?_
  refine vk_getf (own := RJ0) (ref := RJ0) hx hb (hE.1.1 k hk).2.1 hS hown (hts _ (xm_r 1452 (by decide +kernel) (by decide +kernel)).inT) (fun _ h9 => h9) qJ0_isLatin1_aae02_7 ?_
  refine lv_if_ne hx hb qJ0_isLatin1_aae02_10 (tgt := 17) rfl (fun z => absurd rfl z) (fun _ => ?_)
  refine lv_iconst (v := 1) hx hb qJ0_isLatin1_aae02_13 (by decide) ?_
  refine lv_goto hx hb qJ0_isLatin1_aae02_14 (tgt := 18) rfl ?_
  exact W.zret (v := 1) hx hb hr rfl (fun t ht _ => ⟨⟨_, (), rfl, rfl, trivial⟩, hS.F ht⟩) hS.2.2 qJ0_isLatin1_aae02_18

set_option maxHeartbeats 1000000 in
theorem c_emp (l : Launch) (adK adV : Nat → Nat) {k : Nat} (hk : k < 7) : Met l yJ0_isEmpty_aae02 (Cond.code yJ0_isEmpty_aae02 cJ0_isEmpty_aae02 1 (some .boolean) :: XT) (sRm 0 0) (va_Pc [.ref (adK k)] (SV adK adV)) (sQi 0) 0 0 sNo := by
  refine Met.ofW (cc := cJ0_isEmpty_aae02) (maxL := 1) (ret := (some .boolean)) (by decide) rfl ?_
  intro p e s m args below meth c s₁ B hml hv
  obtain ⟨rfl, hE⟩ := hv
  have hx := B.exec
  have hb := B.bytes
  have hr := B.returns
  have hts0 := atoms_spec (ws := Cond.code yJ0_isEmpty_aae02 cJ0_isEmpty_aae02 1 (some .boolean) :: XT) B.pre
  have hts : ∀ w ∈ XT, w.before _ s = true := fun w hw => hts0 w (List.mem_cons_of_mem _ hw)
  have hown : s.vm.findClass RJ0 = some m.cls := findClass_of_methodNamed B.named
  have hlocks := B.notSynchronized
  have hE : SZ adK adV sNo s s.heap := hE
  have hS : va_S sNo s.heap s.heap [] := va_S.rf
  have hl := lv_entry ([.ref (adK k)]) (n := 1) (Nat.le_of_ble_eq_true rfl)
  rw [lg_entry_eq]
  generalize (lg_sl ([.ref (adK k)]) ++ List.replicate (1 - (lg_sl ([.ref (adK k)])).length) Slot.unset).toArray = ls at hl ⊢
  have hl : lv_has ls 1 [(0, .ref (adK k))] := hl
  refine lv_aload_n hx hb qJ0_isEmpty_aae02_0 rfl (lv_at hl 0 rfl) ?_
  refine vk_getf (own := RJ0) (ref := RJ0) hx hb (hE.1.1 k hk).2.2.1 hS hown (hts _ (xm_r 1451 (by decide +kernel) (by decide +kernel)).inT) (fun _ h9 => h9) qJ0_isEmpty_aae02_1 ?_
  refine va_tlen hx hb (hE.1.1 k hk).2.2.2 hS rfl qJ0_isEmpty_aae02_4 ?_
  refine lv_if_ne hx hb qJ0_isEmpty_aae02_5 (tgt := 12) rfl (fun _ => ?_) (fun z => absurd z (lenF_ne k hk))
  refine lv_iconst (v := 0) hx hb qJ0_isEmpty_aae02_12 (by decide) ?_
  exact W.zret (v := 0) hx hb hr rfl (fun t ht _ => ⟨⟨_, (), rfl, rfl, trivial⟩, hS.F ht⟩) hS.2.2 qJ0_isEmpty_aae02_13

set_option maxHeartbeats 1000000 in
theorem c_len (l : Launch) (adK adV : Nat → Nat) {k : Nat} (hk : k < 7) : Met l yJ0_length_8abf5 (Cond.code yJ0_length_8abf5 cJ0_length_8abf5 1 (some .int) :: XT) (sRm 1 30) (va_Pc [.ref (adK k)] (SV adK adV)) (sQi (Int32.ofNat (lenF.getD k 0))) 0 0 sNo := by
  refine Met.ofW (cc := cJ0_length_8abf5) (maxL := 1) (ret := (some .int)) (by decide) rfl ?_
  intro p e s m args below meth c s₁ B hml hv
  obtain ⟨rfl, hE⟩ := hv
  have hx := B.exec
  have hb := B.bytes
  have hr := B.returns
  have hts0 := atoms_spec (ws := Cond.code yJ0_length_8abf5 cJ0_length_8abf5 1 (some .int) :: XT) B.pre
  have hts : ∀ w ∈ XT, w.before _ s = true := fun w hw => hts0 w (List.mem_cons_of_mem _ hw)
  have hown : s.vm.findClass RJ0 = some m.cls := findClass_of_methodNamed B.named
  have hlocks := B.notSynchronized
  have hE : SZ adK adV sNo s s.heap := hE
  have hS : va_S sNo s.heap s.heap [] := va_S.rf
  have hl := lv_entry ([.ref (adK k)]) (n := 1) (Nat.le_of_ble_eq_true rfl)
  rw [lg_entry_eq]
  generalize (lg_sl ([.ref (adK k)]) ++ List.replicate (1 - (lg_sl ([.ref (adK k)])).length) Slot.unset).toArray = ls at hl ⊢
  have hl : lv_has ls 1 [(0, .ref (adK k))] := hl
  refine lv_aload_n hx hb qJ0_length_8abf5_0 rfl (lv_at hl 0 rfl) ?_
  refine vk_getf (own := RJ0) (ref := RJ0) hx hb (hE.1.1 k hk).2.2.1 hS hown (hts _ (xm_r 1451 (by decide +kernel) (by decide +kernel)).inT) (fun _ h9 => h9) qJ0_length_8abf5_1 ?_
  refine va_tlen hx hb (hE.1.1 k hk).2.2.2 hS rfl qJ0_length_8abf5_4 ?_
  refine lv_aload_n hx hb qJ0_length_8abf5_5 rfl (lv_at hl 0 rfl) ?_
  refine va_calli (va_runV (As := []) (b := adK k) (C := RJ0) (rest := [.int (Int32.ofNat (lenF.getD k 0))]) (own := RJ0) (Ts := XT) ⟨hx, hb, hml, hown, hts⟩ (c_cod l adK adV hk) ⟨sCallB hts (xm_r 577 (by decide +kernel) (by decide +kernel)) (xm_r 18 (by decide +kernel) (by decide +kernel)) (xm_r 574 (by decide +kernel) (by decide +kernel)) (by decide) (by decide +kernel) ⟨Nat.le_of_ble_eq_true rfl, Nat.le_of_ble_eq_true rfl⟩, (hts _ (xm_r 575 (by decide +kernel) (by decide +kernel)).inT), (hts _ (xm_r 576 (by decide +kernel) (by decide +kernel)).inT)⟩ ⟨sBl, vk_recv hE.1 hk hS, sPre hE hS⟩ rfl rfl hl.1 rfl (lv_room (Nat.le_of_ble_eq_true rfl)) qJ0_length_8abf5_6 ⟨Nat.le_refl _, Nat.le_refl _⟩) hS (fun _ _ z => z) (fun _ z => z) (fun r u t H locs ht hvm hw9 hB hz1 hk1 hS => ?_)
  cases hw9
  refine lv_ishr hx hb qJ0_length_8abf5_9 ?_
  rw [lenF_shr k hk]
  exact W.iret (v := Int32.ofNat (lenF.getD k 0)) hx hb hr (fun t ht _ => ⟨⟨_, (), rfl, rfl, trivial⟩, hS.F ht⟩) hS.2.2 qJ0_length_8abf5_10

set_option maxHeartbeats 1000000 in
theorem c_chr (l : Launch) (adK adV : Nat → Nat) {k : Nat} (hk : k < 7) (i : Int32) (hi : vp_in i (lenF.getD k 0)) : Met l yJ0_charAt_5068e (Cond.code yJ0_charAt_5068e cJ0_charAt_5068e 2 (some .char) :: XT) (sRm 3 64) (va_Pc [.ref (adK k), .int i] (SV adK adV)) (sQi (chF k i)) 0 0 sNo := by
  refine Met.ofW (cc := cJ0_charAt_5068e) (maxL := 2) (ret := (some .char)) (by decide) rfl ?_
  intro p e s m args below meth c s₁ B hml hv
  obtain ⟨rfl, hE⟩ := hv
  have hx := B.exec
  have hb := B.bytes
  have hr := B.returns
  have hts0 := atoms_spec (ws := Cond.code yJ0_charAt_5068e cJ0_charAt_5068e 2 (some .char) :: XT) B.pre
  have hts : ∀ w ∈ XT, w.before _ s = true := fun w hw => hts0 w (List.mem_cons_of_mem _ hw)
  have hown : s.vm.findClass RJ0 = some m.cls := findClass_of_methodNamed B.named
  have hlocks := B.notSynchronized
  have hE : SZ adK adV sNo s s.heap := hE
  have hS : va_S sNo s.heap s.heap [] := va_S.rf
  have hl := lv_entry ([.ref (adK k), .int i]) (n := 2) (Nat.le_of_ble_eq_true rfl)
  rw [lg_entry_eq]
  generalize (lg_sl ([.ref (adK k), .int i]) ++ List.replicate (2 - (lg_sl ([.ref (adK k), .int i])).length) Slot.unset).toArray = ls at hl ⊢
  have hl : lv_has ls 2 [(0, .ref (adK k)), (1, .int i)] := hl
  refine lv_aload_n hx hb qJ0_charAt_5068e_0 rfl (lv_at hl 0 rfl) ?_
  refine va_calli (va_runV (As := []) (b := adK k) (C := RJ0) (rest := []) (own := RJ0) (Ts := XT) ⟨hx, hb, hml, hown, hts⟩ (c_la1 l adK adV hk) ⟨sCallB hts (xm_r 587 (by decide +kernel) (by decide +kernel)) (xm_r 18 (by decide +kernel) (by decide +kernel)) (xm_r 584 (by decide +kernel) (by decide +kernel)) (by decide) (by decide +kernel) ⟨Nat.le_of_ble_eq_true rfl, Nat.le_of_ble_eq_true rfl⟩, (hts _ (xm_r 585 (by decide +kernel) (by decide +kernel)).inT), (hts _ (xm_r 586 (by decide +kernel) (by decide +kernel)).inT)⟩ ⟨sBl, vk_recv hE.1 hk hS, sPre hE hS⟩ rfl rfl hl.1 rfl (lv_room (Nat.le_of_ble_eq_true rfl)) qJ0_charAt_5068e_1 ⟨Nat.le_refl _, Nat.le_refl _⟩) hS (fun _ _ z => z) (fun _ z => z) (fun r u t H locs ht hvm hw9 hB hz1 hk1 hS => ?_)
  cases hw9
  refine lv_if_eq hx hb qJ0_charAt_5068e_4 (tgt := 16) rfl (fun z => absurd z (by decide)) (fun _ => ?_)
  refine lv_aload_n hx hb qJ0_charAt_5068e_7 rfl (lv_at hl 0 rfl) ?_
  refine vk_getf (own := RJ0) (ref := RJ0) hx hb (hE.1.1 k hk).2.2.1 hS hown (hts _ (xm_r 1451 (by decide +kernel) (by decide +kernel)).inT) (fun _ h9 => h9) qJ0_charAt_5068e_8 ?_
  refine lv_iload_n hx hb qJ0_charAt_5068e_11 rfl (lv_at hl 1 rfl) ?_
  refine va_calli (va_runS (As := [.ref (adV k), .int i]) (rest := []) (own := RJ0) (Ts := XT) ⟨hx, hb, hml, hown, hts⟩ (c_l1c l adK adV hk i hi) ⟨sCallB hts (xm_r 590 (by decide +kernel) (by decide +kernel)) (xm_r 21 (by decide +kernel) (by decide +kernel)) (xm_r 588 (by decide +kernel) (by decide +kernel)) (n := 2) (by decide) (by decide +kernel) ⟨Nat.le_of_ble_eq_true rfl, Nat.le_of_ble_eq_true rfl⟩, (hts _ (xm_r 589 (by decide +kernel) (by decide +kernel)).inT)⟩ ⟨sBl, sPre hE hS⟩ rfl rfl hl.1 rfl (lv_room (Nat.le_of_ble_eq_true rfl)) qJ0_charAt_5068e_12 ⟨Nat.le_refl _, Nat.le_refl _⟩) hS (fun _ _ z => z) (fun _ z => z) (fun r u t H locs ht hvm hw9 hB hz1 hk1 hS => ?_)
  cases hw9
  exact W.zret (v := chF k i) hx hb hr (congrArg Value.int (chF_nar k hk _ (Nat.not_le.mp fun z => hi (Or.inr z)))) (fun t ht _ => ⟨⟨_, (), rfl, rfl, trivial⟩, hS.F ht⟩) hS.2.2 qJ0_charAt_5068e_15

/-- the form constants lie where `sp` says -/
def SX (A : Nat → Prop) (sp : Nat → Nat) (U : State) (H : Heap) : Prop := ∃ adV : Nat → Nat, SZ (fun j => sp (1000000 + j)) adV A U H
theorem SX.moved {A : Nat → Prop} {sp : Nat → Nat} {u U : State} {H : Heap} (hvm : u.vm.Alike U.vm) (h : SX A sp u H) : SX A sp U H := h.imp fun _ z => z.moved hvm
theorem SX.kept {A : Nat → Prop} {sp : Nat → Nat} {U : State} {H H1 : Heap} (h : SX A sp U H) (hq : ∀ a : Nat, a < H.size → ¬ A a → H1[a]? = H[a]?) : SX A sp U H1 := h.imp fun _ z => z.kept hq
theorem SX.narrow {A B : Nat → Prop} {sp : Nat → Nat} {U : State} {H : Heap} (h : SX A sp U H) (hAB : ∀ q, B q → A q) : SX B sp U H := h.imp fun _ z => z.narrow hAB
