theorem lkRJ0_335 : Cond.methodLink RJ0 335 yJ0_coder_7d493 ∈ lw_tbl := tb_i 462 (by decide +kernel)
theorem lkRJ0_492 : Cond.methodLink RJ0 492 yJ0_isLatin1_aae02 ∈ lw_tbl := tb_i 472 (by decide +kernel)
theorem lkRJ0_495 : Cond.methodLink RJ0 495 yJ1_charAt_3b067 ∈ lw_tbl := tb_i 476 (by decide +kernel)
theorem lkRJ1_9 : Cond.methodLink RJ1 9 yJ0_checkIndex_df160 ∈ lw_tbl := tb_i 479 (by decide +kernel)
theorem lkRJ0_1059 : Cond.methodLink RJ0 1059 yJ3_checkIndex_8e157 ∈ lw_tbl := tb_i 484 (by decide +kernel)
theorem flS_38 : Cond.fieldLink RJ0 38 "java/lang/String" "COMPACT_STRINGS" "Z" ∈ lw_tbl := tb_i 466 (by decide +kernel)
theorem flS_1053 : Cond.fieldLink RJ0 1053 "jdk/internal/util/Preconditions" "SIOOBE_FORMATTER" "Ljava/util/function/BiFunction;" ∈ lw_tbl := tb_i 482 (by decide +kernel)
theorem flS_9 : Cond.fieldLink RJ0 9 "java/lang/String" "value" "[B" ∈ lw_tbl := tb_i 1996 (by decide +kernel)
theorem flS_15 : Cond.fieldLink RJ0 15 "java/lang/String" "coder" "B" ∈ lw_tbl := tb_i 1997 (by decide +kernel)
theorem dJ0_length_8abf5_0 : decode cJ0_length_8abf5 0 = .ok (.aload_n 0, 1) := by decide +kernel
theorem dJ0_length_8abf5_1 : decode cJ0_length_8abf5 1 = .ok (.getfield 9, 3) := by decide +kernel
theorem dJ0_length_8abf5_4 : decode cJ0_length_8abf5 4 = .ok (.arraylength, 1) := by decide +kernel
theorem dJ0_length_8abf5_5 : decode cJ0_length_8abf5 5 = .ok (.aload_n 0, 1) := by decide +kernel
theorem dJ0_length_8abf5_6 : decode cJ0_length_8abf5 6 = .ok (.invokevirtual 335, 3) := by decide +kernel
theorem dJ0_length_8abf5_9 : decode cJ0_length_8abf5 9 = .ok (.ishr, 1) := by decide +kernel
theorem dJ0_length_8abf5_10 : decode cJ0_length_8abf5 10 = .ok (.ireturn, 1) := by decide +kernel
theorem wi_RJ0 : Cond.initialized RJ0 ∈ lw_tbl := tb_i 14 (by decide +kernel)
theorem wn_RJ0 : RJ0 ≠ "java/lang/invoke/MethodHandle" ∧ RJ0 ≠ "java/lang/invoke/VarHandle" := ⟨by decide +kernel, by decide +kernel⟩
def mJ0_length_8abf5 : pMT := (yJ0_length_8abf5, cJ0_length_8abf5, 1, some .int)
theorem moJ0_length_8abf5 : mOK mJ0_length_8abf5 0 := ⟨tb_i 461 (by decide +kernel), wi_RJ0, ⟨wn_RJ0.1, wn_RJ0.2, by decide +kernel⟩, by decide, by decide +kernel⟩
theorem mvJ0_length_8abf5 : mV mJ0_length_8abf5 := ⟨tb_i 459 (by decide +kernel), tb_i 460 (by decide +kernel)⟩
theorem dJ0_charAt_5068e_0 : decode cJ0_charAt_5068e 0 = .ok (.aload_n 0, 1) := by decide +kernel
theorem dJ0_charAt_5068e_1 : decode cJ0_charAt_5068e 1 = .ok (.invokevirtual 492, 3) := by decide +kernel
theorem dJ0_charAt_5068e_4 : decode cJ0_charAt_5068e 4 = .ok (.ifCond .eq 12, 3) := by decide +kernel
theorem dJ0_charAt_5068e_7 : decode cJ0_charAt_5068e 7 = .ok (.aload_n 0, 1) := by decide +kernel
theorem dJ0_charAt_5068e_8 : decode cJ0_charAt_5068e 8 = .ok (.getfield 9, 3) := by decide +kernel
theorem dJ0_charAt_5068e_11 : decode cJ0_charAt_5068e 11 = .ok (.iload_n 1, 1) := by decide +kernel
theorem dJ0_charAt_5068e_12 : decode cJ0_charAt_5068e 12 = .ok (.invokestatic 495, 3) := by decide +kernel
theorem dJ0_charAt_5068e_15 : decode cJ0_charAt_5068e 15 = .ok (.ireturn, 1) := by decide +kernel
theorem dJ0_charAt_5068e_16 : decode cJ0_charAt_5068e 16 = .ok (.aload_n 0, 1) := by decide +kernel
theorem dJ0_charAt_5068e_17 : decode cJ0_charAt_5068e 17 = .ok (.getfield 9, 3) := by decide +kernel
theorem dJ0_charAt_5068e_20 : decode cJ0_charAt_5068e 20 = .ok (.iload_n 1, 1) := by decide +kernel
theorem dJ0_charAt_5068e_21 : decode cJ0_charAt_5068e 21 = .ok (.invokestatic 498, 3) := by decide +kernel
theorem dJ0_charAt_5068e_24 : decode cJ0_charAt_5068e 24 = .ok (.ireturn, 1) := by decide +kernel
def mJ0_charAt_5068e : pMT := (yJ0_charAt_5068e, cJ0_charAt_5068e, 2, some .char)
theorem moJ0_charAt_5068e : mOK mJ0_charAt_5068e 1 := ⟨tb_i 471 (by decide +kernel), wi_RJ0, ⟨wn_RJ0.1, wn_RJ0.2, by decide +kernel⟩, by decide, by decide +kernel⟩
theorem mvJ0_charAt_5068e : mV mJ0_charAt_5068e := ⟨tb_i 469 (by decide +kernel), tb_i 470 (by decide +kernel)⟩
theorem dJ0_coder_7d493_0 : decode cJ0_coder_7d493 0 = .ok (.getstatic 38, 3) := by decide +kernel
theorem dJ0_coder_7d493_3 : decode cJ0_coder_7d493 3 = .ok (.ifCond .eq 10, 3) := by decide +kernel
theorem dJ0_coder_7d493_6 : decode cJ0_coder_7d493 6 = .ok (.aload_n 0, 1) := by decide +kernel
theorem dJ0_coder_7d493_7 : decode cJ0_coder_7d493 7 = .ok (.getfield 15, 3) := by decide +kernel
theorem dJ0_coder_7d493_10 : decode cJ0_coder_7d493 10 = .ok (.goto 4, 3) := by decide +kernel
theorem dJ0_coder_7d493_13 : decode cJ0_coder_7d493 13 = .ok (.iconst 1, 1) := by decide +kernel
theorem dJ0_coder_7d493_14 : decode cJ0_coder_7d493 14 = .ok (.ireturn, 1) := by decide +kernel
def mJ0_coder_7d493 : pMT := (yJ0_coder_7d493, cJ0_coder_7d493, 1, some .byte)
theorem moJ0_coder_7d493 : mOK mJ0_coder_7d493 0 := ⟨tb_i 465 (by decide +kernel), wi_RJ0, ⟨wn_RJ0.1, wn_RJ0.2, by decide +kernel⟩, by decide, by decide +kernel⟩
theorem mvJ0_coder_7d493 : mV mJ0_coder_7d493 := ⟨tb_i 463 (by decide +kernel), tb_i 464 (by decide +kernel)⟩
theorem dJ0_isLatin1_aae02_0 : decode cJ0_isLatin1_aae02 0 = .ok (.getstatic 38, 3) := by decide +kernel
theorem dJ0_isLatin1_aae02_3 : decode cJ0_isLatin1_aae02 3 = .ok (.ifCond .eq 14, 3) := by decide +kernel
theorem dJ0_isLatin1_aae02_6 : decode cJ0_isLatin1_aae02 6 = .ok (.aload_n 0, 1) := by decide +kernel
theorem dJ0_isLatin1_aae02_7 : decode cJ0_isLatin1_aae02 7 = .ok (.getfield 15, 3) := by decide +kernel
theorem dJ0_isLatin1_aae02_10 : decode cJ0_isLatin1_aae02 10 = .ok (.ifCond .ne 7, 3) := by decide +kernel
theorem dJ0_isLatin1_aae02_13 : decode cJ0_isLatin1_aae02 13 = .ok (.iconst 1, 1) := by decide +kernel
theorem dJ0_isLatin1_aae02_14 : decode cJ0_isLatin1_aae02 14 = .ok (.goto 4, 3) := by decide +kernel
theorem dJ0_isLatin1_aae02_17 : decode cJ0_isLatin1_aae02 17 = .ok (.iconst 0, 1) := by decide +kernel
theorem dJ0_isLatin1_aae02_18 : decode cJ0_isLatin1_aae02 18 = .ok (.ireturn, 1) := by decide +kernel
def mJ0_isLatin1_aae02 : pMT := (yJ0_isLatin1_aae02, cJ0_isLatin1_aae02, 1, some .boolean)
theorem moJ0_isLatin1_aae02 : mOK mJ0_isLatin1_aae02 0 := ⟨tb_i 475 (by decide +kernel), wi_RJ0, ⟨wn_RJ0.1, wn_RJ0.2, by decide +kernel⟩, by decide, by decide +kernel⟩
theorem mvJ0_isLatin1_aae02 : mV mJ0_isLatin1_aae02 := ⟨tb_i 473 (by decide +kernel), tb_i 474 (by decide +kernel)⟩
theorem dJ0_checkIndex_df160_0 : decode cJ0_checkIndex_df160 0 = .ok (.iload_n 0, 1) := by decide +kernel
theorem dJ0_checkIndex_df160_1 : decode cJ0_checkIndex_df160 1 = .ok (.iload_n 1, 1) := by decide +kernel
theorem dJ0_checkIndex_df160_2 : decode cJ0_checkIndex_df160 2 = .ok (.getstatic 1053, 3) := by decide +kernel
theorem dJ0_checkIndex_df160_5 : decode cJ0_checkIndex_df160 5 = .ok (.invokestatic 1059, 3) := by decide +kernel
theorem dJ0_checkIndex_df160_8 : decode cJ0_checkIndex_df160 8 = .ok (.pop, 1) := by decide +kernel
theorem dJ0_checkIndex_df160_9 : decode cJ0_checkIndex_df160 9 = .ok (.return_, 1) := by decide +kernel
def mJ0_checkIndex_df160 : pMT := (yJ0_checkIndex_df160, cJ0_checkIndex_df160, 2, none)
theorem moJ0_checkIndex_df160 : mOK mJ0_checkIndex_df160 2 := ⟨tb_i 481 (by decide +kernel), wi_RJ0, ⟨wn_RJ0.1, wn_RJ0.2, by decide +kernel⟩, by decide, by decide +kernel⟩
theorem mvJ0_checkIndex_df160 : mS mJ0_checkIndex_df160 := (tb_i 480 (by decide +kernel) : Cond.static yJ0_checkIndex_df160 ∈ lw_tbl)
theorem dJ1_charAt_3b067_0 : decode cJ1_charAt_3b067 0 = .ok (.iload_n 1, 1) := by decide +kernel
theorem dJ1_charAt_3b067_1 : decode cJ1_charAt_3b067 1 = .ok (.aload_n 0, 1) := by decide +kernel
theorem dJ1_charAt_3b067_2 : decode cJ1_charAt_3b067 2 = .ok (.arraylength, 1) := by decide +kernel
theorem dJ1_charAt_3b067_3 : decode cJ1_charAt_3b067 3 = .ok (.invokestatic 9, 3) := by decide +kernel
theorem dJ1_charAt_3b067_6 : decode cJ1_charAt_3b067 6 = .ok (.aload_n 0, 1) := by decide +kernel
theorem dJ1_charAt_3b067_7 : decode cJ1_charAt_3b067 7 = .ok (.iload_n 1, 1) := by decide +kernel
theorem dJ1_charAt_3b067_8 : decode cJ1_charAt_3b067 8 = .ok (.baload, 1) := by decide +kernel
theorem dJ1_charAt_3b067_9 : decode cJ1_charAt_3b067 9 = .ok (.sipush 255, 3) := by decide +kernel
theorem dJ1_charAt_3b067_12 : decode cJ1_charAt_3b067 12 = .ok (.iand, 1) := by decide +kernel
theorem dJ1_charAt_3b067_13 : decode cJ1_charAt_3b067 13 = .ok (.i2c, 1) := by decide +kernel
theorem dJ1_charAt_3b067_14 : decode cJ1_charAt_3b067 14 = .ok (.ireturn, 1) := by decide +kernel
theorem wi_RJ1 : Cond.initialized RJ1 ∈ lw_tbl := tb_i 15 (by decide +kernel)
theorem wn_RJ1 : RJ1 ≠ "java/lang/invoke/MethodHandle" ∧ RJ1 ≠ "java/lang/invoke/VarHandle" := ⟨by decide +kernel, by decide +kernel⟩
def mJ1_charAt_3b067 : pMT := (yJ1_charAt_3b067, cJ1_charAt_3b067, 2, some .char)
theorem moJ1_charAt_3b067 : mOK mJ1_charAt_3b067 2 := ⟨tb_i 478 (by decide +kernel), wi_RJ1, ⟨wn_RJ1.1, wn_RJ1.2, by decide +kernel⟩, by decide, by decide +kernel⟩
theorem mvJ1_charAt_3b067 : mS mJ1_charAt_3b067 := (tb_i 477 (by decide +kernel) : Cond.static yJ1_charAt_3b067 ∈ lw_tbl)
theorem dJ3_checkIndex_8e157_0 : decode cJ3_checkIndex_8e157 0 = .ok (.iload_n 0, 1) := by decide +kernel
theorem dJ3_checkIndex_8e157_1 : decode cJ3_checkIndex_8e157 1 = .ok (.ifCond .lt 8, 3) := by decide +kernel
theorem dJ3_checkIndex_8e157_4 : decode cJ3_checkIndex_8e157 4 = .ok (.iload_n 0, 1) := by decide +kernel
theorem dJ3_checkIndex_8e157_5 : decode cJ3_checkIndex_8e157 5 = .ok (.iload_n 1, 1) := by decide +kernel
theorem dJ3_checkIndex_8e157_6 : decode cJ3_checkIndex_8e157 6 = .ok (.if_icmp .lt 10, 3) := by decide +kernel
theorem dJ3_checkIndex_8e157_9 : decode cJ3_checkIndex_8e157 9 = .ok (.aload_n 2, 1) := by decide +kernel
theorem dJ3_checkIndex_8e157_10 : decode cJ3_checkIndex_8e157 10 = .ok (.iload_n 0, 1) := by decide +kernel
theorem dJ3_checkIndex_8e157_11 : decode cJ3_checkIndex_8e157 11 = .ok (.iload_n 1, 1) := by decide +kernel
theorem dJ3_checkIndex_8e157_12 : decode cJ3_checkIndex_8e157 12 = .ok (.invokestatic 95, 3) := by decide +kernel
theorem dJ3_checkIndex_8e157_15 : decode cJ3_checkIndex_8e157 15 = .ok (.athrow, 1) := by decide +kernel
theorem dJ3_checkIndex_8e157_16 : decode cJ3_checkIndex_8e157 16 = .ok (.iload_n 0, 1) := by decide +kernel
theorem dJ3_checkIndex_8e157_17 : decode cJ3_checkIndex_8e157 17 = .ok (.ireturn, 1) := by decide +kernel
theorem wi_RJ3 : Cond.initialized RJ3 ∈ lw_tbl := tb_i 16 (by decide +kernel)
theorem wn_RJ3 : RJ3 ≠ "java/lang/invoke/MethodHandle" ∧ RJ3 ≠ "java/lang/invoke/VarHandle" := ⟨by decide +kernel, by decide +kernel⟩
def mJ3_checkIndex_8e157 : pMT := (yJ3_checkIndex_8e157, cJ3_checkIndex_8e157, 3, some .int)
theorem moJ3_checkIndex_8e157 : mOK mJ3_checkIndex_8e157 3 := ⟨tb_i 486 (by decide +kernel), wi_RJ3, ⟨wn_RJ3.1, wn_RJ3.2, by decide +kernel⟩, by decide, by decide +kernel⟩
theorem mvJ3_checkIndex_8e157 : mS mJ3_checkIndex_8e157 := (tb_i 485 (by decide +kernel) : Cond.static yJ3_checkIndex_8e157 ∈ lw_tbl)
/-! the words' text: String.length and String.charAt on it, over the machine -/
def sByt : List Int32 := [98, 108, 117, 114, 115, 32, 108, 101, 97, 114, 110, 115, 32, 119, 101, 97, 114, 115, 32, 99, 104, 105, 108, 100, 32, 112, 108, 97, 121, 32, 112, 97, 116, 99, 104, 32, 102, 111, 114, 103, 101, 116, 32, 114, 111, 108, 108, 32, 115, 117, 110, 100, 97, 121, 32, 107, 101, 121, 32, 119, 104, 111, 32, 104, 101, 97, 114, 100, 32, 112, 108, 97, 99, 101, 32, 119, 101, 97, 114, 32, 100, 105, 103, 105, 116, 115, 32, 104, 111, 108, 101, 115, 32, 105, 102, 32, 116, 104, 101, 110, 32, 101, 108, 115, 101, 32, 101, 110, 100, 32, 111, 114, 32, 97, 110, 100, 32, 110, 111, 116, 32, 116, 111, 32, 111, 102, 32, 98, 121]
def sTx : String := "blurs learns wears child play patch forget roll sunday key who heard place wear digits holes if then else end or and not to of by"
/-- what is known of the text -/
def SF (A : Nat → Prop) (aS vS : Nat) (U : State) (H : Heap) : Prop := vk_R RX8 70 sTx aS U ∧ vk_S 1 [129] [sByt] (fun _ => aS) (fun _ => vS) A U H ∧ va_Z RJ0 "COMPACT_STRINGS" "Z" (.int 1) A U H ∧ va_Zq "jdk/internal/util/Preconditions" "SIOOBE_FORMATTER" "Ljava/util/function/BiFunction;" A U H
theorem SF.warm {A : Nat → Prop} {aS vS : Nat} {s U : State} {H : Heap} (hW : s.WarmedH U.vm) (h : SF A aS vS s H) : SF A aS vS U H := ⟨h.1.warm hW, h.2.1.moved hW.alike, h.2.2.1.moved hW.alike, h.2.2.2.moved hW.alike⟩
theorem SF.kept {A : Nat → Prop} {aS vS : Nat} {U : State} {H H1 : Heap} (hq : ∀ a : Nat, a < H.size → ¬ A a → H1[a]? = H[a]?) (h : SF A aS vS U H) : SF A aS vS U H1 := ⟨h.1, h.2.1.kept hq, h.2.2.1.kept hq, h.2.2.2.kept hq⟩
/-- a method that only reads: its contract -/
def SMet (l : Launch) (mt : pMT) (d : Nat) (A : Nat → Prop) (aS vS : Nat) (args : List Value) (v : Option Value) : Prop := Met l mt.1 (Cond.code mt.1 mt.2.1 mt.2.2.1 mt.2.2.2 :: gtb) (pRm d 0 0) (va_Pc args (fun U => SF A aS vS U U.heap)) (fun _ st oc t => oc = .returned v ∧ t.heap = st.heap) 0 0 (fun _ => False)
/-- what holds in its body -/
def sC (mt : pMT) (d : Nat) (A : Nat → Prop) (aS vS : Nat) (p : Program) (R : Room) (s : State) (m : MethodId) (args : Array Value) (meth : Method) (c : Code) : Prop :=
  p.tables.exec = Jvm.exec ∧ c.code = mt.2.1 ∧ c.maxLocals = mt.2.2.1 ∧ s.vm.findClass mt.1.cls = some m.cls ∧ (∀ w ∈ gtb, w.before args s = true) ∧ meth.sig.returnType = mt.2.2.2 ∧ meth.locks = false ∧ R = pRm d 0 0 ∧ SF A aS vS s s.heap
theorem smet_of {l : Launch} {mt : pMT} {d : Nat} {A : Nat → Prop} {aS vS : Nat} {args : List Value} {v : Option Value} (hpl : plainFor mt.1 = true) (hlen : (lg_sl args).length ≤ mt.2.2.1)
    (body : ∀ (p : Program) (e : Env) (R : Room) (s : State) (m : MethodId) (below : List Frame) (meth : Method) (c : Code) (ls : Array Slot), sC mt d A aS vS p R s m args.toArray meth c → lv_has ls mt.2.2.1 (lv_args 0 args) →
      W p l e R s m args.toArray below meth c s.heap [] 0 0 (MQ below (fun _ st oc t => oc = .returned v ∧ t.heap = st.heap) args.toArray s 0 0 (fun _ => False)) (F0 m 0 ls [])) : SMet l mt d A aS vS args v := by
  refine met_ofWF (cc := mt.2.1) (maxL := mt.2.2.1) (ret := mt.2.2.2) hpl rfl ?_
  intro p e s m args' below meth c s₁ B hml hv
  obtain ⟨rfl, hF⟩ := hv
  have hts := atoms_spec (ws := Cond.code mt.1 mt.2.1 mt.2.2.1 mt.2.2.2 :: gtb) B.pre
  rw [lg_entry_eq]
  exact body p e (pRm d 0 0) s m below meth c _ ⟨B.exec, B.bytes, hml, findClass_of_methodNamed B.named, fun w hw => hts w (List.mem_cons_of_mem _ hw), B.returns, B.notSynchronized, rfl, hF⟩ (lv_entry args hlen)
section SCall
variable {p : Program} {l : Launch} {e : Env} {R : Room} {s : State} {m : MethodId} {args : Array Value} {below : List Frame} {meth : Method} {c : Code} {H : Heap} {locs : List Loc} {cells slots : Nat} {Q : State → Prop} {pc : Nat} {ls : Array Slot} {rest st0 : List Value} {v : Option Value} {A : Nat → Prop} {aS vS d : Nat}
theorem sm_ret (hr : va_Run p l e R s m args below meth c H locs cells slots 0 0 (F0 m pc ls st0) rest (fun st oc t => oc = .returned v ∧ t.heap = st.heap) (fun _ => False)) (k : W p l e R s m args below meth c H locs cells slots Q (F0 m (pc + 3) ls (v.toList ++ rest))) : W p l e R s m args below meth c H locs cells slots Q (F0 m pc ls st0) := by
  intro T hT X
  obtain ⟨v2, st₀, t, T', L, h0, X', hL, e1, e2, ⟨hv, hh⟩, st⟩ := hr T hT X
  cases hv
  have hl : L = [] := by
    cases L with
    | nil => rfl
    | cons a L => exact (hL a List.mem_cons_self).elim
  subst hl
  rw [List.append_nil] at X'
  obtain ⟨t2, a1, b1⟩ := k T' (by rw [e1, hh, h0]) X'
  exact ⟨t2, st t2 a1, b1⟩
theorem sm_pre {as : List Value} (hH : va_S A s.heap H locs) (hF : SF A aS vS s s.heap) : PreS s H (va_Pc as (fun U => SF A aS vS U U.heap)) as :=
  ⟨fun a U f mk q => ⟨q.1, SF.warm (s := U) (U := U.calling f mk a) (State.WarmedH.refl U) q.2⟩, fun U hU hW => ⟨rfl, by show SF _ _ _ U U.heap; rw [hU]; exact SF.warm hW (SF.kept hH.2.1 hF)⟩⟩
theorem sm_callS {cc : ByteArray} {own : String} {nL idx n : Nat} {mt : pMT} {As : List Value} (hx : p.tables.exec = Jvm.exec) (hb : c.code = cc) (hml : c.maxLocals = nL) (hown : s.vm.findClass own = some m.cls) (hts : ∀ w ∈ gtb, w.before args s = true) (hS : va_S A s.heap H locs) (hF : SF A aS vS s s.heap) (hm : mOK mt n) (hv : mS mt) (hlk : Cond.methodLink own idx mt.1 ∈ lw_tbl) (h : SMet l mt d A aS vS As v) (hn : As.length = n) (hst : st0 = As.reverse ++ rest) (hr : (rest.map fun v => v.category).sum ≤ 8) (hR1 : d + 1 ≤ R.frames) (hR2 : 50 * d + 50 ≤ R.locals) (hc : cells ≤ R.cells ∧ slots ≤ R.slots) (hls : ls.size = nL) (hdg : decode cc pc = .ok (.invokestatic idx, 3)) (k : W p l e R s m args below meth c H locs cells slots Q (F0 m (pc + 3) ls (v.toList ++ rest))) : W p l e R s m args below meth c H locs cells slots Q (F0 m pc ls st0) := by
  subst hst
  have hmm := hm.2.2.2.1
  refine sm_ret (va_runS (As := As) (bytes := mt.2.1) (maxL := mt.2.2.1) (ret := mt.2.2.2) (n := n) ⟨hx, hb, hml, hown, hts⟩ h ⟨callB_of n hts (gtb_ws hm) rfl rfl rfl (hts _ (in_gtb hm.2.1 rfl)) (hts _ (in_gtb hlk rfl)) hm.2.2.1 ⟨?_, ?_⟩, hts _ (in_gtb hv rfl)⟩ (sm_pre hS hF) rfl hn hls rfl ?_ hdg ⟨by omega, by omega⟩) k
  · show d + 1 ≤ R.frames
    exact hR1
  · show 8 + (mt.2.2.1 + 11) + 50 * d ≤ R.locals
    omega
  · show 2 * 0 + (rest.map fun v => v.category).sum ≤ 8
    omega
theorem sm_callV {cc : ByteArray} {own : String} {nL idx n : Nat} {mt : pMT} {As : List Value} (hx : p.tables.exec = Jvm.exec) (hb : c.code = cc) (hml : c.maxLocals = nL) (hown : s.vm.findClass own = some m.cls) (hts : ∀ w ∈ gtb, w.before args s = true) (hS : va_S A s.heap H locs) (hF : SF A aS vS s s.heap) (hm : mOK mt n) (hv : mV mt) (hcl : mt.1.cls = RJ0) (hlk : Cond.methodLink own idx mt.1 ∈ lw_tbl) (h : SMet l mt d A aS vS (.ref aS :: As) v) (hn : As.length = n) (hst : st0 = As.reverse ++ .ref aS :: rest) (hr : (rest.map fun v => v.category).sum ≤ 8) (hR1 : d + 1 ≤ R.frames) (hR2 : 50 * d + 50 ≤ R.locals) (hc : cells ≤ R.cells ∧ slots ≤ R.slots) (hls : ls.size = nL) (hdg : decode cc pc = .ok (.invokevirtual idx, 3)) (k : W p l e R s m args below meth c H locs cells slots Q (F0 m (pc + 3) ls (v.toList ++ rest))) : W p l e R s m args below meth c H locs cells slots Q (F0 m pc ls st0) := by
  subst hst
  have hmm := hm.2.2.2.1
  have hpre := sm_pre (as := .ref aS :: As) hS hF
  have hrecv : ∃ cellB : Cell, H[aS]? = some cellB ∧ cellB.vm.isStatics = false ∧ s.vm.findClass mt.1.cls = some cellB.cls := by
    rw [hcl]
    exact vk_recv (i := 0) hF.2.1 (by decide) hS
  refine sm_ret (va_runV (C := mt.1.cls) (b := aS) (As := As) (bytes := mt.2.1) (maxL := mt.2.2.1) (ret := mt.2.2.2) (n := n) ⟨hx, hb, hml, hown, hts⟩ h ⟨callB_of n hts (gtb_ws hm) rfl rfl rfl (hts _ (in_gtb hm.2.1 rfl)) (hts _ (in_gtb hlk rfl)) hm.2.2.1 ⟨?_, ?_⟩, hts _ (in_gtb hv.1 rfl), hts _ (in_gtb hv.2 rfl)⟩ ⟨hpre.1, hrecv, hpre.2⟩ rfl hn hls rfl ?_ hdg ⟨by omega, by omega⟩) k
  · show d + 1 ≤ R.frames
    exact hR1
  · show 8 + (mt.2.2.1 + 11) + 50 * d ≤ R.locals
    omega
  · show 2 * 0 + (rest.map fun v => v.category).sum ≤ 8
    omega
end SCall
theorem sk_coder {l : Launch} {A : Nat → Prop} {aS vS : Nat} : SMet l mJ0_coder_7d493 1 A aS vS [.ref aS] (some (.int 0)) := by
  refine smet_of moJ0_coder_7d493.2.2.2.2 (Nat.le_of_ble_eq_true rfl) ?_
  intro p e R s m below meth c ls ⟨hx, hb, hml, hown, hts, hr, hlk, hR, hF⟩ hl
  have hl : lv_has ls 1 [(0, .ref aS)] := hl
  refine va_gets (C := RJ0) (own := RJ0) hx hb hF.2.2.1 va_S.rf hown (hts _ (in_gtb flS_38 rfl)) (fun _ h => h) dJ0_coder_7d493_0 ?_
  refine lv_if_eq (tgt := 13) hx hb dJ0_coder_7d493_3 (by decide) (fun h => absurd h (by decide)) (fun _ => ?_)
  refine lv_aload_n hx hb dJ0_coder_7d493_6 rfl (lv_at hl 0 rfl) ?_
  refine vk_getf (own := RJ0) hx hb (hF.2.1.1 0 (by decide)).2.1 va_S.rf hown (hts _ (in_gtb flS_15 rfl)) (fun _ h => h) dJ0_coder_7d493_7 ?_
  refine lv_goto (tgt := 14) hx hb dJ0_coder_7d493_10 (by decide) ?_
  exact W.zret (ty := .byte) hx hb hr (by decide +kernel) (fun t ht _ => ⟨rfl, ht⟩) (fun _ h => by cases h) dJ0_coder_7d493_14 hlk
theorem sk_isLatin1 {l : Launch} {A : Nat → Prop} {aS vS : Nat} : SMet l mJ0_isLatin1_aae02 1 A aS vS [.ref aS] (some (.int 1)) := by
  refine smet_of moJ0_isLatin1_aae02.2.2.2.2 (Nat.le_of_ble_eq_true rfl) ?_
  intro p e R s m below meth c ls ⟨hx, hb, hml, hown, hts, hr, hlk, hR, hF⟩ hl
  have hl : lv_has ls 1 [(0, .ref aS)] := hl
  refine va_gets (C := RJ0) (own := RJ0) hx hb hF.2.2.1 va_S.rf hown (hts _ (in_gtb flS_38 rfl)) (fun _ h => h) dJ0_isLatin1_aae02_0 ?_
  refine lv_if_eq (tgt := 17) hx hb dJ0_isLatin1_aae02_3 (by decide) (fun h => absurd h (by decide)) (fun _ => ?_)
  refine lv_aload_n hx hb dJ0_isLatin1_aae02_6 rfl (lv_at hl 0 rfl) ?_
  refine vk_getf (own := RJ0) hx hb (hF.2.1.1 0 (by decide)).2.1 va_S.rf hown (hts _ (in_gtb flS_15 rfl)) (fun _ h => h) dJ0_isLatin1_aae02_7 ?_
  refine lv_if_ne (tgt := 17) hx hb dJ0_isLatin1_aae02_10 (by decide) (fun h => absurd rfl h) (fun _ => ?_)
  refine lv_iconst (v := 1) hx hb dJ0_isLatin1_aae02_13 (by decide) ?_
  refine lv_goto (tgt := 18) hx hb dJ0_isLatin1_aae02_14 (by decide) ?_
  exact W.zret (ty := .boolean) hx hb hr (by decide +kernel) (fun t ht _ => ⟨rfl, ht⟩) (fun _ h => by cases h) dJ0_isLatin1_aae02_18 hlk
theorem sk_pre {l : Launch} {A : Nat → Prop} {aS vS : Nat} {i n : Int32} {q : Value} (hq : q.category = 1) (h0 : ¬ i < 0) (hn : i < n) : SMet l mJ3_checkIndex_8e157 1 A aS vS [.int i, .int n, q] (some (.int i)) := by
  refine smet_of moJ3_checkIndex_8e157.2.2.2.2 (by cases q <;> first | exact Nat.le_of_ble_eq_true rfl | cases hq) ?_
  intro p e R s m below meth c ls ⟨hx, hb, hml, hown, hts, hr, hlk, hR, hF⟩ hl
  have hl : lv_has ls 3 [(0, .int i), (1, .int n), (2, q)] := by
    cases q <;> first | exact hl | cases hq
  refine lv_iload_n hx hb dJ3_checkIndex_8e157_0 rfl (lv_at hl 0 rfl) ?_
  refine lv_if_lt (tgt := 9) hx hb dJ3_checkIndex_8e157_1 (by decide) (fun h => absurd h h0) (fun _ => ?_)
  refine lv_iload_n hx hb dJ3_checkIndex_8e157_4 rfl (lv_at hl 0 rfl) ?_
  refine lv_iload_n hx hb dJ3_checkIndex_8e157_5 rfl (lv_at hl 1 rfl) ?_
  refine lv_icmp_lt (tgt := 16) hx hb dJ3_checkIndex_8e157_6 (by decide) (fun _ => ?_) (fun h => absurd hn h)
  refine lv_iload_n hx hb dJ3_checkIndex_8e157_16 rfl (lv_at hl 0 rfl) ?_
  exact W.iret hx hb hr (fun t ht _ => ⟨rfl, ht⟩) (fun _ h => by cases h) dJ3_checkIndex_8e157_17 hlk
theorem sk_check {l : Launch} {A : Nat → Prop} {aS vS : Nat} {i n : Int32} (h0 : ¬ i < 0) (hn : i < n) : SMet l mJ0_checkIndex_df160 3 A aS vS [.int i, .int n] none := by
  refine smet_of moJ0_checkIndex_df160.2.2.2.2 (Nat.le_of_ble_eq_true rfl) ?_
  intro p e R s m below meth c ls ⟨hx, hb, hml, hown, hts, hr, hlk, hR, hF⟩ hl
  have hl : lv_has ls 2 [(0, .int i), (1, .int n)] := hl
  refine lv_iload_n hx hb dJ0_checkIndex_df160_0 rfl (lv_at hl 0 rfl) ?_
  refine lv_iload_n hx hb dJ0_checkIndex_df160_1 rfl (lv_at hl 1 rfl) ?_
  have go : ∀ q : Value, q.category = 1 → W p l e R s m ([.int i, .int n] : List Value).toArray below meth c s.heap [] 0 0 (MQ below (fun _ st oc t => oc = .returned none ∧ t.heap = st.heap) ([.int i, .int n] : List Value).toArray s 0 0 (fun _ => False)) (F0 m 5 ls [q, .int n, .int i]) := by
    intro q hq
    refine sm_callS (As := [.int i, .int n, q]) (rest := []) (mt := mJ3_checkIndex_8e157) (v := some (.int i)) hx hb hml hown hts va_S.rf hF moJ3_checkIndex_8e157 mvJ3_checkIndex_8e157 lkRJ0_1059 (sk_pre hq h0 hn) rfl rfl (Nat.le_of_ble_eq_true rfl) (by rw [hR]; show 1 + 1 ≤ 3; decide) (by rw [hR]; show 50 * 1 + 50 ≤ 50 * 3; decide) ⟨Nat.zero_le _, Nat.zero_le _⟩ hl.1 dJ0_checkIndex_df160_5 ?_
    refine lv_pop (va := .int i) (rest := []) hx hb dJ0_checkIndex_df160_8 rfl ?_
    exact W.vret hx hb hr (fun t ht _ => ⟨rfl, ht⟩) (fun _ h => by cases h) dJ0_checkIndex_df160_9 hlk
  rcases hF.2.2.2 with hZ | ⟨t, hZ⟩
  · refine va_gets (own := RJ0) hx hb hZ va_S.rf hown (hts _ (in_gtb flS_1053 rfl)) (fun _ h => h) dJ0_checkIndex_df160_2 ?_
    exact go .null rfl
  · refine va_gets (own := RJ0) hx hb hZ va_S.rf hown (hts _ (in_gtb flS_1053 rfl)) (fun _ h => h) dJ0_checkIndex_df160_2 ?_
    exact go (.ref t) rfl
theorem s_byte : ∀ k, k < 129 → ((sByt.getD k 0 &&& 255).toUInt32 % 65536).toInt32 = wch k ∧ narrow .char (.int (wch k)) = .int (wch k) := by decide +kernel
theorem sk_lat {l : Launch} {A : Nat → Prop} {aS vS : Nat} {i : Int32} (hi : vp_in i 129) : SMet l mJ1_charAt_3b067 5 A aS vS [.ref vS, .int i] (some (.int (wch i.toNatClampNeg))) := by
  refine smet_of moJ1_charAt_3b067.2.2.2.2 (Nat.le_of_ble_eq_true rfl) ?_
  intro p e R s m below meth c ls ⟨hx, hb, hml, hown, hts, hr, hlk, hR, hF⟩ hl
  have hl : lv_has ls 2 [(0, .ref vS), (1, .int i)] := hl
  have hT := (hF.2.1.1 0 (by decide)).2.2.2
  have hT : va_T .byte vS 129 (fun j => .int (sByt.getD j 0)) A s s.heap := hT
  have hlt : i.toNatClampNeg < 129 := clamp_lt hi
  have h0 : ¬ i < 0 := fun h => hi (Or.inl h)
  have hn : i < 129 := by
    obtain ⟨j, hj, rfl⟩ := vp_in_of hi (by decide)
    exact nI_lt hj (by decide)
  refine lv_iload_n hx hb dJ1_charAt_3b067_0 rfl (lv_at hl 1 rfl) ?_
  refine lv_aload_n hx hb dJ1_charAt_3b067_1 rfl (lv_at hl 0 rfl) ?_
  refine va_tlen (v := 129) hx hb hT va_S.rf (by decide) dJ1_charAt_3b067_2 ?_
  refine sm_callS (As := [.int i, .int 129]) (rest := []) (mt := mJ0_checkIndex_df160) (v := none) hx hb hml hown hts va_S.rf hF moJ0_checkIndex_df160 mvJ0_checkIndex_df160 lkRJ1_9 (sk_check h0 hn) rfl rfl (Nat.le_of_ble_eq_true rfl) (by rw [hR]; show 3 + 1 ≤ 5; decide) (by rw [hR]; show 50 * 3 + 50 ≤ 50 * 5; decide) ⟨Nat.zero_le _, Nat.zero_le _⟩ hl.1 dJ1_charAt_3b067_3 ?_
  refine lv_aload_n hx hb dJ1_charAt_3b067_6 rfl (lv_at hl 0 rfl) ?_
  refine lv_iload_n hx hb dJ1_charAt_3b067_7 rfl (lv_at hl 1 rfl) ?_
  refine va_tb (v := .int (sByt.getD i.toNatClampNeg 0)) hx hb hT va_S.rf hi rfl dJ1_charAt_3b067_8 ?_
  refine lv_sipush (v := 255) hx hb dJ1_charAt_3b067_9 (by decide) ?_
  refine lv_iand hx hb dJ1_charAt_3b067_12 ?_
  refine lv_i2c (v := wch i.toNatClampNeg) hx hb dJ1_charAt_3b067_13 (s_byte _ hlt).1 ?_
  exact W.zret (ty := .char) hx hb hr (s_byte _ hlt).2 (fun t ht _ => ⟨rfl, ht⟩) (fun _ h => by cases h) dJ1_charAt_3b067_14 hlk
theorem sk_charAt {l : Launch} {A : Nat → Prop} {aS vS : Nat} {i : Int32} (hi : vp_in i 129) : SMet l mJ0_charAt_5068e 7 A aS vS [.ref aS, .int i] (some (.int (wch i.toNatClampNeg))) := by
  refine smet_of moJ0_charAt_5068e.2.2.2.2 (Nat.le_of_ble_eq_true rfl) ?_
  intro p e R s m below meth c ls ⟨hx, hb, hml, hown, hts, hr, hlk, hR, hF⟩ hl
  have hl : lv_has ls 2 [(0, .ref aS), (1, .int i)] := hl
  have hlt : i.toNatClampNeg < 129 := clamp_lt hi
  refine lv_aload_n hx hb dJ0_charAt_5068e_0 rfl (lv_at hl 0 rfl) ?_
  refine sm_callV (As := []) (rest := []) (mt := mJ0_isLatin1_aae02) (v := some (.int 1)) hx hb hml hown hts va_S.rf hF moJ0_isLatin1_aae02 mvJ0_isLatin1_aae02 rfl lkRJ0_492 sk_isLatin1 rfl rfl (Nat.le_of_ble_eq_true rfl) (by rw [hR]; show 1 + 1 ≤ 7; decide) (by rw [hR]; show 50 * 1 + 50 ≤ 50 * 7; decide) ⟨Nat.zero_le _, Nat.zero_le _⟩ hl.1 dJ0_charAt_5068e_1 ?_
  refine lv_if_eq (x := 1) (rest := []) (tgt := 16) hx hb dJ0_charAt_5068e_4 (by decide) (fun h => absurd h (by decide)) (fun _ => ?_)
  refine lv_aload_n hx hb dJ0_charAt_5068e_7 rfl (lv_at hl 0 rfl) ?_
  refine vk_getf (own := RJ0) hx hb (hF.2.1.1 0 (by decide)).2.2.1 va_S.rf hown (hts _ (in_gtb flS_9 rfl)) (fun _ h => h) dJ0_charAt_5068e_8 ?_
  refine lv_iload_n hx hb dJ0_charAt_5068e_11 rfl (lv_at hl 1 rfl) ?_
  refine sm_callS (As := [.ref vS, .int i]) (rest := []) (mt := mJ1_charAt_3b067) (v := some (.int (wch i.toNatClampNeg))) hx hb hml hown hts va_S.rf hF moJ1_charAt_3b067 mvJ1_charAt_3b067 lkRJ0_495 (sk_lat hi) rfl rfl (Nat.le_of_ble_eq_true rfl) (by rw [hR]; show 5 + 1 ≤ 7; decide) (by rw [hR]; show 50 * 5 + 50 ≤ 50 * 7; decide) ⟨Nat.zero_le _, Nat.zero_le _⟩ hl.1 dJ0_charAt_5068e_12 ?_
  exact W.zret (ty := .char) (v := wch i.toNatClampNeg) hx hb hr (s_byte _ hlt).2 (fun t ht _ => ⟨rfl, ht⟩) (fun _ h => by cases h) dJ0_charAt_5068e_15 hlk
theorem sk_length {l : Launch} {A : Nat → Prop} {aS vS : Nat} : SMet l mJ0_length_8abf5 3 A aS vS [.ref aS] (some (.int 129)) := by
  refine smet_of moJ0_length_8abf5.2.2.2.2 (Nat.le_of_ble_eq_true rfl) ?_
  intro p e R s m below meth c ls ⟨hx, hb, hml, hown, hts, hr, hlk, hR, hF⟩ hl
  have hl : lv_has ls 1 [(0, .ref aS)] := hl
  have hT := (hF.2.1.1 0 (by decide)).2.2.2
  have hT : va_T .byte vS 129 (fun j => .int (sByt.getD j 0)) A s s.heap := hT
  refine lv_aload_n hx hb dJ0_length_8abf5_0 rfl (lv_at hl 0 rfl) ?_
  refine vk_getf (own := RJ0) hx hb (hF.2.1.1 0 (by decide)).2.2.1 va_S.rf hown (hts _ (in_gtb flS_9 rfl)) (fun _ h => h) dJ0_length_8abf5_1 ?_
  refine va_tlen (v := 129) hx hb hT va_S.rf (by decide) dJ0_length_8abf5_4 ?_
  refine lv_aload_n hx hb dJ0_length_8abf5_5 rfl (lv_at hl 0 rfl) ?_
  refine sm_callV (As := []) (rest := [.int 129]) (mt := mJ0_coder_7d493) (v := some (.int 0)) hx hb hml hown hts va_S.rf hF moJ0_coder_7d493 mvJ0_coder_7d493 rfl lkRJ0_335 sk_coder rfl rfl (Nat.le_of_ble_eq_true rfl) (by rw [hR]; show 1 + 1 ≤ 3; decide) (by rw [hR]; show 50 * 1 + 50 ≤ 50 * 3; decide) ⟨Nat.zero_le _, Nat.zero_le _⟩ hl.1 dJ0_length_8abf5_6 ?_
  refine lv_ishr (x := 129) (y := 0) (rest := []) hx hb dJ0_length_8abf5_9 ?_
  exact W.iret (v := 129) hx hb hr (fun t ht _ => ⟨rfl, ht⟩) (fun _ h => by cases h) dJ0_length_8abf5_10 hlk
/-- the rules of the text hold where it is known -/
theorem str_ok {g : pG} {vS : Nat} (hg : ∀ (U : State) (H : Heap), gh g U H → SF (pA g) (gS g) vS U H) : StrOK g := by
  refine ⟨?_, ?_, ?_⟩
  · intro x Q pc l r w hd hx9 k p e R s m args below meth c Qf hc hx H locs ls kc ks hH hS hk hn hl
    have hF := hg _ _ hc.2.2.2.2.2.2.2.2.2.2.2.1.2.2
    exact va_ldcS (own := RX8) (q := gS g) hc.1 hc.2.1 (by rw [← hx9]; exact hc.2.2.2.1) hF.1 hd (k p e R s m args below meth c Qf hc hx H locs ls kc ks hH hS hk hn hl)
  · intro x Q pc l r w idx hd hlk hdp hr hb1 hb2 k p e R s m args below meth c Qf hc hx H locs ls kc ks hH hS hk hn hl
    have hF := hg _ _ hc.2.2.2.2.2.2.2.2.2.2.2.1.2.2
    have hR3 := hc.2.2.2.2.2.2.1
    have hR4 := hc.2.2.2.2.2.2.2.1
    have hR1 := hc.2.2.2.2.2.2.2.2.1
    have hR2 := hc.2.2.2.2.2.2.2.2.2.1
    exact sm_callV (As := []) (rest := r.map (ptv g)) (mt := mJ0_length_8abf5) (v := some (.int 129)) hc.1 hc.2.1 hc.2.2.1 hc.2.2.2.1 hc.2.2.2.2.1 hS hF moJ0_length_8abf5 mvJ0_length_8abf5 rfl hlk sk_length rfl rfl (by rw [List.map_map, show ((fun v : Value => v.category) ∘ ptv g) = fun v => v.category from funext fun v => ptv_cat g v]; exact hr) (by omega) (by omega) ⟨by omega, by omega⟩ hl.1 hd (k p e R s m args below meth c Qf hc hx H locs ls kc ks hH hS hk hn hl)
  · intro x Q pc l r w idx i hd hlk hdp hr hb1 hb2 hi k p e R s m args below meth c Qf hc hx H locs ls kc ks hH hS hk hn hl
    have hF := hg _ _ hc.2.2.2.2.2.2.2.2.2.2.2.1.2.2
    have hR3 := hc.2.2.2.2.2.2.1
    have hR4 := hc.2.2.2.2.2.2.2.1
    have hR1 := hc.2.2.2.2.2.2.2.2.1
    have hR2 := hc.2.2.2.2.2.2.2.2.2.1
    exact sm_callV (As := [.int i]) (rest := r.map (ptv g)) (mt := mJ0_charAt_5068e) (v := some (.int (wch i.toNatClampNeg))) hc.1 hc.2.1 hc.2.2.1 hc.2.2.2.1 hc.2.2.2.2.1 hS hF moJ0_charAt_5068e mvJ0_charAt_5068e rfl hlk (sk_charAt hi) rfl rfl (by rw [List.map_map, show ((fun v : Value => v.category) ∘ ptv g) = fun v => v.category from funext fun v => ptv_cat g v]; exact hr) (by omega) (by omega) ⟨by omega, by omega⟩ hl.1 hd (k p e R s m args below meth c Qf hc hx H locs ls kc ks hH hS hk hn hl)
