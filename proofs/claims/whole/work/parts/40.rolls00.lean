theorem flRX11_10 : FL RX11 10 11 0 := ⟨(RX11, TX11, 11), rfl, by decide, tb_i 356 (by decide +kernel)⟩
theorem flRX11_22 : FL RX11 22 11 2 := ⟨(RX11, TX11, 11), rfl, by decide, tb_i 358 (by decide +kernel)⟩
theorem flRX11_28 : FL RX11 28 11 3 := ⟨(RX11, TX11, 11), rfl, by decide, tb_i 359 (by decide +kernel)⟩
theorem flRX11_35 : FL RX11 35 11 4 := ⟨(RX11, TX11, 11), rfl, by decide, tb_i 360 (by decide +kernel)⟩
theorem flRX11_42 : FL RX11 42 11 6 := ⟨(RX11, TX11, 11), rfl, by decide, tb_i 362 (by decide +kernel)⟩
theorem flRX11_51 : FL RX11 51 11 7 := ⟨(RX11, TX11, 11), rfl, by decide, tb_i 363 (by decide +kernel)⟩
theorem flRX11_58 : FL RX11 58 11 8 := ⟨(RX11, TX11, 11), rfl, by decide, tb_i 364 (by decide +kernel)⟩
theorem flRX11_65 : FL RX11 65 11 9 := ⟨(RX11, TX11, 11), rfl, by decide, tb_i 365 (by decide +kernel)⟩
theorem flRX11_75 : FL RX11 75 11 5 := ⟨(RX11, TX11, 11), rfl, by decide, tb_i 361 (by decide +kernel)⟩
theorem flRX11_79 : FL RX11 79 9 0 := ⟨(RX9, TX9, 10), rfl, by decide, tb_i 125 (by decide +kernel)⟩
theorem flRX11_90 : FL RX11 90 10 1 := ⟨(RX10, TX10, 5), rfl, by decide, tb_i 80 (by decide +kernel)⟩
theorem flRX11_94 : FL RX11 94 10 2 := ⟨(RX10, TX10, 5), rfl, by decide, tb_i 84 (by decide +kernel)⟩
theorem flRX11_98 : FL RX11 98 3 0 := ⟨(RX3, TX3, 6), rfl, by decide, tb_i 49 (by decide +kernel)⟩
theorem flRX11_103 : FL RX11 103 9 1 := ⟨(RX9, TX9, 10), rfl, by decide, tb_i 128 (by decide +kernel)⟩
theorem flRX11_117 : FL RX11 117 8 4 := ⟨(RX8, TX8, 6), rfl, by decide, tb_i 187 (by decide +kernel)⟩
theorem flRX11_125 : FL RX11 125 9 8 := ⟨(RX9, TX9, 10), rfl, by decide, tb_i 144 (by decide +kernel)⟩
theorem flRX11_135 : FL RX11 135 11 10 := ⟨(RX11, TX11, 11), rfl, by decide, tb_i 366 (by decide +kernel)⟩
theorem flRX11_139 : FL RX11 139 5 6 := ⟨(RX5, TX5, 8), rfl, by decide, tb_i 336 (by decide +kernel)⟩
theorem flRX11_142 : FL RX11 142 5 7 := ⟨(RX5, TX5, 8), rfl, by decide, tb_i 338 (by decide +kernel)⟩
theorem flRX11_149 : FL RX11 149 9 9 := ⟨(RX9, TX9, 10), rfl, by decide, tb_i 146 (by decide +kernel)⟩
theorem flRX11_182 : FL RX11 182 3 4 := ⟨(RX3, TX3, 6), rfl, by decide, tb_i 60 (by decide +kernel)⟩
theorem flRX11_189 : FL RX11 189 7 6 := ⟨(RX7, TX7, 7), rfl, by decide, tb_i 305 (by decide +kernel)⟩
theorem flRX11_205 : FL RX11 205 3 5 := ⟨(RX3, TX3, 6), rfl, by decide, tb_i 63 (by decide +kernel)⟩
theorem flRX11_256 : FL RX11 256 10 3 := ⟨(RX10, TX10, 5), rfl, by decide, tb_i 89 (by decide +kernel)⟩
theorem flRX11_259 : FL RX11 259 10 4 := ⟨(RX10, TX10, 5), rfl, by decide, tb_i 92 (by decide +kernel)⟩
theorem flRX11_262 : FL RX11 262 3 3 := ⟨(RX3, TX3, 6), rfl, by decide, tb_i 56 (by decide +kernel)⟩
theorem lkRX11_82 : Cond.methodLink RX11 82 yX10_addRoll ∈ lw_tbl := tb_i 394 (by decide +kernel)
theorem lkRX11_86 : Cond.methodLink RX11 86 yX10_hasPlace ∈ lw_tbl := tb_i 402 (by decide +kernel)
theorem lkRX11_107 : Cond.methodLink RX11 107 yX0_tellWear ∈ lw_tbl := tb_i 410 (by decide +kernel)
theorem lkRX11_113 : Cond.methodLink RX11 113 yX10_addChild ∈ lw_tbl := tb_i 418 (by decide +kernel)
theorem lkRX11_121 : Cond.methodLink RX11 121 yX8_add ∈ lw_tbl := tb_i 426 (by decide +kernel)
theorem lkRX11_128 : Cond.methodLink RX11 128 yX8_cut ∈ lw_tbl := tb_i 438 (by decide +kernel)
theorem lkRX11_131 : Cond.methodLink RX11 131 yX5_read ∈ lw_tbl := tb_i 530 (by decide +kernel)
theorem lkRX11_145 : Cond.methodLink RX11 145 yX11_textOf ∈ lw_tbl := tb_i 653 (by decide +kernel)
theorem lkRX11_152 : Cond.methodLink RX11 152 yX10_hasRoll ∈ lw_tbl := tb_i 661 (by decide +kernel)
theorem lkRX11_156 : Cond.methodLink RX11 156 yX10_hasChild ∈ lw_tbl := tb_i 665 (by decide +kernel)
theorem lkRX11_159 : Cond.methodLink RX11 159 yX9_keepStep ∈ lw_tbl := tb_i 669 (by decide +kernel)
theorem lkRX11_162 : Cond.methodLink RX11 162 yX11_ruling ∈ lw_tbl := tb_i 691 (by decide +kernel)
theorem lkRX11_165 : Cond.methodLink RX11 165 yX4_playRoll ∈ lw_tbl := tb_i 695 (by decide +kernel)
theorem lkRX11_169 : Cond.methodLink RX11 169 yX10_wearAt ∈ lw_tbl := tb_i 824 (by decide +kernel)
theorem lkRX11_173 : Cond.methodLink RX11 173 yX10_mend ∈ lw_tbl := tb_i 825 (by decide +kernel)
theorem lkRX11_176 : Cond.methodLink RX11 176 yX10_heardBy ∈ lw_tbl := tb_i 833 (by decide +kernel)
theorem lkRX11_179 : Cond.methodLink RX11 179 yX10_unhear ∈ lw_tbl := tb_i 837 (by decide +kernel)
theorem lkRX11_185 : Cond.methodLink RX11 185 yX4_passSunday ∈ lw_tbl := tb_i 845 (by decide +kernel)
theorem lkRX11_192 : Cond.methodLink RX11 192 yX7_first ∈ lw_tbl := tb_i 854 (by decide +kernel)
theorem lkRX11_195 : Cond.methodLink RX11 195 yX7_kind ∈ lw_tbl := tb_i 855 (by decide +kernel)
theorem lkRX11_198 : Cond.methodLink RX11 198 yX11_passSundays ∈ lw_tbl := tb_i 859 (by decide +kernel)
theorem lkRX11_201 : Cond.methodLink RX11 201 yX11_carryOut ∈ lw_tbl := tb_i 863 (by decide +kernel)
theorem lkRX11_208 : Cond.methodLink RX11 208 yX4_passYear ∈ lw_tbl := tb_i 883 (by decide +kernel)
theorem lkRX11_212 : Cond.methodLink RX11 212 yX0_takeBack ∈ lw_tbl := tb_i 897 (by decide +kernel)
theorem lkRX11_216 : Cond.methodLink RX11 216 yX6_learntKeys ∈ lw_tbl := tb_i 905 (by decide +kernel)
theorem lkRX11_220 : Cond.methodLink RX11 220 yX10_allHeard ∈ lw_tbl := tb_i 914 (by decide +kernel)
theorem lkRX11_223 : Cond.methodLink RX11 223 yX10_mostHeard ∈ lw_tbl := tb_i 919 (by decide +kernel)
theorem lkRX11_226 : Cond.methodLink RX11 226 yX10_size ∈ lw_tbl := tb_i 931 (by decide +kernel)
theorem lkRX11_228 : Cond.methodLink RX11 228 yX10_holes ∈ lw_tbl := tb_i 932 (by decide +kernel)
theorem lkRX11_231 : Cond.methodLink RX11 231 yX10_tornPlaces ∈ lw_tbl := tb_i 933 (by decide +kernel)
theorem lkRX11_234 : Cond.methodLink RX11 234 yX10_keysIn ∈ lw_tbl := tb_i 942 (by decide +kernel)
theorem lkRX11_237 : Cond.methodLink RX11 237 yX4_playingsToTear ∈ lw_tbl := tb_i 947 (by decide +kernel)
theorem lkRX11_240 : Cond.methodLink RX11 240 yX10_keyAt ∈ lw_tbl := tb_i 960 (by decide +kernel)
theorem lkRX11_243 : Cond.methodLink RX11 243 yX1_wears ∈ lw_tbl := tb_i 961 (by decide +kernel)
theorem lkRX11_247 : Cond.methodLink RX11 247 yX1_blurs ∈ lw_tbl := tb_i 966 (by decide +kernel)
theorem lkRX11_250 : Cond.methodLink RX11 250 yX10_timesHeard ∈ lw_tbl := tb_i 967 (by decide +kernel)
theorem lkRX11_253 : Cond.methodLink RX11 253 yX1_learns ∈ lw_tbl := tb_i 968 (by decide +kernel)
theorem lkRX11_265 : Cond.methodLink RX11 265 yX3_written ∈ lw_tbl := tb_i 977 (by decide +kernel)
theorem lkRX11_268 : Cond.methodLink RX11 268 yX10_take ∈ lw_tbl := tb_i 985 (by decide +kernel)
theorem lkRX11_272 : Cond.methodLink RX11 272 yX2_changes ∈ lw_tbl := tb_i 995 (by decide +kernel)
theorem lkRX11_276 : Cond.methodLink RX11 276 yX2_findShared ∈ lw_tbl := tb_i 1017 (by decide +kernel)
theorem lkRX11_279 : Cond.methodLink RX11 279 yX2_sharedPlace ∈ lw_tbl := tb_i 1040 (by decide +kernel)
theorem lkRX11_385 : Cond.methodLink RX11 385 yX7_second ∈ lw_tbl := tb_i 867 (by decide +kernel)
theorem lkRX11_388 : Cond.methodLink RX11 388 yX11_cutRoll ∈ lw_tbl := tb_i 868 (by decide +kernel)
theorem lkRX11_392 : Cond.methodLink RX11 392 yX11_child ∈ lw_tbl := tb_i 875 (by decide +kernel)
theorem lkRX11_395 : Cond.methodLink RX11 395 yX11_play ∈ lw_tbl := tb_i 876 (by decide +kernel)
theorem lkRX11_398 : Cond.methodLink RX11 398 yX11_patch ∈ lw_tbl := tb_i 877 (by decide +kernel)
theorem lkRX11_401 : Cond.methodLink RX11 401 yX11_forget ∈ lw_tbl := tb_i 878 (by decide +kernel)
theorem lkRX11_404 : Cond.methodLink RX11 404 yX11_roll ∈ lw_tbl := tb_i 872 (by decide +kernel)
theorem lkRX11_407 : Cond.methodLink RX11 407 yX7_stepAt ∈ lw_tbl := tb_i 873 (by decide +kernel)
theorem lkRX11_410 : Cond.methodLink RX11 410 yX11_hole ∈ lw_tbl := tb_i 874 (by decide +kernel)
theorem dX11_roll_0 : decode cX11_roll 0 = .ok (.aload_n 0, 1) := by decide +kernel
theorem dX11_roll_1 : decode cX11_roll 1 = .ok (.getfield 10, 3) := by decide +kernel
theorem dX11_roll_4 : decode cX11_roll 4 = .ok (.getfield 79, 3) := by decide +kernel
theorem dX11_roll_7 : decode cX11_roll 7 = .ok (.iload_n 1, 1) := by decide +kernel
theorem dX11_roll_8 : decode cX11_roll 8 = .ok (.invokevirtual 82, 3) := by decide +kernel
theorem dX11_roll_11 : decode cX11_roll 11 = .ok (.ireturn, 1) := by decide +kernel
theorem wi_RX11 : Cond.initialized RX11 ∈ lw_tbl := tb_i 1 (by decide +kernel)
theorem wn_RX11 : RX11 ≠ "java/lang/invoke/MethodHandle" ∧ RX11 ≠ "java/lang/invoke/VarHandle" := ⟨by decide +kernel, by decide +kernel⟩
theorem wp_RX11 : plainName RX11 = true := by decide +kernel
def m11_roll : pMT := (yX11_roll, cX11_roll, 2, some .int)
theorem mo11_roll : mOK m11_roll 1 := ⟨tb_i 393 (by decide +kernel), wi_RX11, ⟨wn_RX11.1, wn_RX11.2, by decide +kernel⟩, by decide, plainFor_of_name wp_RX11⟩
theorem mv11_roll : mV m11_roll := ⟨tb_i 391 (by decide +kernel), tb_i 392 (by decide +kernel)⟩
def f11_roll (I : (Nat → Nat → Int32)) (O : (Nat → Nat → Option Nat)) (a0 : Nat) (x1 : Int32) : Option (Int32 × (Nat → Nat → Int32)) := (f10_addRoll I O (rO O (rO O a0 0) 0) x1).bind fun r3 => some (r3.1, r3.2)
set_option maxHeartbeats 4000000 in
set_option maxRecDepth 20000 in
theorem o11_roll {g : pG} {Qx : Option Value → pW → Prop} {Z : pZ} {I : (Nat → Nat → Int32)} {L : (Nat → Nat → Int64)} {O : (Nat → Nat → Option Nat)} {a0 : Nat} {x1 : Int32} {res : Int32 × (Nat → Nat → Int32)} (d : Nat) (hW : WT Z O) (hZ0 : Z[a0]? = some (11, 11)) (h : f11_roll I O a0 x1 = some res) (hQ : Qx (some (.int res.1)) (Z, res.2, L, O)) : Ok g (d + 3, RX11, cX11_roll, 2, false, 0, 0, Z.length, pSl Z) Qx 0 [(0, .ref a0), (1, .int x1)] [] (Z, I, L, O) := by
  unfold f11_roll at h
  refine ok_aload_n dX11_roll_0 0 rfl ?_
  have hT1 : Z[(rO O a0 0)]? = some (9, 10) := (wt_f (ci := 11) (k := 0) hW hZ0 rfl).2
  refine ok_getR (ci := 11) (k := 0) dX11_roll_1 flRX11_10 rfl hW hZ0 (by decide) ?_
  have hT2 : Z[(rO O (rO O a0 0) 0)]? = some (10, 5) := (wt_f (ci := 9) (k := 0) hW hT1 rfl).2
  refine ok_getR (ci := 9) (k := 0) dX11_roll_4 flRX11_79 rfl hW hT1 (by decide) ?_
  refine ok_iload_n dX11_roll_7 1 rfl ?_
  obtain ⟨r3, hr4, h⟩ := bd h
  refine ok_callV (d := ((d + 0) + 2)) (mt := m10_addRoll) (mc := 0) (ms := 0) (As := [.int x1]) (r := []) dX11_roll_8 mo10_addRoll mv10_addRoll lkRX11_82 rfl hT2 (q := (RX10, TX10, 5)) rfl rfl rfl (Nat.le_of_ble_eq_true rfl) (by show _ + 1 ≤ d + _; omega) (Nat.le_refl _) (Nat.le_refl _) (pRt_mono ?_)
  refine k10_addRoll (d + 0) hW hT2 hr4 ?_
  intro _
  show Ok g _ Qx 11 [(0, .ref a0), (1, .int x1)] [.int r3.1] (Z, r3.2, L, O)
  cases h
  exact ok_iret dX11_roll_11 hQ
theorem k11_roll {g : pG} {Q : Option Value → pW → Prop} {Z : pZ} {I : (Nat → Nat → Int32)} {L : (Nat → Nat → Int64)} {O : (Nat → Nat → Option Nat)} {a0 : Nat} {x1 : Int32} {res : Int32 × (Nat → Nat → Int32)} (d : Nat) (hW : WT Z O) (hZ0 : Z[a0]? = some (11, 11)) (h : f11_roll I O a0 x1 = some res) (hQ : Q (some (.int res.1)) (Z, res.2, L, O)) : CT g (d + 3) m11_roll 0 0 [.ref a0, .int x1] (Z, I, L, O) Q :=
  ct_of_ok (mt := m11_roll) (ini := false) mo11_roll.2.2.2.2 (fun h => by cases h) (Nat.le_of_ble_eq_true rfl) (o11_roll d hW hZ0 h ⟨trivial, hQ, rfl, rfl⟩)
theorem dX11_hole_0 : decode cX11_hole 0 = .ok (.aload_n 0, 1) := by decide +kernel
theorem dX11_hole_1 : decode cX11_hole 1 = .ok (.getfield 10, 3) := by decide +kernel
theorem dX11_hole_4 : decode cX11_hole 4 = .ok (.getfield 79, 3) := by decide +kernel
theorem dX11_hole_7 : decode cX11_hole 7 = .ok (.iload_n 1, 1) := by decide +kernel
theorem dX11_hole_8 : decode cX11_hole 8 = .ok (.iload_n 2, 1) := by decide +kernel
theorem dX11_hole_9 : decode cX11_hole 9 = .ok (.invokevirtual 86, 3) := by decide +kernel
theorem dX11_hole_12 : decode cX11_hole 12 = .ok (.ifCond .eq 13, 3) := by decide +kernel
theorem dX11_hole_15 : decode cX11_hole 15 = .ok (.iload_n 3, 1) := by decide +kernel
theorem dX11_hole_16 : decode cX11_hole 16 = .ok (.ifCond .lt 9, 3) := by decide +kernel
theorem dX11_hole_19 : decode cX11_hole 19 = .ok (.iload_n 3, 1) := by decide +kernel
theorem dX11_hole_20 : decode cX11_hole 20 = .ok (.bipush 6, 2) := by decide +kernel
theorem dX11_hole_22 : decode cX11_hole 22 = .ok (.if_icmp .lt 5, 3) := by decide +kernel
theorem dX11_hole_25 : decode cX11_hole 25 = .ok (.iconst 0, 1) := by decide +kernel
theorem dX11_hole_26 : decode cX11_hole 26 = .ok (.ireturn, 1) := by decide +kernel
theorem dX11_hole_27 : decode cX11_hole 27 = .ok (.aload_n 0, 1) := by decide +kernel
theorem dX11_hole_28 : decode cX11_hole 28 = .ok (.getfield 10, 3) := by decide +kernel
theorem dX11_hole_31 : decode cX11_hole 31 = .ok (.getfield 79, 3) := by decide +kernel
theorem dX11_hole_34 : decode cX11_hole 34 = .ok (.getfield 90, 3) := by decide +kernel
theorem dX11_hole_37 : decode cX11_hole 37 = .ok (.iload_n 1, 1) := by decide +kernel
theorem dX11_hole_38 : decode cX11_hole 38 = .ok (.bipush 16, 2) := by decide +kernel
theorem dX11_hole_40 : decode cX11_hole 40 = .ok (.imul, 1) := by decide +kernel
theorem dX11_hole_41 : decode cX11_hole 41 = .ok (.iload_n 2, 1) := by decide +kernel
theorem dX11_hole_42 : decode cX11_hole 42 = .ok (.iadd, 1) := by decide +kernel
theorem dX11_hole_43 : decode cX11_hole 43 = .ok (.iload_n 3, 1) := by decide +kernel
theorem dX11_hole_44 : decode cX11_hole 44 = .ok (.iastore, 1) := by decide +kernel
theorem dX11_hole_45 : decode cX11_hole 45 = .ok (.iconst 1, 1) := by decide +kernel
theorem dX11_hole_46 : decode cX11_hole 46 = .ok (.ireturn, 1) := by decide +kernel
def m11_hole : pMT := (yX11_hole, cX11_hole, 4, some .boolean)
theorem mo11_hole : mOK m11_hole 3 := ⟨tb_i 401 (by decide +kernel), wi_RX11, ⟨wn_RX11.1, wn_RX11.2, by decide +kernel⟩, by decide, plainFor_of_name wp_RX11⟩
theorem mv11_hole : mV m11_hole := ⟨tb_i 399 (by decide +kernel), tb_i 400 (by decide +kernel)⟩
def f11_hole (I : (Nat → Nat → Int32)) (O : (Nat → Nat → Option Nat)) (a0 : Nat) (x1 : Int32) (x2 : Int32) (x3 : Int32) : Option (Int32 × (Nat → Nat → Int32)) := (f10_hasPlace I O (rO O (rO O a0 0) 0) x1 x2).bind fun r3 => (if r3 = 0 then some ((0 : Int32), I) else (if x3 < 0 then some ((0 : Int32), I) else (if x3 < (6 : Int32) then (if ((x1 * 16) + x2) < 0 ∨ 80 ≤ ((x1 * 16) + x2).toNatClampNeg then none else bl (sI I (rO O (rO O (rO O a0 0) 0) 1) ((x1 * 16) + x2).toNatClampNeg x3) fun I10 => some ((1 : Int32), I10)) else some ((0 : Int32), I))))
set_option maxHeartbeats 4000000 in
set_option maxRecDepth 20000 in
theorem o11_hole {g : pG} {Qx : Option Value → pW → Prop} {Z : pZ} {I : (Nat → Nat → Int32)} {L : (Nat → Nat → Int64)} {O : (Nat → Nat → Option Nat)} {a0 : Nat} {x1 : Int32} {x2 : Int32} {x3 : Int32} {res : Int32 × (Nat → Nat → Int32)} (d : Nat) (hW : WT Z O) (hZ0 : Z[a0]? = some (11, 11)) (h : f11_hole I O a0 x1 x2 x3 = some res) (hQ : (res.1 = 0 ∨ res.1 = 1) → Qx (some (.int res.1)) (Z, res.2, L, O)) : Ok g (d + 3, RX11, cX11_hole, 4, false, 0, 0, Z.length, pSl Z) Qx 0 [(0, .ref a0), (1, .int x1), (2, .int x2), (3, .int x3)] [] (Z, I, L, O) := by
  unfold f11_hole at h
  refine ok_aload_n dX11_hole_0 0 rfl ?_
  have hT1 : Z[(rO O a0 0)]? = some (9, 10) := (wt_f (ci := 11) (k := 0) hW hZ0 rfl).2
  refine ok_getR (ci := 11) (k := 0) dX11_hole_1 flRX11_10 rfl hW hZ0 (by decide) ?_
  have hT2 : Z[(rO O (rO O a0 0) 0)]? = some (10, 5) := (wt_f (ci := 9) (k := 0) hW hT1 rfl).2
  refine ok_getR (ci := 9) (k := 0) dX11_hole_4 flRX11_79 rfl hW hT1 (by decide) ?_
  refine ok_iload_n dX11_hole_7 1 rfl ?_
  refine ok_iload_n dX11_hole_8 2 rfl ?_
  obtain ⟨r3, hr4, h⟩ := bd h
  refine ok_callV (d := ((d + 0) + 2)) (mt := m10_hasPlace) (mc := 0) (ms := 0) (As := [.int x1, .int x2]) (r := []) dX11_hole_9 mo10_hasPlace mv10_hasPlace lkRX11_86 rfl hT2 (q := (RX10, TX10, 5)) rfl rfl rfl (Nat.le_of_ble_eq_true rfl) (by show _ + 1 ≤ d + _; omega) (Nat.le_refl _) (Nat.le_refl _) (pRt_mono ?_)
  refine k10_hasPlace (d + 0) hW hT2 hr4 ?_
  intro hbr3
  show Ok g _ Qx 12 [(0, .ref a0), (1, .int x1), (2, .int x2), (3, .int x3)] [.int r3] (Z, I, L, O)
  refine ok_if_eq (t := 25) dX11_hole_12 (by decide) (fun hc5 => ?_) (fun hc5 => ?_)
  · have h := (if_pos hc5).symm.trans h
    refine ok_iconst (v := 0) dX11_hole_25 (by decide) ?_
    cases h
    exact ok_iret dX11_hole_26 (hQ (Or.inl rfl))
  · have h := (if_neg hc5).symm.trans h
    refine ok_iload_n dX11_hole_15 3 rfl ?_
    refine ok_if_lt (t := 25) dX11_hole_16 (by decide) (fun hc6 => ?_) (fun hc6 => ?_)
    · have h := (if_pos hc6).symm.trans h
      refine ok_iconst (v := 0) dX11_hole_25 (by decide) ?_
      cases h
      exact ok_iret dX11_hole_26 (hQ (Or.inl rfl))
    · have h := (if_neg hc6).symm.trans h
      refine ok_iload_n dX11_hole_19 3 rfl ?_
      refine ok_bipush (v := 6) dX11_hole_20 (by decide) ?_
      refine ok_icmp_lt (t := 27) dX11_hole_22 (by decide) (fun hc7 => ?_) (fun hc7 => ?_)
      · have h := (if_pos hc7).symm.trans h
        refine ok_aload_n dX11_hole_27 0 rfl ?_
        refine ok_getR (ci := 11) (k := 0) dX11_hole_28 flRX11_10 rfl hW hZ0 (by decide) ?_
        refine ok_getR (ci := 9) (k := 0) dX11_hole_31 flRX11_79 rfl hW hT1 (by decide) ?_
        have hT8 : Z[(rO O (rO O (rO O a0 0) 0) 1)]? = some (13, 80) := (wt_f (ci := 10) (k := 1) hW hT2 rfl).2
        refine ok_getR (ci := 10) (k := 1) dX11_hole_34 flRX11_90 rfl hW hT2 (by decide) ?_
        refine ok_iload_n dX11_hole_37 1 rfl ?_
        refine ok_bipush (v := 16) dX11_hole_38 (by decide) ?_
        refine ok_imul dX11_hole_40 ?_
        refine ok_iload_n dX11_hole_41 2 rfl ?_
        refine ok_iadd dX11_hole_42 ?_
        refine ok_iload_n dX11_hole_43 3 rfl ?_
        obtain ⟨hg9, h⟩ := gd h
        obtain ⟨I10, eI10, h⟩ := blE h
        refine ok_iast3 dX11_hole_44 hT8 hg9 rfl eI10 ?_
        refine ok_iconst (v := 1) dX11_hole_45 (by decide) ?_
        cases h
        exact ok_iret dX11_hole_46 (hQ (Or.inr rfl))
      · have h := (if_neg hc7).symm.trans h
        refine ok_iconst (v := 0) dX11_hole_25 (by decide) ?_
        cases h
        exact ok_iret dX11_hole_26 (hQ (Or.inl rfl))
theorem k11_hole {g : pG} {Q : Option Value → pW → Prop} {Z : pZ} {I : (Nat → Nat → Int32)} {L : (Nat → Nat → Int64)} {O : (Nat → Nat → Option Nat)} {a0 : Nat} {x1 : Int32} {x2 : Int32} {x3 : Int32} {res : Int32 × (Nat → Nat → Int32)} (d : Nat) (hW : WT Z O) (hZ0 : Z[a0]? = some (11, 11)) (h : f11_hole I O a0 x1 x2 x3 = some res) (hQ : Q (some (.int res.1)) (Z, res.2, L, O)) : CT g (d + 3) m11_hole 0 0 [.ref a0, .int x1, .int x2, .int x3] (Z, I, L, O) Q :=
  ct_of_ok (mt := m11_hole) (ini := false) mo11_hole.2.2.2.2 (fun h => by cases h) (Nat.le_of_ble_eq_true rfl) (o11_hole d hW hZ0 h (fun hb => ⟨hb, hQ, rfl, rfl⟩))
theorem dX11_worn_0 : decode cX11_worn 0 = .ok (.aload_n 0, 1) := by decide +kernel
theorem dX11_worn_1 : decode cX11_worn 1 = .ok (.getfield 10, 3) := by decide +kernel
theorem dX11_worn_4 : decode cX11_worn 4 = .ok (.getfield 79, 3) := by decide +kernel
theorem dX11_worn_7 : decode cX11_worn 7 = .ok (.iload_n 1, 1) := by decide +kernel
theorem dX11_worn_8 : decode cX11_worn 8 = .ok (.iload_n 2, 1) := by decide +kernel
theorem dX11_worn_9 : decode cX11_worn 9 = .ok (.invokevirtual 86, 3) := by decide +kernel
theorem dX11_worn_12 : decode cX11_worn 12 = .ok (.ifCond .eq 13, 3) := by decide +kernel
theorem dX11_worn_15 : decode cX11_worn 15 = .ok (.iload_n 3, 1) := by decide +kernel
theorem dX11_worn_16 : decode cX11_worn 16 = .ok (.ifCond .lt 9, 3) := by decide +kernel
theorem dX11_worn_19 : decode cX11_worn 19 = .ok (.iload_n 3, 1) := by decide +kernel
theorem dX11_worn_20 : decode cX11_worn 20 = .ok (.bipush 9, 2) := by decide +kernel
theorem dX11_worn_22 : decode cX11_worn 22 = .ok (.if_icmp .le 5, 3) := by decide +kernel
theorem dX11_worn_25 : decode cX11_worn 25 = .ok (.iconst 0, 1) := by decide +kernel
theorem dX11_worn_26 : decode cX11_worn 26 = .ok (.ireturn, 1) := by decide +kernel
theorem dX11_worn_27 : decode cX11_worn 27 = .ok (.aload_n 0, 1) := by decide +kernel
theorem dX11_worn_28 : decode cX11_worn 28 = .ok (.getfield 10, 3) := by decide +kernel
theorem dX11_worn_31 : decode cX11_worn 31 = .ok (.getfield 79, 3) := by decide +kernel
theorem dX11_worn_34 : decode cX11_worn 34 = .ok (.getfield 94, 3) := by decide +kernel
theorem dX11_worn_37 : decode cX11_worn 37 = .ok (.getfield 98, 3) := by decide +kernel
theorem dX11_worn_40 : decode cX11_worn 40 = .ok (.iload_n 1, 1) := by decide +kernel
theorem dX11_worn_41 : decode cX11_worn 41 = .ok (.bipush 16, 2) := by decide +kernel
theorem dX11_worn_43 : decode cX11_worn 43 = .ok (.imul, 1) := by decide +kernel
theorem dX11_worn_44 : decode cX11_worn 44 = .ok (.iload_n 2, 1) := by decide +kernel
theorem dX11_worn_45 : decode cX11_worn 45 = .ok (.iadd, 1) := by decide +kernel
theorem dX11_worn_46 : decode cX11_worn 46 = .ok (.iload_n 3, 1) := by decide +kernel
theorem dX11_worn_47 : decode cX11_worn 47 = .ok (.iastore, 1) := by decide +kernel
theorem dX11_worn_48 : decode cX11_worn 48 = .ok (.aload_n 0, 1) := by decide +kernel
theorem dX11_worn_49 : decode cX11_worn 49 = .ok (.getfield 10, 3) := by decide +kernel
theorem dX11_worn_52 : decode cX11_worn 52 = .ok (.getfield 103, 3) := by decide +kernel
theorem dX11_worn_55 : decode cX11_worn 55 = .ok (.iload_n 1, 1) := by decide +kernel
theorem dX11_worn_56 : decode cX11_worn 56 = .ok (.bipush 16, 2) := by decide +kernel
theorem dX11_worn_58 : decode cX11_worn 58 = .ok (.imul, 1) := by decide +kernel
theorem dX11_worn_59 : decode cX11_worn 59 = .ok (.iload_n 2, 1) := by decide +kernel
theorem dX11_worn_60 : decode cX11_worn 60 = .ok (.iadd, 1) := by decide +kernel
theorem dX11_worn_61 : decode cX11_worn 61 = .ok (.iload_n 3, 1) := by decide +kernel
theorem dX11_worn_62 : decode cX11_worn 62 = .ok (.invokevirtual 107, 3) := by decide +kernel
theorem dX11_worn_65 : decode cX11_worn 65 = .ok (.iconst 1, 1) := by decide +kernel
theorem dX11_worn_66 : decode cX11_worn 66 = .ok (.ireturn, 1) := by decide +kernel
def m11_worn : pMT := (yX11_worn, cX11_worn, 4, some .boolean)
theorem mo11_worn : mOK m11_worn 3 := ⟨tb_i 409 (by decide +kernel), wi_RX11, ⟨wn_RX11.1, wn_RX11.2, by decide +kernel⟩, by decide, plainFor_of_name wp_RX11⟩
theorem mv11_worn : mV m11_worn := ⟨tb_i 407 (by decide +kernel), tb_i 408 (by decide +kernel)⟩
def f11_worn (n : Nat) (I : (Nat → Nat → Int32)) (O : (Nat → Nat → Option Nat)) (a0 : Nat) (x1 : Int32) (x2 : Int32) (x3 : Int32) : Option (Int32 × (Nat → Nat → Int32)) := (f10_hasPlace I O (rO O (rO O a0 0) 0) x1 x2).bind fun r3 => (if r3 = 0 then some ((0 : Int32), I) else (if x3 < 0 then some ((0 : Int32), I) else (if x3 ≤ (9 : Int32) then (if ((x1 * 16) + x2) < 0 ∨ 80 ≤ ((x1 * 16) + x2).toNatClampNeg then none else bl (sI I (rO O (rO O (rO O (rO O a0 0) 0) 2) 0) ((x1 * 16) + x2).toNatClampNeg x3) fun I11 => (f0_tellWear n I11 O (rO O (rO O a0 0) 1) ((x1 * 16) + x2) x3).bind fun r13 => some ((1 : Int32), r13)) else some ((0 : Int32), I))))
set_option maxHeartbeats 4000000 in
set_option maxRecDepth 20000 in
theorem o11_worn {g : pG} {Qx : Option Value → pW → Prop} {Z : pZ} {I : (Nat → Nat → Int32)} {L : (Nat → Nat → Int64)} {O : (Nat → Nat → Option Nat)} {n : Nat} {a0 : Nat} {x1 : Int32} {x2 : Int32} {x3 : Int32} {res : Int32 × (Nat → Nat → Int32)} (d : Nat) (hW : WT Z O) (hZ0 : Z[a0]? = some (11, 11)) (h : f11_worn n I O a0 x1 x2 x3 = some res) (hQ : (res.1 = 0 ∨ res.1 = 1) → Qx (some (.int res.1)) (Z, res.2, L, O)) : Ok g (d + 3, RX11, cX11_worn, 4, false, 0, 0, Z.length, pSl Z) Qx 0 [(0, .ref a0), (1, .int x1), (2, .int x2), (3, .int x3)] [] (Z, I, L, O) := by
  unfold f11_worn at h
  refine ok_aload_n dX11_worn_0 0 rfl ?_
  have hT1 : Z[(rO O a0 0)]? = some (9, 10) := (wt_f (ci := 11) (k := 0) hW hZ0 rfl).2
  refine ok_getR (ci := 11) (k := 0) dX11_worn_1 flRX11_10 rfl hW hZ0 (by decide) ?_
  have hT2 : Z[(rO O (rO O a0 0) 0)]? = some (10, 5) := (wt_f (ci := 9) (k := 0) hW hT1 rfl).2
  refine ok_getR (ci := 9) (k := 0) dX11_worn_4 flRX11_79 rfl hW hT1 (by decide) ?_
  refine ok_iload_n dX11_worn_7 1 rfl ?_
  refine ok_iload_n dX11_worn_8 2 rfl ?_
  obtain ⟨r3, hr4, h⟩ := bd h
  refine ok_callV (d := ((d + 0) + 2)) (mt := m10_hasPlace) (mc := 0) (ms := 0) (As := [.int x1, .int x2]) (r := []) dX11_worn_9 mo10_hasPlace mv10_hasPlace lkRX11_86 rfl hT2 (q := (RX10, TX10, 5)) rfl rfl rfl (Nat.le_of_ble_eq_true rfl) (by show _ + 1 ≤ d + _; omega) (Nat.le_refl _) (Nat.le_refl _) (pRt_mono ?_)
  refine k10_hasPlace (d + 0) hW hT2 hr4 ?_
  intro hbr3
  show Ok g _ Qx 12 [(0, .ref a0), (1, .int x1), (2, .int x2), (3, .int x3)] [.int r3] (Z, I, L, O)
  refine ok_if_eq (t := 25) dX11_worn_12 (by decide) (fun hc5 => ?_) (fun hc5 => ?_)
  · have h := (if_pos hc5).symm.trans h
    refine ok_iconst (v := 0) dX11_worn_25 (by decide) ?_
    cases h
    exact ok_iret dX11_worn_26 (hQ (Or.inl rfl))
  · have h := (if_neg hc5).symm.trans h
    refine ok_iload_n dX11_worn_15 3 rfl ?_
    refine ok_if_lt (t := 25) dX11_worn_16 (by decide) (fun hc6 => ?_) (fun hc6 => ?_)
    · have h := (if_pos hc6).symm.trans h
      refine ok_iconst (v := 0) dX11_worn_25 (by decide) ?_
      cases h
      exact ok_iret dX11_worn_26 (hQ (Or.inl rfl))
    · have h := (if_neg hc6).symm.trans h
      refine ok_iload_n dX11_worn_19 3 rfl ?_
      refine ok_bipush (v := 9) dX11_worn_20 (by decide) ?_
      refine ok_icmp_le (t := 27) dX11_worn_22 (by decide) (fun hc7 => ?_) (fun hc7 => ?_)
      · have h := (if_pos hc7).symm.trans h
        refine ok_aload_n dX11_worn_27 0 rfl ?_
        refine ok_getR (ci := 11) (k := 0) dX11_worn_28 flRX11_10 rfl hW hZ0 (by decide) ?_
        refine ok_getR (ci := 9) (k := 0) dX11_worn_31 flRX11_79 rfl hW hT1 (by decide) ?_
        have hT8 : Z[(rO O (rO O (rO O a0 0) 0) 2)]? = some (3, 6) := (wt_f (ci := 10) (k := 2) hW hT2 rfl).2
        refine ok_getR (ci := 10) (k := 2) dX11_worn_34 flRX11_94 rfl hW hT2 (by decide) ?_
        have hT9 : Z[(rO O (rO O (rO O (rO O a0 0) 0) 2) 0)]? = some (13, 80) := (wt_f (ci := 3) (k := 0) hW hT8 rfl).2
        refine ok_getR (ci := 3) (k := 0) dX11_worn_37 flRX11_98 rfl hW hT8 (by decide) ?_
        refine ok_iload_n dX11_worn_40 1 rfl ?_
        refine ok_bipush (v := 16) dX11_worn_41 (by decide) ?_
        refine ok_imul dX11_worn_43 ?_
        refine ok_iload_n dX11_worn_44 2 rfl ?_
        refine ok_iadd dX11_worn_45 ?_
        refine ok_iload_n dX11_worn_46 3 rfl ?_
        obtain ⟨hg10, h⟩ := gd h
        obtain ⟨I11, eI11, h⟩ := blE h
        refine ok_iast3 dX11_worn_47 hT9 hg10 rfl eI11 ?_
        refine ok_aload_n dX11_worn_48 0 rfl ?_
        refine ok_getR (ci := 11) (k := 0) dX11_worn_49 flRX11_10 rfl hW hZ0 (by decide) ?_
        have hT12 : Z[(rO O (rO O a0 0) 1)]? = some (0, 3) := (wt_f (ci := 9) (k := 1) hW hT1 rfl).2
        refine ok_getR (ci := 9) (k := 1) dX11_worn_52 flRX11_103 rfl hW hT1 (by decide) ?_
        refine ok_iload_n dX11_worn_55 1 rfl ?_
        refine ok_bipush (v := 16) dX11_worn_56 (by decide) ?_
        refine ok_imul dX11_worn_58 ?_
        refine ok_iload_n dX11_worn_59 2 rfl ?_
        refine ok_iadd dX11_worn_60 ?_
        refine ok_iload_n dX11_worn_61 3 rfl ?_
        obtain ⟨r13, hr14, h⟩ := bd h
        refine ok_callV (d := ((d + 0) + 2)) (mt := m0_tellWear) (mc := 0) (ms := 0) (As := [.int ((x1 * 16) + x2), .int x3]) (r := []) dX11_worn_62 mo0_tellWear mv0_tellWear lkRX11_107 rfl hT12 (q := (RX0, TX0, 3)) rfl rfl rfl (Nat.le_of_ble_eq_true rfl) (by show _ + 1 ≤ d + _; omega) (Nat.le_refl _) (Nat.le_refl _) (pRt_mono ?_)
        refine k0_tellWear (d + 0) hW hT12 hr14 ?_
        intro _
        show Ok g _ Qx 65 [(0, .ref a0), (1, .int x1), (2, .int x2), (3, .int x3)] [] (Z, r13, L, O)
        refine ok_iconst (v := 1) dX11_worn_65 (by decide) ?_
        cases h
        exact ok_iret dX11_worn_66 (hQ (Or.inr rfl))
      · have h := (if_neg hc7).symm.trans h
        refine ok_iconst (v := 0) dX11_worn_25 (by decide) ?_
        cases h
        exact ok_iret dX11_worn_26 (hQ (Or.inl rfl))
theorem k11_worn {g : pG} {Q : Option Value → pW → Prop} {Z : pZ} {I : (Nat → Nat → Int32)} {L : (Nat → Nat → Int64)} {O : (Nat → Nat → Option Nat)} {n : Nat} {a0 : Nat} {x1 : Int32} {x2 : Int32} {x3 : Int32} {res : Int32 × (Nat → Nat → Int32)} (d : Nat) (hW : WT Z O) (hZ0 : Z[a0]? = some (11, 11)) (h : f11_worn n I O a0 x1 x2 x3 = some res) (hQ : Q (some (.int res.1)) (Z, res.2, L, O)) : CT g (d + 3) m11_worn 0 0 [.ref a0, .int x1, .int x2, .int x3] (Z, I, L, O) Q :=
  ct_of_ok (mt := m11_worn) (ini := false) mo11_worn.2.2.2.2 (fun h => by cases h) (Nat.le_of_ble_eq_true rfl) (o11_worn d hW hZ0 h (fun hb => ⟨hb, hQ, rfl, rfl⟩))
theorem dX11_child_0 : decode cX11_child 0 = .ok (.aload_n 0, 1) := by decide +kernel
theorem dX11_child_1 : decode cX11_child 1 = .ok (.getfield 10, 3) := by decide +kernel
theorem dX11_child_4 : decode cX11_child 4 = .ok (.getfield 79, 3) := by decide +kernel
theorem dX11_child_7 : decode cX11_child 7 = .ok (.invokevirtual 113, 3) := by decide +kernel
theorem dX11_child_10 : decode cX11_child 10 = .ok (.ireturn, 1) := by decide +kernel
def m11_child : pMT := (yX11_child, cX11_child, 1, some .int)
theorem mo11_child : mOK m11_child 0 := ⟨tb_i 417 (by decide +kernel), wi_RX11, ⟨wn_RX11.1, wn_RX11.2, by decide +kernel⟩, by decide, plainFor_of_name wp_RX11⟩
theorem mv11_child : mV m11_child := ⟨tb_i 415 (by decide +kernel), tb_i 416 (by decide +kernel)⟩
def f11_child (I : (Nat → Nat → Int32)) (O : (Nat → Nat → Option Nat)) (a0 : Nat) : Option (Int32 × (Nat → Nat → Int32)) := (f10_addChild I (rO O (rO O a0 0) 0)).bind fun r3 => some (r3.1, r3.2)
set_option maxHeartbeats 4000000 in
set_option maxRecDepth 20000 in
theorem o11_child {g : pG} {Qx : Option Value → pW → Prop} {Z : pZ} {I : (Nat → Nat → Int32)} {L : (Nat → Nat → Int64)} {O : (Nat → Nat → Option Nat)} {a0 : Nat} {res : Int32 × (Nat → Nat → Int32)} (d : Nat) (hW : WT Z O) (hZ0 : Z[a0]? = some (11, 11)) (h : f11_child I O a0 = some res) (hQ : Qx (some (.int res.1)) (Z, res.2, L, O)) : Ok g (d + 3, RX11, cX11_child, 1, false, 0, 0, Z.length, pSl Z) Qx 0 [(0, .ref a0)] [] (Z, I, L, O) := by
  unfold f11_child at h
  refine ok_aload_n dX11_child_0 0 rfl ?_
  have hT1 : Z[(rO O a0 0)]? = some (9, 10) := (wt_f (ci := 11) (k := 0) hW hZ0 rfl).2
  refine ok_getR (ci := 11) (k := 0) dX11_child_1 flRX11_10 rfl hW hZ0 (by decide) ?_
  have hT2 : Z[(rO O (rO O a0 0) 0)]? = some (10, 5) := (wt_f (ci := 9) (k := 0) hW hT1 rfl).2
  refine ok_getR (ci := 9) (k := 0) dX11_child_4 flRX11_79 rfl hW hT1 (by decide) ?_
  obtain ⟨r3, hr4, h⟩ := bd h
  refine ok_callV (d := ((d + 0) + 2)) (mt := m10_addChild) (mc := 0) (ms := 0) (As := []) (r := []) dX11_child_7 mo10_addChild mv10_addChild lkRX11_113 rfl hT2 (q := (RX10, TX10, 5)) rfl rfl rfl (Nat.le_of_ble_eq_true rfl) (by show _ + 1 ≤ d + _; omega) (Nat.le_refl _) (Nat.le_refl _) (pRt_mono ?_)
  refine k10_addChild (d + 0) hW hT2 hr4 ?_
  intro _
  show Ok g _ Qx 10 [(0, .ref a0)] [.int r3.1] (Z, r3.2, L, O)
  cases h
  exact ok_iret dX11_child_10 hQ
theorem k11_child {g : pG} {Q : Option Value → pW → Prop} {Z : pZ} {I : (Nat → Nat → Int32)} {L : (Nat → Nat → Int64)} {O : (Nat → Nat → Option Nat)} {a0 : Nat} {res : Int32 × (Nat → Nat → Int32)} (d : Nat) (hW : WT Z O) (hZ0 : Z[a0]? = some (11, 11)) (h : f11_child I O a0 = some res) (hQ : Q (some (.int res.1)) (Z, res.2, L, O)) : CT g (d + 3) m11_child 0 0 [.ref a0] (Z, I, L, O) Q :=
  ct_of_ok (mt := m11_child) (ini := false) mo11_child.2.2.2.2 (fun h => by cases h) (Nat.le_of_ble_eq_true rfl) (o11_child d hW hZ0 h ⟨trivial, hQ, rfl, rfl⟩)
theorem dX11_feed_0 : decode cX11_feed 0 = .ok (.aload_n 0, 1) := by decide +kernel
theorem dX11_feed_1 : decode cX11_feed 1 = .ok (.getfield 35, 3) := by decide +kernel
theorem dX11_feed_4 : decode cX11_feed 4 = .ok (.getfield 117, 3) := by decide +kernel
theorem dX11_feed_7 : decode cX11_feed 7 = .ok (.bipush 20, 2) := by decide +kernel
theorem dX11_feed_9 : decode cX11_feed 9 = .ok (.iadd, 1) := by decide +kernel
theorem dX11_feed_10 : decode cX11_feed 10 = .ok (.sipush 300, 3) := by decide +kernel
theorem dX11_feed_13 : decode cX11_feed 13 = .ok (.if_icmp .le 5, 3) := by decide +kernel
theorem dX11_feed_16 : decode cX11_feed 16 = .ok (.iconst (-1), 1) := by decide +kernel
theorem dX11_feed_17 : decode cX11_feed 17 = .ok (.ireturn, 1) := by decide +kernel
theorem dX11_feed_18 : decode cX11_feed 18 = .ok (.aload_n 0, 1) := by decide +kernel
theorem dX11_feed_19 : decode cX11_feed 19 = .ok (.getfield 35, 3) := by decide +kernel
theorem dX11_feed_22 : decode cX11_feed 22 = .ok (.iload_n 1, 1) := by decide +kernel
theorem dX11_feed_23 : decode cX11_feed 23 = .ok (.invokevirtual 121, 3) := by decide +kernel
theorem dX11_feed_26 : decode cX11_feed 26 = .ok (.aload_n 0, 1) := by decide +kernel
theorem dX11_feed_27 : decode cX11_feed 27 = .ok (.getfield 35, 3) := by decide +kernel
theorem dX11_feed_30 : decode cX11_feed 30 = .ok (.iload_n 2, 1) := by decide +kernel
theorem dX11_feed_31 : decode cX11_feed 31 = .ok (.invokevirtual 121, 3) := by decide +kernel
theorem dX11_feed_34 : decode cX11_feed 34 = .ok (.aload_n 0, 1) := by decide +kernel
theorem dX11_feed_35 : decode cX11_feed 35 = .ok (.getfield 35, 3) := by decide +kernel
theorem dX11_feed_38 : decode cX11_feed 38 = .ok (.iload_n 3, 1) := by decide +kernel
theorem dX11_feed_39 : decode cX11_feed 39 = .ok (.invokevirtual 121, 3) := by decide +kernel
theorem dX11_feed_42 : decode cX11_feed 42 = .ok (.aload_n 0, 1) := by decide +kernel
theorem dX11_feed_43 : decode cX11_feed 43 = .ok (.getfield 35, 3) := by decide +kernel
theorem dX11_feed_46 : decode cX11_feed 46 = .ok (.iload 4, 2) := by decide +kernel
theorem dX11_feed_48 : decode cX11_feed 48 = .ok (.invokevirtual 121, 3) := by decide +kernel
theorem dX11_feed_51 : decode cX11_feed 51 = .ok (.aload_n 0, 1) := by decide +kernel
theorem dX11_feed_52 : decode cX11_feed 52 = .ok (.getfield 35, 3) := by decide +kernel
theorem dX11_feed_55 : decode cX11_feed 55 = .ok (.iload 5, 2) := by decide +kernel
theorem dX11_feed_57 : decode cX11_feed 57 = .ok (.invokevirtual 121, 3) := by decide +kernel
theorem dX11_feed_60 : decode cX11_feed 60 = .ok (.aload_n 0, 1) := by decide +kernel
theorem dX11_feed_61 : decode cX11_feed 61 = .ok (.getfield 35, 3) := by decide +kernel
theorem dX11_feed_64 : decode cX11_feed 64 = .ok (.getfield 117, 3) := by decide +kernel
theorem dX11_feed_67 : decode cX11_feed 67 = .ok (.ireturn, 1) := by decide +kernel
def m11_feed : pMT := (yX11_feed, cX11_feed, 6, some .int)
theorem mo11_feed : mOK m11_feed 5 := ⟨tb_i 425 (by decide +kernel), wi_RX11, ⟨wn_RX11.1, wn_RX11.2, by decide +kernel⟩, by decide, plainFor_of_name wp_RX11⟩
theorem mv11_feed : mV m11_feed := ⟨tb_i 423 (by decide +kernel), tb_i 424 (by decide +kernel)⟩
def f11_feed (n : Nat) (I : (Nat → Nat → Int32)) (O : (Nat → Nat → Option Nat)) (a0 : Nat) (x1 : Int32) (x2 : Int32) (x3 : Int32) (x4 : Int32) (x5 : Int32) : Option (Int32 × (Nat → Nat → Int32)) := (if ((I (rO O a0 4) 4) + 20) ≤ (300 : Int32) then (f8_add n I O (rO O a0 4) x1).bind fun r3 => (f8_add n r3 O (rO O a0 4) x2).bind fun r5 => (f8_add n r5 O (rO O a0 4) x3).bind fun r7 => (f8_add n r7 O (rO O a0 4) x4).bind fun r9 => (f8_add n r9 O (rO O a0 4) x5).bind fun r11 => some ((r11 (rO O a0 4) 4), r11) else some (((-1) : Int32), I))
set_option maxHeartbeats 4000000 in
set_option maxRecDepth 20000 in
theorem o11_feed {g : pG} {Qx : Option Value → pW → Prop} {Z : pZ} {I : (Nat → Nat → Int32)} {L : (Nat → Nat → Int64)} {O : (Nat → Nat → Option Nat)} {n : Nat} {a0 : Nat} {x1 : Int32} {x2 : Int32} {x3 : Int32} {x4 : Int32} {x5 : Int32} {res : Int32 × (Nat → Nat → Int32)} (d : Nat) (hW : WT Z O) (hZ0 : Z[a0]? = some (11, 11)) (h : f11_feed n I O a0 x1 x2 x3 x4 x5 = some res) (hQ : Qx (some (.int res.1)) (Z, res.2, L, O)) : Ok g (d + 3, RX11, cX11_feed, 6, false, 0, 0, Z.length, pSl Z) Qx 0 [(0, .ref a0), (1, .int x1), (2, .int x2), (3, .int x3), (4, .int x4), (5, .int x5)] [] (Z, I, L, O) := by
  unfold f11_feed at h
  refine ok_aload_n dX11_feed_0 0 rfl ?_
  have hT1 : Z[(rO O a0 4)]? = some (8, 6) := (wt_f (ci := 11) (k := 4) hW hZ0 rfl).2
  refine ok_getR (ci := 11) (k := 4) dX11_feed_1 flRX11_35 rfl hW hZ0 (by decide) ?_
  refine ok_getI (ci := 8) (k := 4) dX11_feed_4 flRX11_117 rfl hT1 (by decide) ?_
  refine ok_bipush (v := 20) dX11_feed_7 (by decide) ?_
  refine ok_iadd dX11_feed_9 ?_
  refine ok_sipush (v := 300) dX11_feed_10 (by decide) ?_
  refine ok_icmp_le (t := 18) dX11_feed_13 (by decide) (fun hc2 => ?_) (fun hc2 => ?_)
  · have h := (if_pos hc2).symm.trans h
    refine ok_aload_n dX11_feed_18 0 rfl ?_
    refine ok_getR (ci := 11) (k := 4) dX11_feed_19 flRX11_35 rfl hW hZ0 (by decide) ?_
    refine ok_iload_n dX11_feed_22 1 rfl ?_
    obtain ⟨r3, hr4, h⟩ := bd h
    refine ok_callV (d := ((d + 0) + 2)) (mt := m8_add) (mc := 0) (ms := 0) (As := [.int x1]) (r := []) dX11_feed_23 mo8_add mv8_add lkRX11_121 rfl hT1 (q := (RX8, TX8, 6)) rfl rfl rfl (Nat.le_of_ble_eq_true rfl) (by show _ + 1 ≤ d + _; omega) (Nat.le_refl _) (Nat.le_refl _) (pRt_mono ?_)
    refine k8_add (d + 0) hW hT1 hr4 ?_
    intro _
    show Ok g _ Qx 26 [(0, .ref a0), (1, .int x1), (2, .int x2), (3, .int x3), (4, .int x4), (5, .int x5)] [] (Z, r3, L, O)
    refine ok_aload_n dX11_feed_26 0 rfl ?_
    refine ok_getR (ci := 11) (k := 4) dX11_feed_27 flRX11_35 rfl hW hZ0 (by decide) ?_
    refine ok_iload_n dX11_feed_30 2 rfl ?_
    obtain ⟨r5, hr6, h⟩ := bd h
    refine ok_callV (d := ((d + 0) + 2)) (mt := m8_add) (mc := 0) (ms := 0) (As := [.int x2]) (r := []) dX11_feed_31 mo8_add mv8_add lkRX11_121 rfl hT1 (q := (RX8, TX8, 6)) rfl rfl rfl (Nat.le_of_ble_eq_true rfl) (by show _ + 1 ≤ d + _; omega) (Nat.le_refl _) (Nat.le_refl _) (pRt_mono ?_)
    refine k8_add (d + 0) hW hT1 hr6 ?_
    intro _
    show Ok g _ Qx 34 [(0, .ref a0), (1, .int x1), (2, .int x2), (3, .int x3), (4, .int x4), (5, .int x5)] [] (Z, r5, L, O)
    refine ok_aload_n dX11_feed_34 0 rfl ?_
    refine ok_getR (ci := 11) (k := 4) dX11_feed_35 flRX11_35 rfl hW hZ0 (by decide) ?_
    refine ok_iload_n dX11_feed_38 3 rfl ?_
    obtain ⟨r7, hr8, h⟩ := bd h
    refine ok_callV (d := ((d + 0) + 2)) (mt := m8_add) (mc := 0) (ms := 0) (As := [.int x3]) (r := []) dX11_feed_39 mo8_add mv8_add lkRX11_121 rfl hT1 (q := (RX8, TX8, 6)) rfl rfl rfl (Nat.le_of_ble_eq_true rfl) (by show _ + 1 ≤ d + _; omega) (Nat.le_refl _) (Nat.le_refl _) (pRt_mono ?_)
    refine k8_add (d + 0) hW hT1 hr8 ?_
    intro _
    show Ok g _ Qx 42 [(0, .ref a0), (1, .int x1), (2, .int x2), (3, .int x3), (4, .int x4), (5, .int x5)] [] (Z, r7, L, O)
    refine ok_aload_n dX11_feed_42 0 rfl ?_
    refine ok_getR (ci := 11) (k := 4) dX11_feed_43 flRX11_35 rfl hW hZ0 (by decide) ?_
    refine ok_iload dX11_feed_46 4 rfl ?_
    obtain ⟨r9, hr10, h⟩ := bd h
    refine ok_callV (d := ((d + 0) + 2)) (mt := m8_add) (mc := 0) (ms := 0) (As := [.int x4]) (r := []) dX11_feed_48 mo8_add mv8_add lkRX11_121 rfl hT1 (q := (RX8, TX8, 6)) rfl rfl rfl (Nat.le_of_ble_eq_true rfl) (by show _ + 1 ≤ d + _; omega) (Nat.le_refl _) (Nat.le_refl _) (pRt_mono ?_)
    refine k8_add (d + 0) hW hT1 hr10 ?_
    intro _
    show Ok g _ Qx 51 [(0, .ref a0), (1, .int x1), (2, .int x2), (3, .int x3), (4, .int x4), (5, .int x5)] [] (Z, r9, L, O)
    refine ok_aload_n dX11_feed_51 0 rfl ?_
    refine ok_getR (ci := 11) (k := 4) dX11_feed_52 flRX11_35 rfl hW hZ0 (by decide) ?_
    refine ok_iload dX11_feed_55 5 rfl ?_
    obtain ⟨r11, hr12, h⟩ := bd h
    refine ok_callV (d := ((d + 0) + 2)) (mt := m8_add) (mc := 0) (ms := 0) (As := [.int x5]) (r := []) dX11_feed_57 mo8_add mv8_add lkRX11_121 rfl hT1 (q := (RX8, TX8, 6)) rfl rfl rfl (Nat.le_of_ble_eq_true rfl) (by show _ + 1 ≤ d + _; omega) (Nat.le_refl _) (Nat.le_refl _) (pRt_mono ?_)
    refine k8_add (d + 0) hW hT1 hr12 ?_
    intro _
    show Ok g _ Qx 60 [(0, .ref a0), (1, .int x1), (2, .int x2), (3, .int x3), (4, .int x4), (5, .int x5)] [] (Z, r11, L, O)
    refine ok_aload_n dX11_feed_60 0 rfl ?_
    refine ok_getR (ci := 11) (k := 4) dX11_feed_61 flRX11_35 rfl hW hZ0 (by decide) ?_
    refine ok_getI (ci := 8) (k := 4) dX11_feed_64 flRX11_117 rfl hT1 (by decide) ?_
    cases h
    exact ok_iret dX11_feed_67 hQ
  · have h := (if_neg hc2).symm.trans h
    refine ok_iconst (v := (-1)) dX11_feed_16 (by decide) ?_
    cases h
    exact ok_iret dX11_feed_17 hQ
theorem k11_feed {g : pG} {Q : Option Value → pW → Prop} {Z : pZ} {I : (Nat → Nat → Int32)} {L : (Nat → Nat → Int64)} {O : (Nat → Nat → Option Nat)} {n : Nat} {a0 : Nat} {x1 : Int32} {x2 : Int32} {x3 : Int32} {x4 : Int32} {x5 : Int32} {res : Int32 × (Nat → Nat → Int32)} (d : Nat) (hW : WT Z O) (hZ0 : Z[a0]? = some (11, 11)) (h : f11_feed n I O a0 x1 x2 x3 x4 x5 = some res) (hQ : Q (some (.int res.1)) (Z, res.2, L, O)) : CT g (d + 3) m11_feed 0 0 [.ref a0, .int x1, .int x2, .int x3, .int x4, .int x5] (Z, I, L, O) Q :=
  ct_of_ok (mt := m11_feed) (ini := false) mo11_feed.2.2.2.2 (fun h => by cases h) (Nat.le_of_ble_eq_true rfl) (o11_feed d hW hZ0 h ⟨trivial, hQ, rfl, rfl⟩)
theorem dX11_end_0 : decode cX11_end 0 = .ok (.iload_n 1, 1) := by decide +kernel
theorem dX11_end_1 : decode cX11_end 1 = .ok (.ifCond .lt 14, 3) := by decide +kernel
theorem dX11_end_4 : decode cX11_end 4 = .ok (.iload_n 1, 1) := by decide +kernel
theorem dX11_end_5 : decode cX11_end 5 = .ok (.aload_n 0, 1) := by decide +kernel
theorem dX11_end_6 : decode cX11_end 6 = .ok (.getfield 35, 3) := by decide +kernel
theorem dX11_end_9 : decode cX11_end 9 = .ok (.getfield 117, 3) := by decide +kernel
theorem dX11_end_12 : decode cX11_end 12 = .ok (.if_icmp .le 5, 3) := by decide +kernel
theorem dX11_end_15 : decode cX11_end 15 = .ok (.iconst (-1), 1) := by decide +kernel
theorem dX11_end_16 : decode cX11_end 16 = .ok (.ireturn, 1) := by decide +kernel
theorem dX11_end_17 : decode cX11_end 17 = .ok (.aload_n 0, 1) := by decide +kernel
theorem dX11_end_18 : decode cX11_end 18 = .ok (.getfield 35, 3) := by decide +kernel
theorem dX11_end_21 : decode cX11_end 21 = .ok (.iload_n 1, 1) := by decide +kernel
theorem dX11_end_22 : decode cX11_end 22 = .ok (.putfield 117, 3) := by decide +kernel
theorem dX11_end_25 : decode cX11_end 25 = .ok (.iload_n 1, 1) := by decide +kernel
theorem dX11_end_26 : decode cX11_end 26 = .ok (.ireturn, 1) := by decide +kernel
def m11_end : pMT := (yX11_end, cX11_end, 2, some .int)
theorem mo11_end : mOK m11_end 1 := ⟨tb_i 433 (by decide +kernel), wi_RX11, ⟨wn_RX11.1, wn_RX11.2, by decide +kernel⟩, by decide, plainFor_of_name wp_RX11⟩
theorem mv11_end : mV m11_end := ⟨tb_i 431 (by decide +kernel), tb_i 432 (by decide +kernel)⟩
def f11_end (I : (Nat → Nat → Int32)) (O : (Nat → Nat → Option Nat)) (a0 : Nat) (x1 : Int32) : Option (Int32 × (Nat → Nat → Int32)) := (if x1 < 0 then some (((-1) : Int32), I) else (if x1 ≤ (I (rO O a0 4) 4) then bl (sI I (rO O a0 4) 4 x1) fun I4 => some (x1, I4) else some (((-1) : Int32), I)))
set_option maxHeartbeats 4000000 in
set_option maxRecDepth 20000 in
theorem o11_end {g : pG} {Qx : Option Value → pW → Prop} {Z : pZ} {I : (Nat → Nat → Int32)} {L : (Nat → Nat → Int64)} {O : (Nat → Nat → Option Nat)} {a0 : Nat} {x1 : Int32} {res : Int32 × (Nat → Nat → Int32)} (d : Nat) (hW : WT Z O) (hZ0 : Z[a0]? = some (11, 11)) (h : f11_end I O a0 x1 = some res) (hQ : Qx (some (.int res.1)) (Z, res.2, L, O)) : Ok g (d + 2, RX11, cX11_end, 2, false, 0, 0, Z.length, pSl Z) Qx 0 [(0, .ref a0), (1, .int x1)] [] (Z, I, L, O) := by
  unfold f11_end at h
  refine ok_iload_n dX11_end_0 1 rfl ?_
  refine ok_if_lt (t := 15) dX11_end_1 (by decide) (fun hc1 => ?_) (fun hc1 => ?_)
  · have h := (if_pos hc1).symm.trans h
    refine ok_iconst (v := (-1)) dX11_end_15 (by decide) ?_
    cases h
    exact ok_iret dX11_end_16 hQ
  · have h := (if_neg hc1).symm.trans h
    refine ok_iload_n dX11_end_4 1 rfl ?_
    refine ok_aload_n dX11_end_5 0 rfl ?_
    have hT2 : Z[(rO O a0 4)]? = some (8, 6) := (wt_f (ci := 11) (k := 4) hW hZ0 rfl).2
    refine ok_getR (ci := 11) (k := 4) dX11_end_6 flRX11_35 rfl hW hZ0 (by decide) ?_
    refine ok_getI (ci := 8) (k := 4) dX11_end_9 flRX11_117 rfl hT2 (by decide) ?_
    refine ok_icmp_le (t := 17) dX11_end_12 (by decide) (fun hc3 => ?_) (fun hc3 => ?_)
    · have h := (if_pos hc3).symm.trans h
      refine ok_aload_n dX11_end_17 0 rfl ?_
      refine ok_getR (ci := 11) (k := 4) dX11_end_18 flRX11_35 rfl hW hZ0 (by decide) ?_
      refine ok_iload_n dX11_end_21 1 rfl ?_
      obtain ⟨I4, eI4, h⟩ := blE h
      refine ok_putI2 (ci := 8) (k := 4) dX11_end_22 flRX11_117 rfl (Or.inl rfl) hT2 (by decide) eI4 ?_
      refine ok_iload_n dX11_end_25 1 rfl ?_
      cases h
      exact ok_iret dX11_end_26 hQ
    · have h := (if_neg hc3).symm.trans h
      refine ok_iconst (v := (-1)) dX11_end_15 (by decide) ?_
      cases h
      exact ok_iret dX11_end_16 hQ
theorem k11_end {g : pG} {Q : Option Value → pW → Prop} {Z : pZ} {I : (Nat → Nat → Int32)} {L : (Nat → Nat → Int64)} {O : (Nat → Nat → Option Nat)} {a0 : Nat} {x1 : Int32} {res : Int32 × (Nat → Nat → Int32)} (d : Nat) (hW : WT Z O) (hZ0 : Z[a0]? = some (11, 11)) (h : f11_end I O a0 x1 = some res) (hQ : Q (some (.int res.1)) (Z, res.2, L, O)) : CT g (d + 2) m11_end 0 0 [.ref a0, .int x1] (Z, I, L, O) Q :=
  ct_of_ok (mt := m11_end) (ini := false) mo11_end.2.2.2.2 (fun h => by cases h) (Nat.le_of_ble_eq_true rfl) (o11_end d hW hZ0 h ⟨trivial, hQ, rfl, rfl⟩)
theorem dX11_text_0 : decode cX11_text 0 = .ok (.aload_n 0, 1) := by decide +kernel
theorem dX11_text_1 : decode cX11_text 1 = .ok (.getfield 10, 3) := by decide +kernel
theorem dX11_text_4 : decode cX11_text 4 = .ok (.getfield 125, 3) := by decide +kernel
theorem dX11_text_7 : decode cX11_text 7 = .ok (.istore_n 1, 1) := by decide +kernel
theorem dX11_text_8 : decode cX11_text 8 = .ok (.iload_n 1, 1) := by decide +kernel
theorem dX11_text_9 : decode cX11_text 9 = .ok (.ifCond .lt 8, 3) := by decide +kernel
theorem dX11_text_12 : decode cX11_text 12 = .ok (.iload_n 1, 1) := by decide +kernel
theorem dX11_text_13 : decode cX11_text 13 = .ok (.iconst 4, 1) := by decide +kernel
theorem dX11_text_14 : decode cX11_text 14 = .ok (.if_icmp .lt 5, 3) := by decide +kernel
theorem dX11_text_17 : decode cX11_text 17 = .ok (.iconst (-1), 1) := by decide +kernel
theorem dX11_text_18 : decode cX11_text 18 = .ok (.ireturn, 1) := by decide +kernel
theorem dX11_text_19 : decode cX11_text 19 = .ok (.aload_n 0, 1) := by decide +kernel
theorem dX11_text_20 : decode cX11_text 20 = .ok (.getfield 35, 3) := by decide +kernel
theorem dX11_text_23 : decode cX11_text 23 = .ok (.invokevirtual 128, 3) := by decide +kernel
theorem dX11_text_26 : decode cX11_text 26 = .ok (.aload_n 0, 1) := by decide +kernel
theorem dX11_text_27 : decode cX11_text 27 = .ok (.getfield 75, 3) := by decide +kernel
theorem dX11_text_30 : decode cX11_text 30 = .ok (.aload_n 0, 1) := by decide +kernel
theorem dX11_text_31 : decode cX11_text 31 = .ok (.getfield 28, 3) := by decide +kernel
theorem dX11_text_34 : decode cX11_text 34 = .ok (.iload_n 1, 1) := by decide +kernel
theorem dX11_text_35 : decode cX11_text 35 = .ok (.aaload, 1) := by decide +kernel
theorem dX11_text_36 : decode cX11_text 36 = .ok (.invokevirtual 131, 3) := by decide +kernel
theorem dX11_text_39 : decode cX11_text 39 = .ok (.istore_n 2, 1) := by decide +kernel
theorem dX11_text_40 : decode cX11_text 40 = .ok (.aload_n 0, 1) := by decide +kernel
theorem dX11_text_41 : decode cX11_text 41 = .ok (.getfield 35, 3) := by decide +kernel
theorem dX11_text_44 : decode cX11_text 44 = .ok (.iconst 0, 1) := by decide +kernel
theorem dX11_text_45 : decode cX11_text 45 = .ok (.putfield 117, 3) := by decide +kernel
theorem dX11_text_48 : decode cX11_text 48 = .ok (.aload_n 0, 1) := by decide +kernel
theorem dX11_text_49 : decode cX11_text 49 = .ok (.iconst 1, 1) := by decide +kernel
theorem dX11_text_50 : decode cX11_text 50 = .ok (.putfield 135, 3) := by decide +kernel
theorem dX11_text_53 : decode cX11_text 53 = .ok (.iload_n 2, 1) := by decide +kernel
theorem dX11_text_54 : decode cX11_text 54 = .ok (.ifCond .ne 5, 3) := by decide +kernel
theorem dX11_text_57 : decode cX11_text 57 = .ok (.iconst (-1), 1) := by decide +kernel
theorem dX11_text_58 : decode cX11_text 58 = .ok (.ireturn, 1) := by decide +kernel
theorem dX11_text_59 : decode cX11_text 59 = .ok (.aload_n 0, 1) := by decide +kernel
theorem dX11_text_60 : decode cX11_text 60 = .ok (.getfield 10, 3) := by decide +kernel
theorem dX11_text_63 : decode cX11_text 63 = .ok (.iload_n 1, 1) := by decide +kernel
theorem dX11_text_64 : decode cX11_text 64 = .ok (.iconst 1, 1) := by decide +kernel
theorem dX11_text_65 : decode cX11_text 65 = .ok (.iadd, 1) := by decide +kernel
theorem dX11_text_66 : decode cX11_text 66 = .ok (.putfield 125, 3) := by decide +kernel
theorem dX11_text_69 : decode cX11_text 69 = .ok (.iload_n 1, 1) := by decide +kernel
theorem dX11_text_70 : decode cX11_text 70 = .ok (.ireturn, 1) := by decide +kernel
def m11_text : pMT := (yX11_text, cX11_text, 3, some .int)
theorem mo11_text : mOK m11_text 0 := ⟨tb_i 437 (by decide +kernel), wi_RX11, ⟨wn_RX11.1, wn_RX11.2, by decide +kernel⟩, by decide, plainFor_of_name wp_RX11⟩
theorem mv11_text : mV m11_text := ⟨tb_i 435 (by decide +kernel), tb_i 436 (by decide +kernel)⟩
def f11_text (n : Nat) (I : (Nat → Nat → Int32)) (O : (Nat → Nat → Option Nat)) (a0 : Nat) : Option (Int32 × (Nat → Nat → Int32) × (Nat → Nat → Option Nat)) := (if (I (rO O a0 0) 8) < 0 then some (((-1) : Int32), I, O) else (if (I (rO O a0 0) 8) < (4 : Int32) then (f8_cut n I O (rO O a0 4)).bind fun r5 => (if (I (rO O a0 0) 8) < 0 ∨ 4 ≤ (I (rO O a0 0) 8).toNatClampNeg then none else (f5_read n r5 O (rO O a0 5) (rO O (rO O a0 3) (I (rO O a0 0) 8).toNatClampNeg)).bind fun r11 => bl (sI r11.2.1 (rO r11.2.2 a0 4) 4 (0 : Int32)) fun I15 => bl (sI I15 a0 10 (1 : Int32)) fun I16 => (if r11.1 = 0 then some (((-1) : Int32), I16, r11.2.2) else bl (sI I16 (rO r11.2.2 a0 0) 8 ((I (rO O a0 0) 8) + 1)) fun I19 => some ((I (rO O a0 0) 8), I19, r11.2.2))) else some (((-1) : Int32), I, O)))
set_option maxHeartbeats 4000000 in
set_option maxRecDepth 20000 in
theorem o11_text {g : pG} {Qx : Option Value → pW → Prop} {Z : pZ} {I : (Nat → Nat → Int32)} {L : (Nat → Nat → Int64)} {O : (Nat → Nat → Option Nat)} {n : Nat} {a0 : Nat} {res : Int32 × (Nat → Nat → Int32) × (Nat → Nat → Option Nat)} (d : Nat) (hW : WT Z O) (hStr : StrOK g) (hZ0 : Z[a0]? = some (11, 11)) (h : f11_text n I O a0 = some res) (hQ : Qx (some (.int res.1)) (Z, res.2.1, L, res.2.2)) : Ok g (d + 108, RX11, cX11_text, 3, false, 0, 0, Z.length, pSl Z) Qx 0 [(0, .ref a0)] [] (Z, I, L, O) := by
  unfold f11_text at h
  refine ok_aload_n dX11_text_0 0 rfl ?_
  have hT1 : Z[(rO O a0 0)]? = some (9, 10) := (wt_f (ci := 11) (k := 0) hW hZ0 rfl).2
  refine ok_getR (ci := 11) (k := 0) dX11_text_1 flRX11_10 rfl hW hZ0 (by decide) ?_
  refine ok_getI (ci := 9) (k := 8) dX11_text_4 flRX11_125 rfl hT1 (by decide) ?_
  refine ok_istore_n (l' := [(1, .int (I (rO O a0 0) 8)), (0, .ref a0)]) dX11_text_7 rfl (Nat.le_of_ble_eq_true rfl) rfl ?_
  refine ok_iload_n dX11_text_8 0 rfl ?_
  refine ok_if_lt (t := 17) dX11_text_9 (by decide) (fun hc2 => ?_) (fun hc2 => ?_)
  · have h := (if_pos hc2).symm.trans h
    refine ok_iconst (v := (-1)) dX11_text_17 (by decide) ?_
    cases h
    exact ok_iret dX11_text_18 hQ
  · have h := (if_neg hc2).symm.trans h
    refine ok_iload_n dX11_text_12 0 rfl ?_
    refine ok_iconst (v := 4) dX11_text_13 (by decide) ?_
    refine ok_icmp_lt (t := 19) dX11_text_14 (by decide) (fun hc3 => ?_) (fun hc3 => ?_)
    · have h := (if_pos hc3).symm.trans h
      refine ok_aload_n dX11_text_19 1 rfl ?_
      have hT4 : Z[(rO O a0 4)]? = some (8, 6) := (wt_f (ci := 11) (k := 4) hW hZ0 rfl).2
      refine ok_getR (ci := 11) (k := 4) dX11_text_20 flRX11_35 rfl hW hZ0 (by decide) ?_
      obtain ⟨r5, hr6, h⟩ := bd h
      refine ok_callV (d := ((d + 93) + 14)) (mt := m8_cut) (mc := 0) (ms := 0) (As := []) (r := []) dX11_text_23 mo8_cut mv8_cut lkRX11_128 rfl hT4 (q := (RX8, TX8, 6)) rfl rfl rfl (Nat.le_of_ble_eq_true rfl) (by show _ + 1 ≤ d + _; omega) (Nat.le_refl _) (Nat.le_refl _) (pRt_mono ?_)
      refine k8_cut (d + 93) hW hStr hT4 hr6 ?_
      intro _
      show Ok g _ Qx 26 [(1, .int (I (rO O a0 0) 8)), (0, .ref a0)] [] (Z, r5, L, O)
      refine ok_aload_n dX11_text_26 1 rfl ?_
      have hT7 : Z[(rO O a0 5)]? = some (5, 8) := (wt_f (ci := 11) (k := 5) hW hZ0 rfl).2
      refine ok_getR (ci := 11) (k := 5) dX11_text_27 flRX11_75 rfl hW hZ0 (by decide) ?_
      refine ok_aload_n dX11_text_30 1 rfl ?_
      have hT8 : Z[(rO O a0 3)]? = some (17, 4) := (wt_f (ci := 11) (k := 3) hW hZ0 rfl).2
      refine ok_getR (ci := 11) (k := 3) dX11_text_31 flRX11_28 rfl hW hZ0 (by decide) ?_
      refine ok_iload_n dX11_text_34 0 rfl ?_
      obtain ⟨hg9, h⟩ := gd h
      have hT10 : Z[(rO O (rO O a0 3) (I (rO O a0 0) 8).toNatClampNeg)]? = some (7, 7) := (wt_s hW hT8 (clamp_lt hg9)).2
      refine ok_aald2 (N := (I (rO O a0 0) 8).toNatClampNeg) dX11_text_35 hT8 (Or.inr rfl) hW hg9 rfl ?_
      obtain ⟨r11, hr12, h⟩ := bd h
      have hW13 : WT Z r11.2.2 := w5_read hW hT7 hT10 hr12
      refine ok_callV (d := ((d + 0) + 107)) (mt := m5_read) (mc := 0) (ms := 0) (As := [.ref (rO O (rO O a0 3) (I (rO O a0 0) 8).toNatClampNeg)]) (r := []) dX11_text_36 mo5_read mv5_read lkRX11_131 rfl hT7 (q := (RX5, TX5, 8)) rfl rfl rfl (Nat.le_of_ble_eq_true rfl) (by show _ + 1 ≤ d + _; omega) (Nat.le_refl _) (Nat.le_refl _) (pRt_mono ?_)
      refine k5_read (d + 0) hW hT7 hT10 hr12 ?_
      intro hbr11
      show Ok g _ Qx 39 [(1, .int (I (rO O a0 0) 8)), (0, .ref a0)] [.int r11.1] (Z, r11.2.1, L, r11.2.2)
      refine ok_istore_n (l' := [(2, .int r11.1), (1, .int (I (rO O a0 0) 8)), (0, .ref a0)]) dX11_text_39 rfl (Nat.le_of_ble_eq_true rfl) rfl ?_
      refine ok_aload_n dX11_text_40 2 rfl ?_
      have hT14 : Z[(rO r11.2.2 a0 4)]? = some (8, 6) := (wt_f (ci := 11) (k := 4) hW13 hZ0 rfl).2
      refine ok_getR (ci := 11) (k := 4) dX11_text_41 flRX11_35 rfl hW13 hZ0 (by decide) ?_
      refine ok_iconst (v := 0) dX11_text_44 (by decide) ?_
      obtain ⟨I15, eI15, h⟩ := blE h
      refine ok_putI2 (ci := 8) (k := 4) dX11_text_45 flRX11_117 rfl (Or.inl rfl) hT14 (by decide) eI15 ?_
      refine ok_aload_n dX11_text_48 2 rfl ?_
      refine ok_iconst (v := 1) dX11_text_49 (by decide) ?_
      obtain ⟨I16, eI16, h⟩ := blE h
      refine ok_putZ2 (ci := 11) (k := 10) dX11_text_50 flRX11_135 rfl (Or.inl rfl) hZ0 (by decide) (Or.inr rfl) eI16 ?_
      refine ok_iload_n dX11_text_53 0 rfl ?_
      refine ok_if_ne (t := 59) dX11_text_54 (by decide) (fun hc17 => ?_) (fun hc17 => ?_)
      · have h := (if_neg hc17).symm.trans h
        refine ok_aload_n dX11_text_59 2 rfl ?_
        have hT18 : Z[(rO r11.2.2 a0 0)]? = some (9, 10) := (wt_f (ci := 11) (k := 0) hW13 hZ0 rfl).2
        refine ok_getR (ci := 11) (k := 0) dX11_text_60 flRX11_10 rfl hW13 hZ0 (by decide) ?_
        refine ok_iload_n dX11_text_63 1 rfl ?_
        refine ok_iconst (v := 1) dX11_text_64 (by decide) ?_
        refine ok_iadd dX11_text_65 ?_
        obtain ⟨I19, eI19, h⟩ := blE h
        refine ok_putI2 (ci := 9) (k := 8) dX11_text_66 flRX11_125 rfl (Or.inl rfl) hT18 (by decide) eI19 ?_
        refine ok_iload_n dX11_text_69 1 rfl ?_
        cases h
        exact ok_iret dX11_text_70 hQ
      · have h := (if_pos hc17).symm.trans h
        refine ok_iconst (v := (-1)) dX11_text_57 (by decide) ?_
        cases h
        exact ok_iret dX11_text_58 hQ
    · have h := (if_neg hc3).symm.trans h
      refine ok_iconst (v := (-1)) dX11_text_17 (by decide) ?_
      cases h
      exact ok_iret dX11_text_18 hQ
theorem k11_text {g : pG} {Q : Option Value → pW → Prop} {Z : pZ} {I : (Nat → Nat → Int32)} {L : (Nat → Nat → Int64)} {O : (Nat → Nat → Option Nat)} {n : Nat} {a0 : Nat} {res : Int32 × (Nat → Nat → Int32) × (Nat → Nat → Option Nat)} (d : Nat) (hW : WT Z O) (hStr : StrOK g) (hZ0 : Z[a0]? = some (11, 11)) (h : f11_text n I O a0 = some res) (hQ : Q (some (.int res.1)) (Z, res.2.1, L, res.2.2)) : CT g (d + 108) m11_text 0 0 [.ref a0] (Z, I, L, O) Q :=
  ct_of_ok (mt := m11_text) (ini := false) mo11_text.2.2.2.2 (fun h => by cases h) (Nat.le_of_ble_eq_true rfl) (o11_text d hW hStr hZ0 h ⟨trivial, hQ, rfl, rfl⟩)
theorem w11_text {Z : pZ} {n : Nat} {I : (Nat → Nat → Int32)} {O : (Nat → Nat → Option Nat)} {a0 : Nat} {res : Int32 × (Nat → Nat → Int32) × (Nat → Nat → Option Nat)} (hW : WT Z O) (hZ0 : Z[a0]? = some (11, 11)) (h : f11_text n I O a0 = some res) : WT Z res.2.2 := by
  unfold f11_text at h
  by_cases c1 : I (rO O a0 0) 8 < 0
  · rw [if_pos c1] at h; cases h; exact hW
  rw [if_neg c1] at h
  by_cases c2 : I (rO O a0 0) 8 < (4 : Int32)
  · rw [if_pos c2] at h
    obtain ⟨r5, h5, h⟩ := bd h
    obtain ⟨hg, h⟩ := gd h
    obtain ⟨r11, h11, h⟩ := bd h
    have hw := w5_read hW (wt_f (ci := 11) (k := 5) hW hZ0 rfl).2 (wt_s hW (wt_f (ci := 11) (k := 3) hW hZ0 rfl).2 (clamp_lt hg)).2 h11
    obtain ⟨I15, e15, h⟩ := blE h
    obtain ⟨I16, e16, h⟩ := blE h
    by_cases c3 : r11.1 = 0
    · rw [if_pos c3] at h; cases h; exact hw
    rw [if_neg c3] at h
    obtain ⟨I19, e19, h⟩ := blE h
    cases h
    exact hw
  · rw [if_neg c2] at h; cases h; exact hW
theorem dX11_fault_0 : decode cX11_fault 0 = .ok (.aload_n 0, 1) := by decide +kernel
theorem dX11_fault_1 : decode cX11_fault 1 = .ok (.getfield 135, 3) := by decide +kernel
theorem dX11_fault_4 : decode cX11_fault 4 = .ok (.ifCond .ne 5, 3) := by decide +kernel
theorem dX11_fault_7 : decode cX11_fault 7 = .ok (.iconst (-1), 1) := by decide +kernel
theorem dX11_fault_8 : decode cX11_fault 8 = .ok (.ireturn, 1) := by decide +kernel
theorem dX11_fault_9 : decode cX11_fault 9 = .ok (.iload_n 1, 1) := by decide +kernel
theorem dX11_fault_10 : decode cX11_fault 10 = .ok (.ifCond .ne 11, 3) := by decide +kernel
theorem dX11_fault_13 : decode cX11_fault 13 = .ok (.aload_n 0, 1) := by decide +kernel
theorem dX11_fault_14 : decode cX11_fault 14 = .ok (.getfield 75, 3) := by decide +kernel
theorem dX11_fault_17 : decode cX11_fault 17 = .ok (.getfield 139, 3) := by decide +kernel
theorem dX11_fault_20 : decode cX11_fault 20 = .ok (.ireturn, 1) := by decide +kernel
theorem dX11_fault_21 : decode cX11_fault 21 = .ok (.iload_n 1, 1) := by decide +kernel
theorem dX11_fault_22 : decode cX11_fault 22 = .ok (.iconst 1, 1) := by decide +kernel
theorem dX11_fault_23 : decode cX11_fault 23 = .ok (.if_icmp .ne 13, 3) := by decide +kernel
theorem dX11_fault_26 : decode cX11_fault 26 = .ok (.aload_n 0, 1) := by decide +kernel
theorem dX11_fault_27 : decode cX11_fault 27 = .ok (.getfield 75, 3) := by decide +kernel
theorem dX11_fault_30 : decode cX11_fault 30 = .ok (.getfield 142, 3) := by decide +kernel
theorem dX11_fault_33 : decode cX11_fault 33 = .ok (.goto 4, 3) := by decide +kernel
theorem dX11_fault_36 : decode cX11_fault 36 = .ok (.iconst (-1), 1) := by decide +kernel
theorem dX11_fault_37 : decode cX11_fault 37 = .ok (.ireturn, 1) := by decide +kernel
def m11_fault : pMT := (yX11_fault, cX11_fault, 2, some .int)
theorem mo11_fault : mOK m11_fault 1 := ⟨tb_i 648 (by decide +kernel), wi_RX11, ⟨wn_RX11.1, wn_RX11.2, by decide +kernel⟩, by decide, plainFor_of_name wp_RX11⟩
theorem mv11_fault : mV m11_fault := ⟨tb_i 646 (by decide +kernel), tb_i 647 (by decide +kernel)⟩
def f11_fault (I : (Nat → Nat → Int32)) (O : (Nat → Nat → Option Nat)) (a0 : Nat) (x1 : Int32) : Option (Int32) := (if (I a0 10) = 0 then some (((-1) : Int32)) else (if x1 = 0 then some ((I (rO O a0 5) 6)) else (if x1 = (1 : Int32) then some ((I (rO O a0 5) 7)) else some (((-1) : Int32)))))
set_option maxHeartbeats 4000000 in
set_option maxRecDepth 20000 in
theorem o11_fault {g : pG} {Qx : Option Value → pW → Prop} {Z : pZ} {I : (Nat → Nat → Int32)} {L : (Nat → Nat → Int64)} {O : (Nat → Nat → Option Nat)} {a0 : Nat} {x1 : Int32} {res : Int32} (d : Nat) (hW : WT Z O) (hZ0 : Z[a0]? = some (11, 11)) (h : f11_fault I O a0 x1 = some res) (hQ : Qx (some (.int res)) (Z, I, L, O)) : Ok g (d + 2, RX11, cX11_fault, 2, false, 0, 0, Z.length, pSl Z) Qx 0 [(0, .ref a0), (1, .int x1)] [] (Z, I, L, O) := by
  unfold f11_fault at h
  refine ok_aload_n dX11_fault_0 0 rfl ?_
  refine ok_getI (ci := 11) (k := 10) dX11_fault_1 flRX11_135 rfl hZ0 (by decide) ?_
  refine ok_if_ne (t := 9) dX11_fault_4 (by decide) (fun hc1 => ?_) (fun hc1 => ?_)
  · have h := (if_neg hc1).symm.trans h
    refine ok_iload_n dX11_fault_9 1 rfl ?_
    refine ok_if_ne (t := 21) dX11_fault_10 (by decide) (fun hc2 => ?_) (fun hc2 => ?_)
    · have h := (if_neg hc2).symm.trans h
      refine ok_iload_n dX11_fault_21 1 rfl ?_
      refine ok_iconst (v := 1) dX11_fault_22 (by decide) ?_
      refine ok_icmp_ne (t := 36) dX11_fault_23 (by decide) (fun hc3 => ?_) (fun hc3 => ?_)
      · have h := (if_neg hc3).symm.trans h
        refine ok_iconst (v := (-1)) dX11_fault_36 (by decide) ?_
        cases h
        exact ok_iret dX11_fault_37 hQ
      · have h := (if_pos hc3).symm.trans h
        refine ok_aload_n dX11_fault_26 0 rfl ?_
        have hT4 : Z[(rO O a0 5)]? = some (5, 8) := (wt_f (ci := 11) (k := 5) hW hZ0 rfl).2
        refine ok_getR (ci := 11) (k := 5) dX11_fault_27 flRX11_75 rfl hW hZ0 (by decide) ?_
        refine ok_getI (ci := 5) (k := 7) dX11_fault_30 flRX11_142 rfl hT4 (by decide) ?_
        refine ok_goto (t := 37) dX11_fault_33 (by decide) ?_
        cases h
        exact ok_iret dX11_fault_37 hQ
    · have h := (if_pos hc2).symm.trans h
      refine ok_aload_n dX11_fault_13 0 rfl ?_
      have hT5 : Z[(rO O a0 5)]? = some (5, 8) := (wt_f (ci := 11) (k := 5) hW hZ0 rfl).2
      refine ok_getR (ci := 11) (k := 5) dX11_fault_14 flRX11_75 rfl hW hZ0 (by decide) ?_
      refine ok_getI (ci := 5) (k := 6) dX11_fault_17 flRX11_139 rfl hT5 (by decide) ?_
      cases h
      exact ok_iret dX11_fault_20 hQ
  · have h := (if_pos hc1).symm.trans h
    refine ok_iconst (v := (-1)) dX11_fault_7 (by decide) ?_
    cases h
    exact ok_iret dX11_fault_8 hQ
theorem k11_fault {g : pG} {Q : Option Value → pW → Prop} {Z : pZ} {I : (Nat → Nat → Int32)} {L : (Nat → Nat → Int64)} {O : (Nat → Nat → Option Nat)} {a0 : Nat} {x1 : Int32} {res : Int32} (d : Nat) (hW : WT Z O) (hZ0 : Z[a0]? = some (11, 11)) (h : f11_fault I O a0 x1 = some res) (hQ : Q (some (.int res)) (Z, I, L, O)) : CT g (d + 2) m11_fault 0 0 [.ref a0, .int x1] (Z, I, L, O) Q :=
  ct_of_ok (mt := m11_fault) (ini := false) mo11_fault.2.2.2.2 (fun h => by cases h) (Nat.le_of_ble_eq_true rfl) (o11_fault d hW hZ0 h ⟨trivial, hQ, rfl, rfl⟩)
theorem dX11_textOf_0 : decode cX11_textOf 0 = .ok (.iload_n 1, 1) := by decide +kernel
theorem dX11_textOf_1 : decode cX11_textOf 1 = .ok (.ifCond .lt 28, 3) := by decide +kernel
theorem dX11_textOf_4 : decode cX11_textOf 4 = .ok (.iload_n 1, 1) := by decide +kernel
theorem dX11_textOf_5 : decode cX11_textOf 5 = .ok (.aload_n 0, 1) := by decide +kernel
theorem dX11_textOf_6 : decode cX11_textOf 6 = .ok (.getfield 10, 3) := by decide +kernel
theorem dX11_textOf_9 : decode cX11_textOf 9 = .ok (.getfield 125, 3) := by decide +kernel
theorem dX11_textOf_12 : decode cX11_textOf 12 = .ok (.if_icmp .ge 17, 3) := by decide +kernel
theorem dX11_textOf_15 : decode cX11_textOf 15 = .ok (.iload_n 1, 1) := by decide +kernel
theorem dX11_textOf_16 : decode cX11_textOf 16 = .ok (.iconst 4, 1) := by decide +kernel
theorem dX11_textOf_17 : decode cX11_textOf 17 = .ok (.if_icmp .ge 12, 3) := by decide +kernel
theorem dX11_textOf_20 : decode cX11_textOf 20 = .ok (.aload_n 0, 1) := by decide +kernel
theorem dX11_textOf_21 : decode cX11_textOf 21 = .ok (.getfield 28, 3) := by decide +kernel
theorem dX11_textOf_24 : decode cX11_textOf 24 = .ok (.iload_n 1, 1) := by decide +kernel
theorem dX11_textOf_25 : decode cX11_textOf 25 = .ok (.aaload, 1) := by decide +kernel
theorem dX11_textOf_26 : decode cX11_textOf 26 = .ok (.goto 4, 3) := by decide +kernel
theorem dX11_textOf_29 : decode cX11_textOf 29 = .ok (.aconst_null, 1) := by decide +kernel
theorem dX11_textOf_30 : decode cX11_textOf 30 = .ok (.areturn, 1) := by decide +kernel
def m11_textOf : pMT := (yX11_textOf, cX11_textOf, 2, some (.object "PianolaRolls$Script"))
theorem mo11_textOf : mOK m11_textOf 1 := ⟨tb_i 656 (by decide +kernel), wi_RX11, ⟨wn_RX11.1, wn_RX11.2, by decide +kernel⟩, by decide, plainFor_of_name wp_RX11⟩
theorem mv11_textOf : mV m11_textOf := ⟨tb_i 655 (by decide +kernel), tb_p 26 (by decide +kernel)⟩
def f11_textOf (I : (Nat → Nat → Int32)) (O : (Nat → Nat → Option Nat)) (a0 : Nat) (x1 : Int32) : Option (Option Nat) := (if x1 < 0 then some (none) else (if (I (rO O a0 0) 8) ≤ x1 then some (none) else (if (4 : Int32) ≤ x1 then some (none) else (if x1 < 0 ∨ 4 ≤ x1.toNatClampNeg then none else some ((some (rO O (rO O a0 3) x1.toNatClampNeg)))))))
set_option maxHeartbeats 4000000 in
set_option maxRecDepth 20000 in
theorem o11_textOf {g : pG} {Qx : Option Value → pW → Prop} {Z : pZ} {I : (Nat → Nat → Int32)} {L : (Nat → Nat → Int64)} {O : (Nat → Nat → Option Nat)} {a0 : Nat} {x1 : Int32} {res : Option Nat} (d : Nat) (hW : WT Z O) (hZ0 : Z[a0]? = some (11, 11)) (h : f11_textOf I O a0 x1 = some res) (hQ : Qx (some (va_rf res)) (Z, I, L, O)) : Ok g (d + 2, RX11, cX11_textOf, 2, false, 0, 0, Z.length, pSl Z) Qx 0 [(0, .ref a0), (1, .int x1)] [] (Z, I, L, O) := by
  unfold f11_textOf at h
  refine ok_iload_n dX11_textOf_0 1 rfl ?_
  refine ok_if_lt (t := 29) dX11_textOf_1 (by decide) (fun hc1 => ?_) (fun hc1 => ?_)
  · have h := (if_pos hc1).symm.trans h
    refine ok_null dX11_textOf_29 ?_
    cases h
    exact ok_aretQ (s := none) dX11_textOf_30 hQ
  · have h := (if_neg hc1).symm.trans h
    refine ok_iload_n dX11_textOf_4 1 rfl ?_
    refine ok_aload_n dX11_textOf_5 0 rfl ?_
    have hT2 : Z[(rO O a0 0)]? = some (9, 10) := (wt_f (ci := 11) (k := 0) hW hZ0 rfl).2
    refine ok_getR (ci := 11) (k := 0) dX11_textOf_6 flRX11_10 rfl hW hZ0 (by decide) ?_
    refine ok_getI (ci := 9) (k := 8) dX11_textOf_9 flRX11_125 rfl hT2 (by decide) ?_
    refine ok_icmp_ge (t := 29) dX11_textOf_12 (by decide) (fun hc3 => ?_) (fun hc3 => ?_)
    · have h := (if_pos hc3).symm.trans h
      refine ok_null dX11_textOf_29 ?_
      cases h
      exact ok_aretQ (s := none) dX11_textOf_30 hQ
    · have h := (if_neg hc3).symm.trans h
      refine ok_iload_n dX11_textOf_15 1 rfl ?_
      refine ok_iconst (v := 4) dX11_textOf_16 (by decide) ?_
      refine ok_icmp_ge (t := 29) dX11_textOf_17 (by decide) (fun hc4 => ?_) (fun hc4 => ?_)
      · have h := (if_pos hc4).symm.trans h
        refine ok_null dX11_textOf_29 ?_
        cases h
        exact ok_aretQ (s := none) dX11_textOf_30 hQ
      · have h := (if_neg hc4).symm.trans h
        refine ok_aload_n dX11_textOf_20 0 rfl ?_
        have hT5 : Z[(rO O a0 3)]? = some (17, 4) := (wt_f (ci := 11) (k := 3) hW hZ0 rfl).2
        refine ok_getR (ci := 11) (k := 3) dX11_textOf_21 flRX11_28 rfl hW hZ0 (by decide) ?_
        refine ok_iload_n dX11_textOf_24 1 rfl ?_
        obtain ⟨hg6, h⟩ := gd h
        have hT7 : Z[(rO O (rO O a0 3) x1.toNatClampNeg)]? = some (7, 7) := (wt_s hW hT5 (clamp_lt hg6)).2
        refine ok_aald2 (N := x1.toNatClampNeg) dX11_textOf_25 hT5 (Or.inr rfl) hW hg6 rfl ?_
        refine ok_goto (t := 30) dX11_textOf_26 (by decide) ?_
        cases h
        exact ok_aretQ (s := (some (rO O (rO O a0 3) x1.toNatClampNeg))) dX11_textOf_30 hQ
theorem k11_textOf {g : pG} {Q : Option Value → pW → Prop} {Z : pZ} {I : (Nat → Nat → Int32)} {L : (Nat → Nat → Int64)} {O : (Nat → Nat → Option Nat)} {a0 : Nat} {x1 : Int32} {res : Option Nat} (d : Nat) (hW : WT Z O) (hZ0 : Z[a0]? = some (11, 11)) (h : f11_textOf I O a0 x1 = some res) (hQ : Q (some (va_rf res)) (Z, I, L, O)) : CT g (d + 2) m11_textOf 0 0 [.ref a0, .int x1] (Z, I, L, O) Q :=
  ct_of_ok (mt := m11_textOf) (ini := false) mo11_textOf.2.2.2.2 (fun h => by cases h) (Nat.le_of_ble_eq_true rfl) (o11_textOf d hW hZ0 h ⟨rt_rf _ _, hQ, rfl, rfl⟩)
theorem t11_textOf {Z : pZ} {I : (Nat → Nat → Int32)} {O : (Nat → Nat → Option Nat)} {a0 : Nat} {x1 : Int32} {v : Option Nat} (hW : WT Z O) (hZ0 : Z[a0]? = some (11, 11)) (h : f11_textOf I O a0 x1 = some v) : ∀ b, v = some b → Z[b]? = some (7, 7) := by
  intro b hb
  subst hb
  unfold f11_textOf at h
  by_cases c1 : x1 < 0
  · rw [if_pos c1] at h; cases h
  rw [if_neg c1] at h
  by_cases c2 : I (rO O a0 0) 8 ≤ x1
  · rw [if_pos c2] at h; cases h
  rw [if_neg c2] at h
  by_cases c3 : (4 : Int32) ≤ x1
  · rw [if_pos c3] at h; cases h
  rw [if_neg c3] at h
  obtain ⟨hg, h⟩ := gd h
  cases h
  exact (wt_s hW (wt_f (ci := 11) (k := 3) hW hZ0 rfl).2 (clamp_lt hg)).2
theorem dX11_by_0 : decode cX11_by 0 = .ok (.iload_n 1, 1) := by decide +kernel
theorem dX11_by_1 : decode cX11_by 1 = .ok (.iconst (-1), 1) := by decide +kernel
theorem dX11_by_2 : decode cX11_by 2 = .ok (.if_icmp .eq 13, 3) := by decide +kernel
theorem dX11_by_5 : decode cX11_by 5 = .ok (.aload_n 0, 1) := by decide +kernel
theorem dX11_by_6 : decode cX11_by 6 = .ok (.iload_n 1, 1) := by decide +kernel
theorem dX11_by_7 : decode cX11_by 7 = .ok (.invokevirtual 145, 3) := by decide +kernel
theorem dX11_by_10 : decode cX11_by 10 = .ok (.ifnonnull 5, 3) := by decide +kernel
theorem dX11_by_13 : decode cX11_by 13 = .ok (.iconst 0, 1) := by decide +kernel
theorem dX11_by_14 : decode cX11_by 14 = .ok (.ireturn, 1) := by decide +kernel
theorem dX11_by_15 : decode cX11_by 15 = .ok (.aload_n 0, 1) := by decide +kernel
theorem dX11_by_16 : decode cX11_by 16 = .ok (.getfield 10, 3) := by decide +kernel
theorem dX11_by_19 : decode cX11_by 19 = .ok (.iload_n 1, 1) := by decide +kernel
theorem dX11_by_20 : decode cX11_by 20 = .ok (.putfield 149, 3) := by decide +kernel
theorem dX11_by_23 : decode cX11_by 23 = .ok (.iconst 1, 1) := by decide +kernel
theorem dX11_by_24 : decode cX11_by 24 = .ok (.ireturn, 1) := by decide +kernel
def m11_by : pMT := (yX11_by, cX11_by, 2, some .boolean)
theorem mo11_by : mOK m11_by 1 := ⟨tb_i 652 (by decide +kernel), wi_RX11, ⟨wn_RX11.1, wn_RX11.2, by decide +kernel⟩, by decide, plainFor_of_name wp_RX11⟩
theorem mv11_by : mV m11_by := ⟨tb_i 650 (by decide +kernel), tb_i 651 (by decide +kernel)⟩
def f11_by (I : (Nat → Nat → Int32)) (O : (Nat → Nat → Option Nat)) (a0 : Nat) (x1 : Int32) : Option (Int32 × (Nat → Nat → Int32)) := (if x1 = (-1 : Int32) then bl (sI I (rO O a0 0) 9 x1) fun I3 => some ((1 : Int32), I3) else (f11_textOf I O a0 x1).bind fun r4 => (match r4 with | none => some ((0 : Int32), I) | some b6 => bl (sI I (rO O a0 0) 9 x1) fun I9 => some ((1 : Int32), I9)))
set_option maxHeartbeats 4000000 in
set_option maxRecDepth 20000 in
theorem o11_by {g : pG} {Qx : Option Value → pW → Prop} {Z : pZ} {I : (Nat → Nat → Int32)} {L : (Nat → Nat → Int64)} {O : (Nat → Nat → Option Nat)} {a0 : Nat} {x1 : Int32} {res : Int32 × (Nat → Nat → Int32)} (d : Nat) (hW : WT Z O) (hZ0 : Z[a0]? = some (11, 11)) (h : f11_by I O a0 x1 = some res) (hQ : (res.1 = 0 ∨ res.1 = 1) → Qx (some (.int res.1)) (Z, res.2, L, O)) : Ok g (d + 3, RX11, cX11_by, 2, false, 0, 0, Z.length, pSl Z) Qx 0 [(0, .ref a0), (1, .int x1)] [] (Z, I, L, O) := by
  unfold f11_by at h
  refine ok_iload_n dX11_by_0 1 rfl ?_
  refine ok_iconst (v := (-1)) dX11_by_1 (by decide) ?_
  refine ok_icmp_eq (t := 15) dX11_by_2 (by decide) (fun hc1 => ?_) (fun hc1 => ?_)
  · have h := (if_pos hc1).symm.trans h
    refine ok_aload_n dX11_by_15 0 rfl ?_
    have hT2 : Z[(rO O a0 0)]? = some (9, 10) := (wt_f (ci := 11) (k := 0) hW hZ0 rfl).2
    refine ok_getR (ci := 11) (k := 0) dX11_by_16 flRX11_10 rfl hW hZ0 (by decide) ?_
    refine ok_iload_n dX11_by_19 1 rfl ?_
    obtain ⟨I3, eI3, h⟩ := blE h
    refine ok_putI2 (ci := 9) (k := 9) dX11_by_20 flRX11_149 rfl (Or.inl rfl) hT2 (by decide) eI3 ?_
    refine ok_iconst (v := 1) dX11_by_23 (by decide) ?_
    cases h
    exact ok_iret dX11_by_24 (hQ (Or.inr rfl))
  · have h := (if_neg hc1).symm.trans h
    refine ok_aload_n dX11_by_5 0 rfl ?_
    refine ok_iload_n dX11_by_6 1 rfl ?_
    obtain ⟨r4, hr5, h⟩ := bd h
    have hSr4 := t11_textOf hW hZ0 hr5
    refine ok_callV (d := ((d + 0) + 2)) (mt := m11_textOf) (mc := 0) (ms := 0) (As := [.int x1]) (r := []) dX11_by_7 mo11_textOf mv11_textOf lkRX11_145 rfl hZ0 (q := (RX11, TX11, 11)) rfl rfl rfl (Nat.le_of_ble_eq_true rfl) (by show _ + 1 ≤ d + _; omega) (Nat.le_refl _) (Nat.le_refl _) (pRt_mono ?_)
    refine k11_textOf (d + 0) hW hZ0 hr5 ?_
    intro _
    show Ok g _ Qx 10 [(0, .ref a0), (1, .int x1)] [va_rf r4] (Z, I, L, O)
    refine ok_ifnonnullQ (t := 15) dX11_by_10 (by decide) ?_ ?_
    · intro b6 hs7
      subst hs7
      show Ok g _ Qx 15 [(0, .ref a0), (1, .int x1)] [] (Z, I, L, O)
      refine ok_aload_n dX11_by_15 0 rfl ?_
      have hT8 : Z[(rO O a0 0)]? = some (9, 10) := (wt_f (ci := 11) (k := 0) hW hZ0 rfl).2
      refine ok_getR (ci := 11) (k := 0) dX11_by_16 flRX11_10 rfl hW hZ0 (by decide) ?_
      refine ok_iload_n dX11_by_19 1 rfl ?_
      obtain ⟨I9, eI9, h⟩ := blE h
      refine ok_putI2 (ci := 9) (k := 9) dX11_by_20 flRX11_149 rfl (Or.inl rfl) hT8 (by decide) eI9 ?_
      refine ok_iconst (v := 1) dX11_by_23 (by decide) ?_
      cases h
      exact ok_iret dX11_by_24 (hQ (Or.inr rfl))
    · intro hs7
      subst hs7
      show Ok g _ Qx 13 [(0, .ref a0), (1, .int x1)] [] (Z, I, L, O)
      refine ok_iconst (v := 0) dX11_by_13 (by decide) ?_
      cases h
      exact ok_iret dX11_by_14 (hQ (Or.inl rfl))
theorem k11_by {g : pG} {Q : Option Value → pW → Prop} {Z : pZ} {I : (Nat → Nat → Int32)} {L : (Nat → Nat → Int64)} {O : (Nat → Nat → Option Nat)} {a0 : Nat} {x1 : Int32} {res : Int32 × (Nat → Nat → Int32)} (d : Nat) (hW : WT Z O) (hZ0 : Z[a0]? = some (11, 11)) (h : f11_by I O a0 x1 = some res) (hQ : Q (some (.int res.1)) (Z, res.2, L, O)) : CT g (d + 3) m11_by 0 0 [.ref a0, .int x1] (Z, I, L, O) Q :=
  ct_of_ok (mt := m11_by) (ini := false) mo11_by.2.2.2.2 (fun h => by cases h) (Nat.le_of_ble_eq_true rfl) (o11_by d hW hZ0 h (fun hb => ⟨hb, hQ, rfl, rfl⟩))
theorem dX11_ruling_0 : decode cX11_ruling 0 = .ok (.aload_n 0, 1) := by decide +kernel
theorem dX11_ruling_1 : decode cX11_ruling 1 = .ok (.aload_n 0, 1) := by decide +kernel
theorem dX11_ruling_2 : decode cX11_ruling 2 = .ok (.getfield 10, 3) := by decide +kernel
theorem dX11_ruling_5 : decode cX11_ruling 5 = .ok (.getfield 149, 3) := by decide +kernel
theorem dX11_ruling_8 : decode cX11_ruling 8 = .ok (.invokevirtual 145, 3) := by decide +kernel
theorem dX11_ruling_11 : decode cX11_ruling 11 = .ok (.areturn, 1) := by decide +kernel
def m11_ruling : pMT := (yX11_ruling, cX11_ruling, 1, some (.object "PianolaRolls$Script"))
theorem mo11_ruling : mOK m11_ruling 0 := ⟨tb_i 694 (by decide +kernel), wi_RX11, ⟨wn_RX11.1, wn_RX11.2, by decide +kernel⟩, by decide, plainFor_of_name wp_RX11⟩
theorem mv11_ruling : mV m11_ruling := ⟨tb_i 693 (by decide +kernel), tb_p 28 (by decide +kernel)⟩
def f11_ruling (I : (Nat → Nat → Int32)) (O : (Nat → Nat → Option Nat)) (a0 : Nat) : Option (Option Nat) := (f11_textOf I O a0 (I (rO O a0 0) 9)).bind fun r2 => some (r2)
set_option maxHeartbeats 4000000 in
set_option maxRecDepth 20000 in
theorem o11_ruling {g : pG} {Qx : Option Value → pW → Prop} {Z : pZ} {I : (Nat → Nat → Int32)} {L : (Nat → Nat → Int64)} {O : (Nat → Nat → Option Nat)} {a0 : Nat} {res : Option Nat} (d : Nat) (hW : WT Z O) (hZ0 : Z[a0]? = some (11, 11)) (h : f11_ruling I O a0 = some res) (hQ : Qx (some (va_rf res)) (Z, I, L, O)) : Ok g (d + 3, RX11, cX11_ruling, 1, false, 0, 0, Z.length, pSl Z) Qx 0 [(0, .ref a0)] [] (Z, I, L, O) := by
  unfold f11_ruling at h
  refine ok_aload_n dX11_ruling_0 0 rfl ?_
  refine ok_aload_n dX11_ruling_1 0 rfl ?_
  have hT1 : Z[(rO O a0 0)]? = some (9, 10) := (wt_f (ci := 11) (k := 0) hW hZ0 rfl).2
  refine ok_getR (ci := 11) (k := 0) dX11_ruling_2 flRX11_10 rfl hW hZ0 (by decide) ?_
  refine ok_getI (ci := 9) (k := 9) dX11_ruling_5 flRX11_149 rfl hT1 (by decide) ?_
  obtain ⟨r2, hr3, h⟩ := bd h
  have hSr2 := t11_textOf hW hZ0 hr3
  refine ok_callV (d := ((d + 0) + 2)) (mt := m11_textOf) (mc := 0) (ms := 0) (As := [.int (I (rO O a0 0) 9)]) (r := []) dX11_ruling_8 mo11_textOf mv11_textOf lkRX11_145 rfl hZ0 (q := (RX11, TX11, 11)) rfl rfl rfl (Nat.le_of_ble_eq_true rfl) (by show _ + 1 ≤ d + _; omega) (Nat.le_refl _) (Nat.le_refl _) (pRt_mono ?_)
  refine k11_textOf (d + 0) hW hZ0 hr3 ?_
  intro _
  show Ok g _ Qx 11 [(0, .ref a0)] [va_rf r2] (Z, I, L, O)
  cases h
  exact ok_aretQ dX11_ruling_11 hQ
theorem k11_ruling {g : pG} {Q : Option Value → pW → Prop} {Z : pZ} {I : (Nat → Nat → Int32)} {L : (Nat → Nat → Int64)} {O : (Nat → Nat → Option Nat)} {a0 : Nat} {res : Option Nat} (d : Nat) (hW : WT Z O) (hZ0 : Z[a0]? = some (11, 11)) (h : f11_ruling I O a0 = some res) (hQ : Q (some (va_rf res)) (Z, I, L, O)) : CT g (d + 3) m11_ruling 0 0 [.ref a0] (Z, I, L, O) Q :=
  ct_of_ok (mt := m11_ruling) (ini := false) mo11_ruling.2.2.2.2 (fun h => by cases h) (Nat.le_of_ble_eq_true rfl) (o11_ruling d hW hZ0 h ⟨rt_rf _ _, hQ, rfl, rfl⟩)
theorem t11_ruling {Z : pZ} {I : (Nat → Nat → Int32)} {O : (Nat → Nat → Option Nat)} {a0 : Nat} {v : Option Nat} (hW : WT Z O) (hZ0 : Z[a0]? = some (11, 11)) (h : f11_ruling I O a0 = some v) : ∀ b, v = some b → Z[b]? = some (7, 7) := by
  unfold f11_ruling at h
  obtain ⟨r, h1, h⟩ := bd h
  cases h
  exact t11_textOf hW hZ0 h1
theorem dX11_play_0 : decode cX11_play 0 = .ok (.aload_n 0, 1) := by decide +kernel
theorem dX11_play_1 : decode cX11_play 1 = .ok (.getfield 10, 3) := by decide +kernel
theorem dX11_play_4 : decode cX11_play 4 = .ok (.getfield 79, 3) := by decide +kernel
theorem dX11_play_7 : decode cX11_play 7 = .ok (.iload_n 1, 1) := by decide +kernel
theorem dX11_play_8 : decode cX11_play 8 = .ok (.invokevirtual 152, 3) := by decide +kernel
theorem dX11_play_11 : decode cX11_play 11 = .ok (.ifCond .eq 17, 3) := by decide +kernel
theorem dX11_play_14 : decode cX11_play 14 = .ok (.aload_n 0, 1) := by decide +kernel
theorem dX11_play_15 : decode cX11_play 15 = .ok (.getfield 10, 3) := by decide +kernel
theorem dX11_play_18 : decode cX11_play 18 = .ok (.getfield 79, 3) := by decide +kernel
theorem dX11_play_21 : decode cX11_play 21 = .ok (.iload_n 2, 1) := by decide +kernel
theorem dX11_play_22 : decode cX11_play 22 = .ok (.invokevirtual 156, 3) := by decide +kernel
theorem dX11_play_25 : decode cX11_play 25 = .ok (.ifCond .ne 5, 3) := by decide +kernel
theorem dX11_play_28 : decode cX11_play 28 = .ok (.iconst (-1), 1) := by decide +kernel
theorem dX11_play_29 : decode cX11_play 29 = .ok (.ireturn, 1) := by decide +kernel
theorem dX11_play_30 : decode cX11_play 30 = .ok (.aload_n 0, 1) := by decide +kernel
theorem dX11_play_31 : decode cX11_play 31 = .ok (.getfield 10, 3) := by decide +kernel
theorem dX11_play_34 : decode cX11_play 34 = .ok (.invokevirtual 159, 3) := by decide +kernel
theorem dX11_play_37 : decode cX11_play 37 = .ok (.aload_n 0, 1) := by decide +kernel
theorem dX11_play_38 : decode cX11_play 38 = .ok (.getfield 51, 3) := by decide +kernel
theorem dX11_play_41 : decode cX11_play 41 = .ok (.aload_n 0, 1) := by decide +kernel
theorem dX11_play_42 : decode cX11_play 42 = .ok (.getfield 10, 3) := by decide +kernel
theorem dX11_play_45 : decode cX11_play 45 = .ok (.getfield 79, 3) := by decide +kernel
theorem dX11_play_48 : decode cX11_play 48 = .ok (.aload_n 0, 1) := by decide +kernel
theorem dX11_play_49 : decode cX11_play 49 = .ok (.invokevirtual 162, 3) := by decide +kernel
theorem dX11_play_52 : decode cX11_play 52 = .ok (.iload_n 1, 1) := by decide +kernel
theorem dX11_play_53 : decode cX11_play 53 = .ok (.iload_n 2, 1) := by decide +kernel
theorem dX11_play_54 : decode cX11_play 54 = .ok (.invokevirtual 165, 3) := by decide +kernel
theorem dX11_play_57 : decode cX11_play 57 = .ok (.ireturn, 1) := by decide +kernel
def m11_play : pMT := (yX11_play, cX11_play, 3, some .int)
theorem mo11_play : mOK m11_play 2 := ⟨tb_i 660 (by decide +kernel), wi_RX11, ⟨wn_RX11.1, wn_RX11.2, by decide +kernel⟩, by decide, plainFor_of_name wp_RX11⟩
theorem mv11_play : mV m11_play := ⟨tb_i 658 (by decide +kernel), tb_i 659 (by decide +kernel)⟩
def f11_play (n : Nat) (I : (Nat → Nat → Int32)) (O : (Nat → Nat → Option Nat)) (a0 : Nat) (x1 : Int32) (x2 : Int32) : Option (Int32 × (Nat → Nat → Int32)) := (f10_hasRoll I (rO O (rO O a0 0) 0) x1).bind fun r3 => (if r3 = 0 then some (((-1) : Int32), I) else (f10_hasChild I (rO O (rO O a0 0) 0) x2).bind fun r6 => (if r6 = 0 then some (((-1) : Int32), I) else (f9_keepStep I O (rO O a0 0)).bind fun r9 => (f11_ruling r9 O a0).bind fun r12 => (f4_playRoll n r9 O (rO O a0 7) (rO O (rO O a0 0) 0) r12 x1 x2).bind fun r14 => some (r14.1, r14.2)))
set_option maxHeartbeats 4000000 in
set_option maxRecDepth 20000 in
theorem o11_play {g : pG} {Qx : Option Value → pW → Prop} {Z : pZ} {I : (Nat → Nat → Int32)} {L : (Nat → Nat → Int64)} {O : (Nat → Nat → Option Nat)} {n : Nat} {a0 : Nat} {x1 : Int32} {x2 : Int32} {res : Int32 × (Nat → Nat → Int32)} (d : Nat) (hW : WT Z O) (hZ0 : Z[a0]? = some (11, 11)) (h : f11_play n I O a0 x1 x2 = some res) (hQ : Qx (some (.int res.1)) (Z, res.2, L, O)) : Ok g (d + 7, RX11, cX11_play, 3, false, 0, 0, Z.length, pSl Z) Qx 0 [(0, .ref a0), (1, .int x1), (2, .int x2)] [] (Z, I, L, O) := by
  unfold f11_play at h
  refine ok_aload_n dX11_play_0 0 rfl ?_
  have hT1 : Z[(rO O a0 0)]? = some (9, 10) := (wt_f (ci := 11) (k := 0) hW hZ0 rfl).2
  refine ok_getR (ci := 11) (k := 0) dX11_play_1 flRX11_10 rfl hW hZ0 (by decide) ?_
  have hT2 : Z[(rO O (rO O a0 0) 0)]? = some (10, 5) := (wt_f (ci := 9) (k := 0) hW hT1 rfl).2
  refine ok_getR (ci := 9) (k := 0) dX11_play_4 flRX11_79 rfl hW hT1 (by decide) ?_
  refine ok_iload_n dX11_play_7 1 rfl ?_
  obtain ⟨r3, hr4, h⟩ := bd h
  refine ok_callV (d := ((d + 4) + 2)) (mt := m10_hasRoll) (mc := 0) (ms := 0) (As := [.int x1]) (r := []) dX11_play_8 mo10_hasRoll mv10_hasRoll lkRX11_152 rfl hT2 (q := (RX10, TX10, 5)) rfl rfl rfl (Nat.le_of_ble_eq_true rfl) (by show _ + 1 ≤ d + _; omega) (Nat.le_refl _) (Nat.le_refl _) (pRt_mono ?_)
  refine k10_hasRoll (d + 4) hW hT2 hr4 ?_
  intro hbr3
  show Ok g _ Qx 11 [(0, .ref a0), (1, .int x1), (2, .int x2)] [.int r3] (Z, I, L, O)
  refine ok_if_eq (t := 28) dX11_play_11 (by decide) (fun hc5 => ?_) (fun hc5 => ?_)
  · have h := (if_pos hc5).symm.trans h
    refine ok_iconst (v := (-1)) dX11_play_28 (by decide) ?_
    cases h
    exact ok_iret dX11_play_29 hQ
  · have h := (if_neg hc5).symm.trans h
    refine ok_aload_n dX11_play_14 0 rfl ?_
    refine ok_getR (ci := 11) (k := 0) dX11_play_15 flRX11_10 rfl hW hZ0 (by decide) ?_
    refine ok_getR (ci := 9) (k := 0) dX11_play_18 flRX11_79 rfl hW hT1 (by decide) ?_
    refine ok_iload_n dX11_play_21 2 rfl ?_
    obtain ⟨r6, hr7, h⟩ := bd h
    refine ok_callV (d := ((d + 4) + 2)) (mt := m10_hasChild) (mc := 0) (ms := 0) (As := [.int x2]) (r := []) dX11_play_22 mo10_hasChild mv10_hasChild lkRX11_156 rfl hT2 (q := (RX10, TX10, 5)) rfl rfl rfl (Nat.le_of_ble_eq_true rfl) (by show _ + 1 ≤ d + _; omega) (Nat.le_refl _) (Nat.le_refl _) (pRt_mono ?_)
    refine k10_hasChild (d + 4) hW hT2 hr7 ?_
    intro hbr6
    show Ok g _ Qx 25 [(0, .ref a0), (1, .int x1), (2, .int x2)] [.int r6] (Z, I, L, O)
    refine ok_if_ne (t := 30) dX11_play_25 (by decide) (fun hc8 => ?_) (fun hc8 => ?_)
    · have h := (if_neg hc8).symm.trans h
      refine ok_aload_n dX11_play_30 0 rfl ?_
      refine ok_getR (ci := 11) (k := 0) dX11_play_31 flRX11_10 rfl hW hZ0 (by decide) ?_
      obtain ⟨r9, hr10, h⟩ := bd h
      refine ok_callV (d := ((d + 1) + 5)) (mt := m9_keepStep) (mc := 0) (ms := 0) (As := []) (r := []) dX11_play_34 mo9_keepStep mv9_keepStep lkRX11_159 rfl hT1 (q := (RX9, TX9, 10)) rfl rfl rfl (Nat.le_of_ble_eq_true rfl) (by show _ + 1 ≤ d + _; omega) (Nat.le_refl _) (Nat.le_refl _) (pRt_mono ?_)
      refine k9_keepStep (d + 1) hW hT1 hr10 ?_
      intro _
      show Ok g _ Qx 37 [(0, .ref a0), (1, .int x1), (2, .int x2)] [] (Z, r9, L, O)
      refine ok_aload_n dX11_play_37 0 rfl ?_
      have hT11 : Z[(rO O a0 7)]? = some (4, 1) := (wt_f (ci := 11) (k := 7) hW hZ0 rfl).2
      refine ok_getR (ci := 11) (k := 7) dX11_play_38 flRX11_51 rfl hW hZ0 (by decide) ?_
      refine ok_aload_n dX11_play_41 0 rfl ?_
      refine ok_getR (ci := 11) (k := 0) dX11_play_42 flRX11_10 rfl hW hZ0 (by decide) ?_
      refine ok_getR (ci := 9) (k := 0) dX11_play_45 flRX11_79 rfl hW hT1 (by decide) ?_
      refine ok_aload_n dX11_play_48 0 rfl ?_
      obtain ⟨r12, hr13, h⟩ := bd h
      have hSr12 := t11_ruling hW hZ0 hr13
      refine ok_callV (d := ((d + 3) + 3)) (mt := m11_ruling) (mc := 0) (ms := 0) (As := []) (r := [.ref (rO O (rO O a0 0) 0), .ref (rO O a0 7)]) dX11_play_49 mo11_ruling mv11_ruling lkRX11_162 rfl hZ0 (q := (RX11, TX11, 11)) rfl rfl rfl (Nat.le_of_ble_eq_true rfl) (by show _ + 1 ≤ d + _; omega) (Nat.le_refl _) (Nat.le_refl _) (pRt_mono ?_)
      refine k11_ruling (d + 3) hW hZ0 hr13 ?_
      intro _
      show Ok g _ Qx 52 [(0, .ref a0), (1, .int x1), (2, .int x2)] [va_rf r12, .ref (rO O (rO O a0 0) 0), .ref (rO O a0 7)] (Z, r9, L, O)
      refine ok_iload_n dX11_play_52 1 rfl ?_
      refine ok_iload_n dX11_play_53 2 rfl ?_
      obtain ⟨r14, hr15, h⟩ := bd h
      refine ok_callV (d := ((d + 0) + 6)) (mt := m4_playRoll) (mc := 0) (ms := 0) (As := [.ref (rO O (rO O a0 0) 0), va_rf r12, .int x1, .int x2]) (r := []) dX11_play_54 mo4_playRoll mv4_playRoll lkRX11_165 rfl hT11 (q := (RX4, TX4, 1)) rfl rfl rfl (Nat.le_of_ble_eq_true rfl) (by show _ + 1 ≤ d + _; omega) (Nat.le_refl _) (Nat.le_refl _) (pRt_mono ?_)
      refine k4_playRoll (d + 0) hW hT11 hT2 hSr12 hr15 ?_
      intro _
      show Ok g _ Qx 57 [(0, .ref a0), (1, .int x1), (2, .int x2)] [.int r14.1] (Z, r14.2, L, O)
      cases h
      exact ok_iret dX11_play_57 hQ
    · have h := (if_pos hc8).symm.trans h
      refine ok_iconst (v := (-1)) dX11_play_28 (by decide) ?_
      cases h
      exact ok_iret dX11_play_29 hQ
theorem k11_play {g : pG} {Q : Option Value → pW → Prop} {Z : pZ} {I : (Nat → Nat → Int32)} {L : (Nat → Nat → Int64)} {O : (Nat → Nat → Option Nat)} {n : Nat} {a0 : Nat} {x1 : Int32} {x2 : Int32} {res : Int32 × (Nat → Nat → Int32)} (d : Nat) (hW : WT Z O) (hZ0 : Z[a0]? = some (11, 11)) (h : f11_play n I O a0 x1 x2 = some res) (hQ : Q (some (.int res.1)) (Z, res.2, L, O)) : CT g (d + 7) m11_play 0 0 [.ref a0, .int x1, .int x2] (Z, I, L, O) Q :=
  ct_of_ok (mt := m11_play) (ini := false) mo11_play.2.2.2.2 (fun h => by cases h) (Nat.le_of_ble_eq_true rfl) (o11_play d hW hZ0 h ⟨trivial, hQ, rfl, rfl⟩)
theorem dX11_patch_0 : decode cX11_patch 0 = .ok (.aload_n 0, 1) := by decide +kernel
theorem dX11_patch_1 : decode cX11_patch 1 = .ok (.getfield 10, 3) := by decide +kernel
theorem dX11_patch_4 : decode cX11_patch 4 = .ok (.getfield 79, 3) := by decide +kernel
theorem dX11_patch_7 : decode cX11_patch 7 = .ok (.iload_n 1, 1) := by decide +kernel
theorem dX11_patch_8 : decode cX11_patch 8 = .ok (.iload_n 2, 1) := by decide +kernel
theorem dX11_patch_9 : decode cX11_patch 9 = .ok (.invokevirtual 169, 3) := by decide +kernel
theorem dX11_patch_12 : decode cX11_patch 12 = .ok (.ifCond .gt 5, 3) := by decide +kernel
theorem dX11_patch_15 : decode cX11_patch 15 = .ok (.iconst 0, 1) := by decide +kernel
theorem dX11_patch_16 : decode cX11_patch 16 = .ok (.ireturn, 1) := by decide +kernel
theorem dX11_patch_17 : decode cX11_patch 17 = .ok (.aload_n 0, 1) := by decide +kernel
theorem dX11_patch_18 : decode cX11_patch 18 = .ok (.getfield 10, 3) := by decide +kernel
theorem dX11_patch_21 : decode cX11_patch 21 = .ok (.invokevirtual 159, 3) := by decide +kernel
theorem dX11_patch_24 : decode cX11_patch 24 = .ok (.aload_n 0, 1) := by decide +kernel
theorem dX11_patch_25 : decode cX11_patch 25 = .ok (.getfield 10, 3) := by decide +kernel
theorem dX11_patch_28 : decode cX11_patch 28 = .ok (.getfield 79, 3) := by decide +kernel
theorem dX11_patch_31 : decode cX11_patch 31 = .ok (.iload_n 1, 1) := by decide +kernel
theorem dX11_patch_32 : decode cX11_patch 32 = .ok (.iload_n 2, 1) := by decide +kernel
theorem dX11_patch_33 : decode cX11_patch 33 = .ok (.invokevirtual 173, 3) := by decide +kernel
theorem dX11_patch_36 : decode cX11_patch 36 = .ok (.iconst 1, 1) := by decide +kernel
theorem dX11_patch_37 : decode cX11_patch 37 = .ok (.ireturn, 1) := by decide +kernel
def m11_patch : pMT := (yX11_patch, cX11_patch, 3, some .boolean)
theorem mo11_patch : mOK m11_patch 2 := ⟨tb_i 823 (by decide +kernel), wi_RX11, ⟨wn_RX11.1, wn_RX11.2, by decide +kernel⟩, by decide, plainFor_of_name wp_RX11⟩
theorem mv11_patch : mV m11_patch := ⟨tb_i 821 (by decide +kernel), tb_i 822 (by decide +kernel)⟩
def f11_patch (I : (Nat → Nat → Int32)) (O : (Nat → Nat → Option Nat)) (a0 : Nat) (x1 : Int32) (x2 : Int32) : Option (Int32 × (Nat → Nat → Int32)) := (f10_wearAt I O (rO O (rO O a0 0) 0) x1 x2).bind fun r3 => (if 0 < r3 then (f9_keepStep I O (rO O a0 0)).bind fun r6 => (f10_mend r6 O (rO O (rO O a0 0) 0) x1 x2).bind fun r8 => some ((1 : Int32), r8) else some ((0 : Int32), I))
set_option maxHeartbeats 4000000 in
set_option maxRecDepth 20000 in
theorem o11_patch {g : pG} {Qx : Option Value → pW → Prop} {Z : pZ} {I : (Nat → Nat → Int32)} {L : (Nat → Nat → Int64)} {O : (Nat → Nat → Option Nat)} {a0 : Nat} {x1 : Int32} {x2 : Int32} {res : Int32 × (Nat → Nat → Int32)} (d : Nat) (hW : WT Z O) (hZ0 : Z[a0]? = some (11, 11)) (h : f11_patch I O a0 x1 x2 = some res) (hQ : (res.1 = 0 ∨ res.1 = 1) → Qx (some (.int res.1)) (Z, res.2, L, O)) : Ok g (d + 6, RX11, cX11_patch, 3, false, 0, 0, Z.length, pSl Z) Qx 0 [(0, .ref a0), (1, .int x1), (2, .int x2)] [] (Z, I, L, O) := by
  unfold f11_patch at h
  refine ok_aload_n dX11_patch_0 0 rfl ?_
  have hT1 : Z[(rO O a0 0)]? = some (9, 10) := (wt_f (ci := 11) (k := 0) hW hZ0 rfl).2
  refine ok_getR (ci := 11) (k := 0) dX11_patch_1 flRX11_10 rfl hW hZ0 (by decide) ?_
  have hT2 : Z[(rO O (rO O a0 0) 0)]? = some (10, 5) := (wt_f (ci := 9) (k := 0) hW hT1 rfl).2
  refine ok_getR (ci := 9) (k := 0) dX11_patch_4 flRX11_79 rfl hW hT1 (by decide) ?_
  refine ok_iload_n dX11_patch_7 1 rfl ?_
  refine ok_iload_n dX11_patch_8 2 rfl ?_
  obtain ⟨r3, hr4, h⟩ := bd h
  refine ok_callV (d := ((d + 2) + 3)) (mt := m10_wearAt) (mc := 0) (ms := 0) (As := [.int x1, .int x2]) (r := []) dX11_patch_9 mo10_wearAt mv10_wearAt lkRX11_169 rfl hT2 (q := (RX10, TX10, 5)) rfl rfl rfl (Nat.le_of_ble_eq_true rfl) (by show _ + 1 ≤ d + _; omega) (Nat.le_refl _) (Nat.le_refl _) (pRt_mono ?_)
  refine k10_wearAt (d + 2) hW hT2 hr4 ?_
  intro _
  show Ok g _ Qx 12 [(0, .ref a0), (1, .int x1), (2, .int x2)] [.int r3] (Z, I, L, O)
  refine ok_if_gt (t := 17) dX11_patch_12 (by decide) (fun hc5 => ?_) (fun hc5 => ?_)
  · have h := (if_pos hc5).symm.trans h
    refine ok_aload_n dX11_patch_17 0 rfl ?_
    refine ok_getR (ci := 11) (k := 0) dX11_patch_18 flRX11_10 rfl hW hZ0 (by decide) ?_
    obtain ⟨r6, hr7, h⟩ := bd h
    refine ok_callV (d := ((d + 0) + 5)) (mt := m9_keepStep) (mc := 0) (ms := 0) (As := []) (r := []) dX11_patch_21 mo9_keepStep mv9_keepStep lkRX11_159 rfl hT1 (q := (RX9, TX9, 10)) rfl rfl rfl (Nat.le_of_ble_eq_true rfl) (by show _ + 1 ≤ d + _; omega) (Nat.le_refl _) (Nat.le_refl _) (pRt_mono ?_)
    refine k9_keepStep (d + 0) hW hT1 hr7 ?_
    intro _
    show Ok g _ Qx 24 [(0, .ref a0), (1, .int x1), (2, .int x2)] [] (Z, r6, L, O)
    refine ok_aload_n dX11_patch_24 0 rfl ?_
    refine ok_getR (ci := 11) (k := 0) dX11_patch_25 flRX11_10 rfl hW hZ0 (by decide) ?_
    refine ok_getR (ci := 9) (k := 0) dX11_patch_28 flRX11_79 rfl hW hT1 (by decide) ?_
    refine ok_iload_n dX11_patch_31 1 rfl ?_
    refine ok_iload_n dX11_patch_32 2 rfl ?_
    obtain ⟨r8, hr9, h⟩ := bd h
    refine ok_callV (d := ((d + 2) + 3)) (mt := m10_mend) (mc := 0) (ms := 0) (As := [.int x1, .int x2]) (r := []) dX11_patch_33 mo10_mend mv10_mend lkRX11_173 rfl hT2 (q := (RX10, TX10, 5)) rfl rfl rfl (Nat.le_of_ble_eq_true rfl) (by show _ + 1 ≤ d + _; omega) (Nat.le_refl _) (Nat.le_refl _) (pRt_mono ?_)
    refine k10_mend (d + 2) hW hT2 hr9 ?_
    intro _
    show Ok g _ Qx 36 [(0, .ref a0), (1, .int x1), (2, .int x2)] [] (Z, r8, L, O)
    refine ok_iconst (v := 1) dX11_patch_36 (by decide) ?_
    cases h
    exact ok_iret dX11_patch_37 (hQ (Or.inr rfl))
  · have h := (if_neg hc5).symm.trans h
    refine ok_iconst (v := 0) dX11_patch_15 (by decide) ?_
    cases h
    exact ok_iret dX11_patch_16 (hQ (Or.inl rfl))
theorem k11_patch {g : pG} {Q : Option Value → pW → Prop} {Z : pZ} {I : (Nat → Nat → Int32)} {L : (Nat → Nat → Int64)} {O : (Nat → Nat → Option Nat)} {a0 : Nat} {x1 : Int32} {x2 : Int32} {res : Int32 × (Nat → Nat → Int32)} (d : Nat) (hW : WT Z O) (hZ0 : Z[a0]? = some (11, 11)) (h : f11_patch I O a0 x1 x2 = some res) (hQ : Q (some (.int res.1)) (Z, res.2, L, O)) : CT g (d + 6) m11_patch 0 0 [.ref a0, .int x1, .int x2] (Z, I, L, O) Q :=
  ct_of_ok (mt := m11_patch) (ini := false) mo11_patch.2.2.2.2 (fun h => by cases h) (Nat.le_of_ble_eq_true rfl) (o11_patch d hW hZ0 h (fun hb => ⟨hb, hQ, rfl, rfl⟩))
theorem dX11_forget_0 : decode cX11_forget 0 = .ok (.aload_n 0, 1) := by decide +kernel
theorem dX11_forget_1 : decode cX11_forget 1 = .ok (.getfield 10, 3) := by decide +kernel
theorem dX11_forget_4 : decode cX11_forget 4 = .ok (.getfield 79, 3) := by decide +kernel
theorem dX11_forget_7 : decode cX11_forget 7 = .ok (.iload_n 1, 1) := by decide +kernel
theorem dX11_forget_8 : decode cX11_forget 8 = .ok (.iload_n 2, 1) := by decide +kernel
theorem dX11_forget_9 : decode cX11_forget 9 = .ok (.invokevirtual 176, 3) := by decide +kernel
theorem dX11_forget_12 : decode cX11_forget 12 = .ok (.ifCond .gt 5, 3) := by decide +kernel
theorem dX11_forget_15 : decode cX11_forget 15 = .ok (.iconst 0, 1) := by decide +kernel
theorem dX11_forget_16 : decode cX11_forget 16 = .ok (.ireturn, 1) := by decide +kernel
theorem dX11_forget_17 : decode cX11_forget 17 = .ok (.aload_n 0, 1) := by decide +kernel
theorem dX11_forget_18 : decode cX11_forget 18 = .ok (.getfield 10, 3) := by decide +kernel
theorem dX11_forget_21 : decode cX11_forget 21 = .ok (.invokevirtual 159, 3) := by decide +kernel
theorem dX11_forget_24 : decode cX11_forget 24 = .ok (.aload_n 0, 1) := by decide +kernel
theorem dX11_forget_25 : decode cX11_forget 25 = .ok (.getfield 10, 3) := by decide +kernel
theorem dX11_forget_28 : decode cX11_forget 28 = .ok (.getfield 79, 3) := by decide +kernel
theorem dX11_forget_31 : decode cX11_forget 31 = .ok (.iload_n 1, 1) := by decide +kernel
theorem dX11_forget_32 : decode cX11_forget 32 = .ok (.iload_n 2, 1) := by decide +kernel
theorem dX11_forget_33 : decode cX11_forget 33 = .ok (.invokevirtual 179, 3) := by decide +kernel
theorem dX11_forget_36 : decode cX11_forget 36 = .ok (.iconst 1, 1) := by decide +kernel
theorem dX11_forget_37 : decode cX11_forget 37 = .ok (.ireturn, 1) := by decide +kernel
def m11_forget : pMT := (yX11_forget, cX11_forget, 3, some .boolean)
theorem mo11_forget : mOK m11_forget 2 := ⟨tb_i 832 (by decide +kernel), wi_RX11, ⟨wn_RX11.1, wn_RX11.2, by decide +kernel⟩, by decide, plainFor_of_name wp_RX11⟩
theorem mv11_forget : mV m11_forget := ⟨tb_i 830 (by decide +kernel), tb_i 831 (by decide +kernel)⟩
def f11_forget (I : (Nat → Nat → Int32)) (O : (Nat → Nat → Option Nat)) (a0 : Nat) (x1 : Int32) (x2 : Int32) : Option (Int32 × (Nat → Nat → Int32)) := (f10_heardBy I O (rO O (rO O a0 0) 0) x1 x2).bind fun r3 => (if 0 < r3 then (f9_keepStep I O (rO O a0 0)).bind fun r6 => (f10_unhear r6 O (rO O (rO O a0 0) 0) x1 x2).bind fun r8 => some ((1 : Int32), r8) else some ((0 : Int32), I))
set_option maxHeartbeats 4000000 in
set_option maxRecDepth 20000 in
theorem o11_forget {g : pG} {Qx : Option Value → pW → Prop} {Z : pZ} {I : (Nat → Nat → Int32)} {L : (Nat → Nat → Int64)} {O : (Nat → Nat → Option Nat)} {a0 : Nat} {x1 : Int32} {x2 : Int32} {res : Int32 × (Nat → Nat → Int32)} (d : Nat) (hW : WT Z O) (hZ0 : Z[a0]? = some (11, 11)) (h : f11_forget I O a0 x1 x2 = some res) (hQ : (res.1 = 0 ∨ res.1 = 1) → Qx (some (.int res.1)) (Z, res.2, L, O)) : Ok g (d + 6, RX11, cX11_forget, 3, false, 0, 0, Z.length, pSl Z) Qx 0 [(0, .ref a0), (1, .int x1), (2, .int x2)] [] (Z, I, L, O) := by
  unfold f11_forget at h
  refine ok_aload_n dX11_forget_0 0 rfl ?_
  have hT1 : Z[(rO O a0 0)]? = some (9, 10) := (wt_f (ci := 11) (k := 0) hW hZ0 rfl).2
  refine ok_getR (ci := 11) (k := 0) dX11_forget_1 flRX11_10 rfl hW hZ0 (by decide) ?_
  have hT2 : Z[(rO O (rO O a0 0) 0)]? = some (10, 5) := (wt_f (ci := 9) (k := 0) hW hT1 rfl).2
  refine ok_getR (ci := 9) (k := 0) dX11_forget_4 flRX11_79 rfl hW hT1 (by decide) ?_
  refine ok_iload_n dX11_forget_7 1 rfl ?_
  refine ok_iload_n dX11_forget_8 2 rfl ?_
  obtain ⟨r3, hr4, h⟩ := bd h
  refine ok_callV (d := ((d + 2) + 3)) (mt := m10_heardBy) (mc := 0) (ms := 0) (As := [.int x1, .int x2]) (r := []) dX11_forget_9 mo10_heardBy mv10_heardBy lkRX11_176 rfl hT2 (q := (RX10, TX10, 5)) rfl rfl rfl (Nat.le_of_ble_eq_true rfl) (by show _ + 1 ≤ d + _; omega) (Nat.le_refl _) (Nat.le_refl _) (pRt_mono ?_)
  refine k10_heardBy (d + 2) hW hT2 hr4 ?_
  intro _
  show Ok g _ Qx 12 [(0, .ref a0), (1, .int x1), (2, .int x2)] [.int r3] (Z, I, L, O)
  refine ok_if_gt (t := 17) dX11_forget_12 (by decide) (fun hc5 => ?_) (fun hc5 => ?_)
  · have h := (if_pos hc5).symm.trans h
    refine ok_aload_n dX11_forget_17 0 rfl ?_
    refine ok_getR (ci := 11) (k := 0) dX11_forget_18 flRX11_10 rfl hW hZ0 (by decide) ?_
    obtain ⟨r6, hr7, h⟩ := bd h
    refine ok_callV (d := ((d + 0) + 5)) (mt := m9_keepStep) (mc := 0) (ms := 0) (As := []) (r := []) dX11_forget_21 mo9_keepStep mv9_keepStep lkRX11_159 rfl hT1 (q := (RX9, TX9, 10)) rfl rfl rfl (Nat.le_of_ble_eq_true rfl) (by show _ + 1 ≤ d + _; omega) (Nat.le_refl _) (Nat.le_refl _) (pRt_mono ?_)
    refine k9_keepStep (d + 0) hW hT1 hr7 ?_
    intro _
    show Ok g _ Qx 24 [(0, .ref a0), (1, .int x1), (2, .int x2)] [] (Z, r6, L, O)
    refine ok_aload_n dX11_forget_24 0 rfl ?_
    refine ok_getR (ci := 11) (k := 0) dX11_forget_25 flRX11_10 rfl hW hZ0 (by decide) ?_
    refine ok_getR (ci := 9) (k := 0) dX11_forget_28 flRX11_79 rfl hW hT1 (by decide) ?_
    refine ok_iload_n dX11_forget_31 1 rfl ?_
    refine ok_iload_n dX11_forget_32 2 rfl ?_
    obtain ⟨r8, hr9, h⟩ := bd h
    refine ok_callV (d := ((d + 2) + 3)) (mt := m10_unhear) (mc := 0) (ms := 0) (As := [.int x1, .int x2]) (r := []) dX11_forget_33 mo10_unhear mv10_unhear lkRX11_179 rfl hT2 (q := (RX10, TX10, 5)) rfl rfl rfl (Nat.le_of_ble_eq_true rfl) (by show _ + 1 ≤ d + _; omega) (Nat.le_refl _) (Nat.le_refl _) (pRt_mono ?_)
    refine k10_unhear (d + 2) hW hT2 hr9 ?_
    intro _
    show Ok g _ Qx 36 [(0, .ref a0), (1, .int x1), (2, .int x2)] [] (Z, r8, L, O)
    refine ok_iconst (v := 1) dX11_forget_36 (by decide) ?_
    cases h
    exact ok_iret dX11_forget_37 (hQ (Or.inr rfl))
  · have h := (if_neg hc5).symm.trans h
    refine ok_iconst (v := 0) dX11_forget_15 (by decide) ?_
    cases h
    exact ok_iret dX11_forget_16 (hQ (Or.inl rfl))
theorem k11_forget {g : pG} {Q : Option Value → pW → Prop} {Z : pZ} {I : (Nat → Nat → Int32)} {L : (Nat → Nat → Int64)} {O : (Nat → Nat → Option Nat)} {a0 : Nat} {x1 : Int32} {x2 : Int32} {res : Int32 × (Nat → Nat → Int32)} (d : Nat) (hW : WT Z O) (hZ0 : Z[a0]? = some (11, 11)) (h : f11_forget I O a0 x1 x2 = some res) (hQ : Q (some (.int res.1)) (Z, res.2, L, O)) : CT g (d + 6) m11_forget 0 0 [.ref a0, .int x1, .int x2] (Z, I, L, O) Q :=
  ct_of_ok (mt := m11_forget) (ini := false) mo11_forget.2.2.2.2 (fun h => by cases h) (Nat.le_of_ble_eq_true rfl) (o11_forget d hW hZ0 h (fun hb => ⟨hb, hQ, rfl, rfl⟩))
theorem dX11_sunday_0 : decode cX11_sunday 0 = .ok (.iload_n 1, 1) := by decide +kernel
theorem dX11_sunday_1 : decode cX11_sunday 1 = .ok (.iconst 1, 1) := by decide +kernel
theorem dX11_sunday_2 : decode cX11_sunday 2 = .ok (.if_icmp .lt 30, 3) := by decide +kernel
theorem dX11_sunday_5 : decode cX11_sunday 5 = .ok (.iload_n 1, 1) := by decide +kernel
theorem dX11_sunday_6 : decode cX11_sunday 6 = .ok (.bipush 60, 2) := by decide +kernel
theorem dX11_sunday_8 : decode cX11_sunday 8 = .ok (.if_icmp .gt 24, 3) := by decide +kernel
theorem dX11_sunday_11 : decode cX11_sunday 11 = .ok (.aload_n 0, 1) := by decide +kernel
theorem dX11_sunday_12 : decode cX11_sunday 12 = .ok (.getfield 10, 3) := by decide +kernel
theorem dX11_sunday_15 : decode cX11_sunday 15 = .ok (.getfield 79, 3) := by decide +kernel
theorem dX11_sunday_18 : decode cX11_sunday 18 = .ok (.getfield 94, 3) := by decide +kernel
theorem dX11_sunday_21 : decode cX11_sunday 21 = .ok (.getfield 182, 3) := by decide +kernel
theorem dX11_sunday_24 : decode cX11_sunday 24 = .ok (.iload_n 1, 1) := by decide +kernel
theorem dX11_sunday_25 : decode cX11_sunday 25 = .ok (.iadd, 1) := by decide +kernel
theorem dX11_sunday_26 : decode cX11_sunday 26 = .ok (.sipush 9999, 3) := by decide +kernel
theorem dX11_sunday_29 : decode cX11_sunday 29 = .ok (.if_icmp .le 5, 3) := by decide +kernel
theorem dX11_sunday_32 : decode cX11_sunday 32 = .ok (.iconst (-1), 1) := by decide +kernel
theorem dX11_sunday_33 : decode cX11_sunday 33 = .ok (.ireturn, 1) := by decide +kernel
theorem dX11_sunday_34 : decode cX11_sunday 34 = .ok (.iconst 0, 1) := by decide +kernel
theorem dX11_sunday_35 : decode cX11_sunday 35 = .ok (.istore_n 2, 1) := by decide +kernel
theorem dX11_sunday_36 : decode cX11_sunday 36 = .ok (.iconst 0, 1) := by decide +kernel
theorem dX11_sunday_37 : decode cX11_sunday 37 = .ok (.istore_n 3, 1) := by decide +kernel
theorem dX11_sunday_38 : decode cX11_sunday 38 = .ok (.iload_n 3, 1) := by decide +kernel
theorem dX11_sunday_39 : decode cX11_sunday 39 = .ok (.iload_n 1, 1) := by decide +kernel
theorem dX11_sunday_40 : decode cX11_sunday 40 = .ok (.if_icmp .ge 37, 3) := by decide +kernel
theorem dX11_sunday_43 : decode cX11_sunday 43 = .ok (.aload_n 0, 1) := by decide +kernel
theorem dX11_sunday_44 : decode cX11_sunday 44 = .ok (.getfield 10, 3) := by decide +kernel
theorem dX11_sunday_47 : decode cX11_sunday 47 = .ok (.invokevirtual 159, 3) := by decide +kernel
theorem dX11_sunday_50 : decode cX11_sunday 50 = .ok (.iload_n 2, 1) := by decide +kernel
theorem dX11_sunday_51 : decode cX11_sunday 51 = .ok (.aload_n 0, 1) := by decide +kernel
theorem dX11_sunday_52 : decode cX11_sunday 52 = .ok (.getfield 51, 3) := by decide +kernel
theorem dX11_sunday_55 : decode cX11_sunday 55 = .ok (.aload_n 0, 1) := by decide +kernel
theorem dX11_sunday_56 : decode cX11_sunday 56 = .ok (.getfield 10, 3) := by decide +kernel
theorem dX11_sunday_59 : decode cX11_sunday 59 = .ok (.getfield 79, 3) := by decide +kernel
theorem dX11_sunday_62 : decode cX11_sunday 62 = .ok (.aload_n 0, 1) := by decide +kernel
theorem dX11_sunday_63 : decode cX11_sunday 63 = .ok (.invokevirtual 162, 3) := by decide +kernel
theorem dX11_sunday_66 : decode cX11_sunday 66 = .ok (.invokevirtual 185, 3) := by decide +kernel
theorem dX11_sunday_69 : decode cX11_sunday 69 = .ok (.iadd, 1) := by decide +kernel
theorem dX11_sunday_70 : decode cX11_sunday 70 = .ok (.istore_n 2, 1) := by decide +kernel
theorem dX11_sunday_71 : decode cX11_sunday 71 = .ok (.iinc 3 1, 3) := by decide +kernel
theorem dX11_sunday_74 : decode cX11_sunday 74 = .ok (.goto (-36), 3) := by decide +kernel
theorem dX11_sunday_77 : decode cX11_sunday 77 = .ok (.iload_n 2, 1) := by decide +kernel
theorem dX11_sunday_78 : decode cX11_sunday 78 = .ok (.ireturn, 1) := by decide +kernel
def m11_sunday : pMT := (yX11_sunday, cX11_sunday, 4, some .int)
theorem mo11_sunday : mOK m11_sunday 1 := ⟨tb_i 844 (by decide +kernel), wi_RX11, ⟨wn_RX11.1, wn_RX11.2, by decide +kernel⟩, by decide, plainFor_of_name wp_RX11⟩
theorem mv11_sunday : mV m11_sunday := ⟨tb_i 842 (by decide +kernel), tb_i 843 (by decide +kernel)⟩
def f11_sunday_c38 (n : Nat) (O : (Nat → Nat → Option Nat)) : Nat → (Nat → Nat → Int32) → Nat → Int32 → Int32 → Int32 → Option (Int32 × (Nat → Nat → Int32))
  | 0, _, _, _, _, _ => none
  | m + 1, I, b0, y1, y2, y3 => (if y1 ≤ y3 then some (y2, I) else (f9_keepStep I O (rO O b0 0)).bind fun r3 => (f11_ruling r3 O b0).bind fun r7 => (f4_passSunday n r3 O (rO O b0 7) (rO O (rO O b0 0) 0) r7).bind fun r9 => f11_sunday_c38 n O m r9.2 b0 y1 (y2 + r9.1) (y3 + 1))
set_option maxHeartbeats 4000000 in
set_option maxRecDepth 20000 in
theorem o11_sunday_c38 {g : pG} {Qx : Option Value → pW → Prop} {Z : pZ} {L : (Nat → Nat → Int64)} {O : (Nat → Nat → Option Nat)} {n : Nat} {res : Int32 × (Nat → Nat → Int32)} (d : Nat) (hW : WT Z O) (hQ : Qx (some (.int res.1)) (Z, res.2, L, O)) : ∀ (m : Nat) (I : (Nat → Nat → Int32)) (b0 : Nat) (y1 : Int32) (y2 : Int32) (y3 : Int32), (Z[b0]? = some (11, 11)) → f11_sunday_c38 n O m I b0 y1 y2 y3 = some res → Ok g (d + 8, RX11, cX11_sunday, 4, false, 0, 0, Z.length, pSl Z) Qx 38 [(0, .ref b0), (1, .int y1), (2, .int y2), (3, .int y3)] [] (Z, I, L, O) := by
  intro m
  induction m with
  | zero => intro I b0 y1 y2 y3 hZ_b0 h; rw [f11_sunday_c38] at h; cases h
  | succ m ih =>
    intro I b0 y1 y2 y3 hZ_b0 h
    rw [f11_sunday_c38] at h
    refine ok_iload_n dX11_sunday_38 3 rfl ?_
    refine ok_iload_n dX11_sunday_39 1 rfl ?_
    refine ok_icmp_ge (t := 77) dX11_sunday_40 (by decide) (fun hc1 => ?_) (fun hc1 => ?_)
    · have h := (if_pos hc1).symm.trans h
      refine ok_iload_n dX11_sunday_77 2 rfl ?_
      cases h
      exact ok_iret dX11_sunday_78 hQ
    · have h := (if_neg hc1).symm.trans h
      refine ok_aload_n dX11_sunday_43 0 rfl ?_
      have hT2 : Z[(rO O b0 0)]? = some (9, 10) := (wt_f (ci := 11) (k := 0) hW hZ_b0 rfl).2
      refine ok_getR (ci := 11) (k := 0) dX11_sunday_44 flRX11_10 rfl hW hZ_b0 (by decide) ?_
      obtain ⟨r3, hr4, h⟩ := bd h
      refine ok_callV (d := ((d + 2) + 5)) (mt := m9_keepStep) (mc := 0) (ms := 0) (As := []) (r := []) dX11_sunday_47 mo9_keepStep mv9_keepStep lkRX11_159 rfl hT2 (q := (RX9, TX9, 10)) rfl rfl rfl (Nat.le_of_ble_eq_true rfl) (by show _ + 1 ≤ d + _; omega) (Nat.le_refl _) (Nat.le_refl _) (pRt_mono ?_)
      refine k9_keepStep (d + 2) hW hT2 hr4 ?_
      intro _
      show Ok g _ Qx 50 [(0, .ref b0), (1, .int y1), (2, .int y2), (3, .int y3)] [] (Z, r3, L, O)
      refine ok_iload_n dX11_sunday_50 2 rfl ?_
      refine ok_aload_n dX11_sunday_51 0 rfl ?_
      have hT5 : Z[(rO O b0 7)]? = some (4, 1) := (wt_f (ci := 11) (k := 7) hW hZ_b0 rfl).2
      refine ok_getR (ci := 11) (k := 7) dX11_sunday_52 flRX11_51 rfl hW hZ_b0 (by decide) ?_
      refine ok_aload_n dX11_sunday_55 0 rfl ?_
      refine ok_getR (ci := 11) (k := 0) dX11_sunday_56 flRX11_10 rfl hW hZ_b0 (by decide) ?_
      have hT6 : Z[(rO O (rO O b0 0) 0)]? = some (10, 5) := (wt_f (ci := 9) (k := 0) hW hT2 rfl).2
      refine ok_getR (ci := 9) (k := 0) dX11_sunday_59 flRX11_79 rfl hW hT2 (by decide) ?_
      refine ok_aload_n dX11_sunday_62 0 rfl ?_
      obtain ⟨r7, hr8, h⟩ := bd h
      have hSr7 := t11_ruling hW hZ_b0 hr8
      refine ok_callV (d := ((d + 4) + 3)) (mt := m11_ruling) (mc := 0) (ms := 0) (As := []) (r := [.ref (rO O (rO O b0 0) 0), .ref (rO O b0 7), .int y2]) dX11_sunday_63 mo11_ruling mv11_ruling lkRX11_162 rfl hZ_b0 (q := (RX11, TX11, 11)) rfl rfl rfl (Nat.le_of_ble_eq_true rfl) (by show _ + 1 ≤ d + _; omega) (Nat.le_refl _) (Nat.le_refl _) (pRt_mono ?_)
      refine k11_ruling (d + 4) hW hZ_b0 hr8 ?_
      intro _
      show Ok g _ Qx 66 [(0, .ref b0), (1, .int y1), (2, .int y2), (3, .int y3)] [va_rf r7, .ref (rO O (rO O b0 0) 0), .ref (rO O b0 7), .int y2] (Z, r3, L, O)
      obtain ⟨r9, hr10, h⟩ := bd h
      refine ok_callV (d := ((d + 0) + 7)) (mt := m4_passSunday) (mc := 0) (ms := 0) (As := [.ref (rO O (rO O b0 0) 0), va_rf r7]) (r := [.int y2]) dX11_sunday_66 mo4_passSunday mv4_passSunday lkRX11_185 rfl hT5 (q := (RX4, TX4, 1)) rfl rfl rfl (Nat.le_of_ble_eq_true rfl) (by show _ + 1 ≤ d + _; omega) (Nat.le_refl _) (Nat.le_refl _) (pRt_mono ?_)
      refine k4_passSunday (d + 0) hW hT5 hT6 hSr7 hr10 ?_
      intro _
      show Ok g _ Qx 69 [(0, .ref b0), (1, .int y1), (2, .int y2), (3, .int y3)] [.int r9.1, .int y2] (Z, r9.2, L, O)
      refine ok_iadd dX11_sunday_69 ?_
      refine ok_istore_n (l' := [(2, .int (y2 + r9.1)), (0, .ref b0), (1, .int y1), (3, .int y3)]) dX11_sunday_70 rfl (Nat.le_of_ble_eq_true rfl) rfl ?_
      refine ok_iinc (u := (y3 + 1)) (l' := [(3, .int (y3 + 1)), (2, .int (y2 + r9.1)), (0, .ref b0), (1, .int y1)]) dX11_sunday_71 3 rfl rfl (Nat.le_of_ble_eq_true rfl) rfl ?_
      refine ok_goto (t := 38) dX11_sunday_74 (by decide) ?_
      refine ok_sub [2, 3, 1, 0] rfl ?_
      exact ih r9.2 b0 y1 (y2 + r9.1) (y3 + 1) hZ_b0 h
def f11_sunday (n : Nat) (I : (Nat → Nat → Int32)) (O : (Nat → Nat → Option Nat)) (a0 : Nat) (x1 : Int32) : Option (Int32 × (Nat → Nat → Int32)) := (if x1 < (1 : Int32) then some (((-1) : Int32), I) else (if (60 : Int32) < x1 then some (((-1) : Int32), I) else (if ((I (rO O (rO O (rO O a0 0) 0) 2) 4) + x1) ≤ (9999 : Int32) then f11_sunday_c38 n O n I a0 x1 (0 : Int32) (0 : Int32) else some (((-1) : Int32), I))))
set_option maxHeartbeats 4000000 in
set_option maxRecDepth 20000 in
theorem o11_sunday {g : pG} {Qx : Option Value → pW → Prop} {Z : pZ} {I : (Nat → Nat → Int32)} {L : (Nat → Nat → Int64)} {O : (Nat → Nat → Option Nat)} {n : Nat} {a0 : Nat} {x1 : Int32} {res : Int32 × (Nat → Nat → Int32)} (d : Nat) (hW : WT Z O) (hZ0 : Z[a0]? = some (11, 11)) (h : f11_sunday n I O a0 x1 = some res) (hQ : Qx (some (.int res.1)) (Z, res.2, L, O)) : Ok g (d + 8, RX11, cX11_sunday, 4, false, 0, 0, Z.length, pSl Z) Qx 0 [(0, .ref a0), (1, .int x1)] [] (Z, I, L, O) := by
  unfold f11_sunday at h
  refine ok_iload_n dX11_sunday_0 1 rfl ?_
  refine ok_iconst (v := 1) dX11_sunday_1 (by decide) ?_
  refine ok_icmp_lt (t := 32) dX11_sunday_2 (by decide) (fun hc1 => ?_) (fun hc1 => ?_)
  · have h := (if_pos hc1).symm.trans h
    refine ok_iconst (v := (-1)) dX11_sunday_32 (by decide) ?_
    cases h
    exact ok_iret dX11_sunday_33 hQ
  · have h := (if_neg hc1).symm.trans h
    refine ok_iload_n dX11_sunday_5 1 rfl ?_
    refine ok_bipush (v := 60) dX11_sunday_6 (by decide) ?_
    refine ok_icmp_gt (t := 32) dX11_sunday_8 (by decide) (fun hc2 => ?_) (fun hc2 => ?_)
    · have h := (if_pos hc2).symm.trans h
      refine ok_iconst (v := (-1)) dX11_sunday_32 (by decide) ?_
      cases h
      exact ok_iret dX11_sunday_33 hQ
    · have h := (if_neg hc2).symm.trans h
      refine ok_aload_n dX11_sunday_11 0 rfl ?_
      have hT3 : Z[(rO O a0 0)]? = some (9, 10) := (wt_f (ci := 11) (k := 0) hW hZ0 rfl).2
      refine ok_getR (ci := 11) (k := 0) dX11_sunday_12 flRX11_10 rfl hW hZ0 (by decide) ?_
      have hT4 : Z[(rO O (rO O a0 0) 0)]? = some (10, 5) := (wt_f (ci := 9) (k := 0) hW hT3 rfl).2
      refine ok_getR (ci := 9) (k := 0) dX11_sunday_15 flRX11_79 rfl hW hT3 (by decide) ?_
      have hT5 : Z[(rO O (rO O (rO O a0 0) 0) 2)]? = some (3, 6) := (wt_f (ci := 10) (k := 2) hW hT4 rfl).2
      refine ok_getR (ci := 10) (k := 2) dX11_sunday_18 flRX11_94 rfl hW hT4 (by decide) ?_
      refine ok_getI (ci := 3) (k := 4) dX11_sunday_21 flRX11_182 rfl hT5 (by decide) ?_
      refine ok_iload_n dX11_sunday_24 1 rfl ?_
      refine ok_iadd dX11_sunday_25 ?_
      refine ok_sipush (v := 9999) dX11_sunday_26 (by decide) ?_
      refine ok_icmp_le (t := 34) dX11_sunday_29 (by decide) (fun hc6 => ?_) (fun hc6 => ?_)
      · have h := (if_pos hc6).symm.trans h
        refine ok_iconst (v := 0) dX11_sunday_34 (by decide) ?_
        refine ok_istore_n (l' := [(2, .int 0), (0, .ref a0), (1, .int x1)]) dX11_sunday_35 rfl (Nat.le_of_ble_eq_true rfl) rfl ?_
        refine ok_iconst (v := 0) dX11_sunday_36 (by decide) ?_
        refine ok_istore_n (l' := [(3, .int 0), (2, .int 0), (0, .ref a0), (1, .int x1)]) dX11_sunday_37 rfl (Nat.le_of_ble_eq_true rfl) rfl ?_
        refine ok_sub [2, 3, 1, 0] rfl ?_
        exact o11_sunday_c38 d hW hQ  n I a0 x1 (0 : Int32) (0 : Int32) hZ0 h
      · have h := (if_neg hc6).symm.trans h
        refine ok_iconst (v := (-1)) dX11_sunday_32 (by decide) ?_
        cases h
        exact ok_iret dX11_sunday_33 hQ
theorem k11_sunday {g : pG} {Q : Option Value → pW → Prop} {Z : pZ} {I : (Nat → Nat → Int32)} {L : (Nat → Nat → Int64)} {O : (Nat → Nat → Option Nat)} {n : Nat} {a0 : Nat} {x1 : Int32} {res : Int32 × (Nat → Nat → Int32)} (d : Nat) (hW : WT Z O) (hZ0 : Z[a0]? = some (11, 11)) (h : f11_sunday n I O a0 x1 = some res) (hQ : Q (some (.int res.1)) (Z, res.2, L, O)) : CT g (d + 8) m11_sunday 0 0 [.ref a0, .int x1] (Z, I, L, O) Q :=
  ct_of_ok (mt := m11_sunday) (ini := false) mo11_sunday.2.2.2.2 (fun h => by cases h) (Nat.le_of_ble_eq_true rfl) (o11_sunday d hW hZ0 h ⟨trivial, hQ, rfl, rfl⟩)
theorem dX11_cutRoll_0 : decode cX11_cutRoll 0 = .ok (.aload_n 0, 1) := by decide +kernel
theorem dX11_cutRoll_1 : decode cX11_cutRoll 1 = .ok (.iload_n 3, 1) := by decide +kernel
theorem dX11_cutRoll_2 : decode cX11_cutRoll 2 = .ok (.invokevirtual 404, 3) := by decide +kernel
theorem dX11_cutRoll_5 : decode cX11_cutRoll 5 = .ok (.istore 4, 2) := by decide +kernel
theorem dX11_cutRoll_7 : decode cX11_cutRoll 7 = .ok (.iload 4, 2) := by decide +kernel
theorem dX11_cutRoll_9 : decode cX11_cutRoll 9 = .ok (.iconst (-1), 1) := by decide +kernel
theorem dX11_cutRoll_10 : decode cX11_cutRoll 10 = .ok (.if_icmp .ne 5, 3) := by decide +kernel
theorem dX11_cutRoll_13 : decode cX11_cutRoll 13 = .ok (.iconst 0, 1) := by decide +kernel
theorem dX11_cutRoll_14 : decode cX11_cutRoll 14 = .ok (.ireturn, 1) := by decide +kernel
theorem dX11_cutRoll_15 : decode cX11_cutRoll 15 = .ok (.iconst 0, 1) := by decide +kernel
theorem dX11_cutRoll_16 : decode cX11_cutRoll 16 = .ok (.istore 5, 2) := by decide +kernel
theorem dX11_cutRoll_18 : decode cX11_cutRoll 18 = .ok (.iload 5, 2) := by decide +kernel
theorem dX11_cutRoll_20 : decode cX11_cutRoll 20 = .ok (.iload_n 3, 1) := by decide +kernel
theorem dX11_cutRoll_21 : decode cX11_cutRoll 21 = .ok (.if_icmp .ge 26, 3) := by decide +kernel
theorem dX11_cutRoll_24 : decode cX11_cutRoll 24 = .ok (.aload_n 0, 1) := by decide +kernel
theorem dX11_cutRoll_25 : decode cX11_cutRoll 25 = .ok (.iload 4, 2) := by decide +kernel
theorem dX11_cutRoll_27 : decode cX11_cutRoll 27 = .ok (.iload 5, 2) := by decide +kernel
theorem dX11_cutRoll_29 : decode cX11_cutRoll 29 = .ok (.aload_n 1, 1) := by decide +kernel
theorem dX11_cutRoll_30 : decode cX11_cutRoll 30 = .ok (.iload_n 2, 1) := by decide +kernel
theorem dX11_cutRoll_31 : decode cX11_cutRoll 31 = .ok (.iload 5, 2) := by decide +kernel
theorem dX11_cutRoll_33 : decode cX11_cutRoll 33 = .ok (.iadd, 1) := by decide +kernel
theorem dX11_cutRoll_34 : decode cX11_cutRoll 34 = .ok (.invokevirtual 407, 3) := by decide +kernel
theorem dX11_cutRoll_37 : decode cX11_cutRoll 37 = .ok (.invokevirtual 410, 3) := by decide +kernel
theorem dX11_cutRoll_40 : decode cX11_cutRoll 40 = .ok (.pop, 1) := by decide +kernel
theorem dX11_cutRoll_41 : decode cX11_cutRoll 41 = .ok (.iinc 5 1, 3) := by decide +kernel
theorem dX11_cutRoll_44 : decode cX11_cutRoll 44 = .ok (.goto (-26), 3) := by decide +kernel
theorem dX11_cutRoll_47 : decode cX11_cutRoll 47 = .ok (.iconst 1, 1) := by decide +kernel
theorem dX11_cutRoll_48 : decode cX11_cutRoll 48 = .ok (.ireturn, 1) := by decide +kernel
def m11_cutRoll : pMT := (yX11_cutRoll, cX11_cutRoll, 6, some .boolean)
theorem mo11_cutRoll : mOK m11_cutRoll 3 := ⟨tb_i 871 (by decide +kernel), wi_RX11, ⟨wn_RX11.1, wn_RX11.2, by decide +kernel⟩, by decide, plainFor_of_name wp_RX11⟩
theorem mv11_cutRoll : mV m11_cutRoll := ⟨tb_i 870 (by decide +kernel), tb_p 37 (by decide +kernel)⟩
def f11_cutRoll_c18 (n : Nat) (O : (Nat → Nat → Option Nat)) : Nat → (Nat → Nat → Int32) → Nat → Nat → Int32 → Int32 → Int32 → Int32 → Option (Int32 × (Nat → Nat → Int32))
  | 0, _, _, _, _, _, _, _ => none
  | m + 1, I, b0, b1, y2, y3, y4, y5 => (if y3 ≤ y5 then some ((1 : Int32), I) else (f7_stepAt I O b1 (y2 + y5)).bind fun r2 => (f11_hole I O b0 y4 y5 r2).bind fun r4 => f11_cutRoll_c18 n O m r4.2 b0 b1 y2 y3 y4 (y5 + 1))
set_option maxHeartbeats 4000000 in
set_option maxRecDepth 20000 in
theorem o11_cutRoll_c18 {g : pG} {Qx : Option Value → pW → Prop} {Z : pZ} {L : (Nat → Nat → Int64)} {O : (Nat → Nat → Option Nat)} {n : Nat} {res : Int32 × (Nat → Nat → Int32)} (d : Nat) (hW : WT Z O) (hQ : (res.1 = 0 ∨ res.1 = 1) → Qx (some (.int res.1)) (Z, res.2, L, O)) : ∀ (m : Nat) (I : (Nat → Nat → Int32)) (b0 : Nat) (b1 : Nat) (y2 : Int32) (y3 : Int32) (y4 : Int32) (y5 : Int32), (Z[b0]? = some (11, 11)) → (Z[b1]? = some (7, 7)) → f11_cutRoll_c18 n O m I b0 b1 y2 y3 y4 y5 = some res → Ok g (d + 4, RX11, cX11_cutRoll, 6, false, 0, 0, Z.length, pSl Z) Qx 18 [(0, .ref b0), (1, .ref b1), (2, .int y2), (3, .int y3), (4, .int y4), (5, .int y5)] [] (Z, I, L, O) := by
  intro m
  induction m with
  | zero => intro I b0 b1 y2 y3 y4 y5 hZ_b0 hZ_b1 h; rw [f11_cutRoll_c18] at h; cases h
  | succ m ih =>
    intro I b0 b1 y2 y3 y4 y5 hZ_b0 hZ_b1 h
    rw [f11_cutRoll_c18] at h
    refine ok_iload dX11_cutRoll_18 5 rfl ?_
    refine ok_iload_n dX11_cutRoll_20 3 rfl ?_
    refine ok_icmp_ge (t := 47) dX11_cutRoll_21 (by decide) (fun hc1 => ?_) (fun hc1 => ?_)
    · have h := (if_pos hc1).symm.trans h
      refine ok_iconst (v := 1) dX11_cutRoll_47 (by decide) ?_
      cases h
      exact ok_iret dX11_cutRoll_48 (hQ (Or.inr rfl))
    · have h := (if_neg hc1).symm.trans h
      refine ok_aload_n dX11_cutRoll_24 0 rfl ?_
      refine ok_iload dX11_cutRoll_25 4 rfl ?_
      refine ok_iload dX11_cutRoll_27 5 rfl ?_
      refine ok_aload_n dX11_cutRoll_29 1 rfl ?_
      refine ok_iload_n dX11_cutRoll_30 2 rfl ?_
      refine ok_iload dX11_cutRoll_31 5 rfl ?_
      refine ok_iadd dX11_cutRoll_33 ?_
      obtain ⟨r2, hr3, h⟩ := bd h
      refine ok_callV (d := ((d + 1) + 2)) (mt := m7_stepAt) (mc := 0) (ms := 0) (As := [.int (y2 + y5)]) (r := [.int y5, .int y4, .ref b0]) dX11_cutRoll_34 mo7_stepAt mv7_stepAt lkRX11_407 rfl hZ_b1 (q := (RX7, TX7, 7)) rfl rfl rfl (Nat.le_of_ble_eq_true rfl) (by show _ + 1 ≤ d + _; omega) (Nat.le_refl _) (Nat.le_refl _) (pRt_mono ?_)
      refine k7_stepAt (d + 1) hW hZ_b1 hr3 ?_
      intro _
      show Ok g _ Qx 37 [(0, .ref b0), (1, .ref b1), (2, .int y2), (3, .int y3), (4, .int y4), (5, .int y5)] [.int r2, .int y5, .int y4, .ref b0] (Z, I, L, O)
      obtain ⟨r4, hr5, h⟩ := bd h
      refine ok_callV (d := ((d + 0) + 3)) (mt := m11_hole) (mc := 0) (ms := 0) (As := [.int y4, .int y5, .int r2]) (r := []) dX11_cutRoll_37 mo11_hole mv11_hole lkRX11_410 rfl hZ_b0 (q := (RX11, TX11, 11)) rfl rfl rfl (Nat.le_of_ble_eq_true rfl) (by show _ + 1 ≤ d + _; omega) (Nat.le_refl _) (Nat.le_refl _) (pRt_mono ?_)
      refine k11_hole (d + 0) hW hZ_b0 hr5 ?_
      intro hbr4
      show Ok g _ Qx 40 [(0, .ref b0), (1, .ref b1), (2, .int y2), (3, .int y3), (4, .int y4), (5, .int y5)] [.int r4.1] (Z, r4.2, L, O)
      refine ok_pop dX11_cutRoll_40 rfl ?_
      refine ok_iinc (u := (y5 + 1)) (l' := [(5, .int (y5 + 1)), (0, .ref b0), (1, .ref b1), (2, .int y2), (3, .int y3), (4, .int y4)]) dX11_cutRoll_41 5 rfl rfl (Nat.le_of_ble_eq_true rfl) rfl ?_
      refine ok_goto (t := 18) dX11_cutRoll_44 (by decide) ?_
      refine ok_sub [1, 2, 3, 4, 5, 0] rfl ?_
      exact ih r4.2 b0 b1 y2 y3 y4 (y5 + 1) hZ_b0 hZ_b1 h
def f11_cutRoll (n : Nat) (I : (Nat → Nat → Int32)) (O : (Nat → Nat → Option Nat)) (a0 : Nat) (a1 : Nat) (x2 : Int32) (x3 : Int32) : Option (Int32 × (Nat → Nat → Int32)) := (f11_roll I O a0 x3).bind fun r1 => (if r1.1 = (-1 : Int32) then some ((0 : Int32), r1.2) else f11_cutRoll_c18 n O n r1.2 a0 a1 x2 x3 r1.1 (0 : Int32))
set_option maxHeartbeats 4000000 in
set_option maxRecDepth 20000 in
theorem o11_cutRoll {g : pG} {Qx : Option Value → pW → Prop} {Z : pZ} {I : (Nat → Nat → Int32)} {L : (Nat → Nat → Int64)} {O : (Nat → Nat → Option Nat)} {n : Nat} {a0 : Nat} {a1 : Nat} {x2 : Int32} {x3 : Int32} {res : Int32 × (Nat → Nat → Int32)} (d : Nat) (hW : WT Z O) (hZ0 : Z[a0]? = some (11, 11)) (hZ1 : Z[a1]? = some (7, 7)) (h : f11_cutRoll n I O a0 a1 x2 x3 = some res) (hQ : (res.1 = 0 ∨ res.1 = 1) → Qx (some (.int res.1)) (Z, res.2, L, O)) : Ok g (d + 4, RX11, cX11_cutRoll, 6, false, 0, 0, Z.length, pSl Z) Qx 0 [(0, .ref a0), (1, .ref a1), (2, .int x2), (3, .int x3)] [] (Z, I, L, O) := by
  unfold f11_cutRoll at h
  refine ok_aload_n dX11_cutRoll_0 0 rfl ?_
  refine ok_iload_n dX11_cutRoll_1 3 rfl ?_
  obtain ⟨r1, hr2, h⟩ := bd h
  refine ok_callV (d := ((d + 0) + 3)) (mt := m11_roll) (mc := 0) (ms := 0) (As := [.int x3]) (r := []) dX11_cutRoll_2 mo11_roll mv11_roll lkRX11_404 rfl hZ0 (q := (RX11, TX11, 11)) rfl rfl rfl (Nat.le_of_ble_eq_true rfl) (by show _ + 1 ≤ d + _; omega) (Nat.le_refl _) (Nat.le_refl _) (pRt_mono ?_)
  refine k11_roll (d + 0) hW hZ0 hr2 ?_
  intro _
  show Ok g _ Qx 5 [(0, .ref a0), (1, .ref a1), (2, .int x2), (3, .int x3)] [.int r1.1] (Z, r1.2, L, O)
  refine ok_istore (l' := [(4, .int r1.1), (0, .ref a0), (1, .ref a1), (2, .int x2), (3, .int x3)]) dX11_cutRoll_5 (Nat.le_of_ble_eq_true rfl) rfl ?_
  refine ok_iload dX11_cutRoll_7 0 rfl ?_
  refine ok_iconst (v := (-1)) dX11_cutRoll_9 (by decide) ?_
  refine ok_icmp_ne (t := 15) dX11_cutRoll_10 (by decide) (fun hc3 => ?_) (fun hc3 => ?_)
  · have h := (if_neg hc3).symm.trans h
    refine ok_iconst (v := 0) dX11_cutRoll_15 (by decide) ?_
    refine ok_istore (l' := [(5, .int 0), (4, .int r1.1), (0, .ref a0), (1, .ref a1), (2, .int x2), (3, .int x3)]) dX11_cutRoll_16 (Nat.le_of_ble_eq_true rfl) rfl ?_
    refine ok_sub [2, 3, 4, 5, 1, 0] rfl ?_
    exact o11_cutRoll_c18 d hW hQ  n r1.2 a0 a1 x2 x3 r1.1 (0 : Int32) hZ0 hZ1 h
  · have h := (if_pos hc3).symm.trans h
    refine ok_iconst (v := 0) dX11_cutRoll_13 (by decide) ?_
    cases h
    exact ok_iret dX11_cutRoll_14 (hQ (Or.inl rfl))
theorem k11_cutRoll {g : pG} {Q : Option Value → pW → Prop} {Z : pZ} {I : (Nat → Nat → Int32)} {L : (Nat → Nat → Int64)} {O : (Nat → Nat → Option Nat)} {n : Nat} {a0 : Nat} {a1 : Nat} {x2 : Int32} {x3 : Int32} {res : Int32 × (Nat → Nat → Int32)} (d : Nat) (hW : WT Z O) (hZ0 : Z[a0]? = some (11, 11)) (hZ1 : Z[a1]? = some (7, 7)) (h : f11_cutRoll n I O a0 a1 x2 x3 = some res) (hQ : Q (some (.int res.1)) (Z, res.2, L, O)) : CT g (d + 4) m11_cutRoll 0 0 [.ref a0, .ref a1, .int x2, .int x3] (Z, I, L, O) Q :=
  ct_of_ok (mt := m11_cutRoll) (ini := false) mo11_cutRoll.2.2.2.2 (fun h => by cases h) (Nat.le_of_ble_eq_true rfl) (o11_cutRoll d hW hZ0 hZ1 h (fun hb => ⟨hb, hQ, rfl, rfl⟩))
theorem dX11_carryOut_0 : decode cX11_carryOut 0 = .ok (.aload_n 1, 1) := by decide +kernel
theorem dX11_carryOut_1 : decode cX11_carryOut 1 = .ok (.iload_n 2, 1) := by decide +kernel
theorem dX11_carryOut_2 : decode cX11_carryOut 2 = .ok (.invokevirtual 192, 3) := by decide +kernel
theorem dX11_carryOut_5 : decode cX11_carryOut 5 = .ok (.istore_n 3, 1) := by decide +kernel
theorem dX11_carryOut_6 : decode cX11_carryOut 6 = .ok (.aload_n 1, 1) := by decide +kernel
theorem dX11_carryOut_7 : decode cX11_carryOut 7 = .ok (.iload_n 2, 1) := by decide +kernel
theorem dX11_carryOut_8 : decode cX11_carryOut 8 = .ok (.invokevirtual 385, 3) := by decide +kernel
theorem dX11_carryOut_11 : decode cX11_carryOut 11 = .ok (.istore 4, 2) := by decide +kernel
theorem dX11_carryOut_13 : decode cX11_carryOut 13 = .ok (.aload_n 1, 1) := by decide +kernel
theorem dX11_carryOut_14 : decode cX11_carryOut 14 = .ok (.iload_n 2, 1) := by decide +kernel
theorem dX11_carryOut_15 : decode cX11_carryOut 15 = .ok (.invokevirtual 195, 3) := by decide +kernel
theorem dX11_carryOut_18 : decode cX11_carryOut 18 = .ok (.tableswitch 90 3 7 #[43, 57, 74, 82, 34], 34) := by decide +kernel
theorem dX11_carryOut_52 : decode cX11_carryOut 52 = .ok (.aload_n 0, 1) := by decide +kernel
theorem dX11_carryOut_53 : decode cX11_carryOut 53 = .ok (.aload_n 1, 1) := by decide +kernel
theorem dX11_carryOut_54 : decode cX11_carryOut 54 = .ok (.iload_n 3, 1) := by decide +kernel
theorem dX11_carryOut_55 : decode cX11_carryOut 55 = .ok (.iload 4, 2) := by decide +kernel
theorem dX11_carryOut_57 : decode cX11_carryOut 57 = .ok (.invokevirtual 388, 3) := by decide +kernel
theorem dX11_carryOut_60 : decode cX11_carryOut 60 = .ok (.ireturn, 1) := by decide +kernel
theorem dX11_carryOut_61 : decode cX11_carryOut 61 = .ok (.aload_n 0, 1) := by decide +kernel
theorem dX11_carryOut_62 : decode cX11_carryOut 62 = .ok (.invokevirtual 392, 3) := by decide +kernel
theorem dX11_carryOut_65 : decode cX11_carryOut 65 = .ok (.iconst (-1), 1) := by decide +kernel
theorem dX11_carryOut_66 : decode cX11_carryOut 66 = .ok (.if_icmp .eq 7, 3) := by decide +kernel
theorem dX11_carryOut_69 : decode cX11_carryOut 69 = .ok (.iconst 1, 1) := by decide +kernel
theorem dX11_carryOut_70 : decode cX11_carryOut 70 = .ok (.goto 4, 3) := by decide +kernel
theorem dX11_carryOut_73 : decode cX11_carryOut 73 = .ok (.iconst 0, 1) := by decide +kernel
theorem dX11_carryOut_74 : decode cX11_carryOut 74 = .ok (.ireturn, 1) := by decide +kernel
theorem dX11_carryOut_75 : decode cX11_carryOut 75 = .ok (.aload_n 0, 1) := by decide +kernel
theorem dX11_carryOut_76 : decode cX11_carryOut 76 = .ok (.iload_n 3, 1) := by decide +kernel
theorem dX11_carryOut_77 : decode cX11_carryOut 77 = .ok (.iload 4, 2) := by decide +kernel
theorem dX11_carryOut_79 : decode cX11_carryOut 79 = .ok (.invokevirtual 395, 3) := by decide +kernel
theorem dX11_carryOut_82 : decode cX11_carryOut 82 = .ok (.iconst (-1), 1) := by decide +kernel
theorem dX11_carryOut_83 : decode cX11_carryOut 83 = .ok (.if_icmp .eq 7, 3) := by decide +kernel
theorem dX11_carryOut_86 : decode cX11_carryOut 86 = .ok (.iconst 1, 1) := by decide +kernel
theorem dX11_carryOut_87 : decode cX11_carryOut 87 = .ok (.goto 4, 3) := by decide +kernel
theorem dX11_carryOut_90 : decode cX11_carryOut 90 = .ok (.iconst 0, 1) := by decide +kernel
theorem dX11_carryOut_91 : decode cX11_carryOut 91 = .ok (.ireturn, 1) := by decide +kernel
theorem dX11_carryOut_92 : decode cX11_carryOut 92 = .ok (.aload_n 0, 1) := by decide +kernel
theorem dX11_carryOut_93 : decode cX11_carryOut 93 = .ok (.iload 4, 2) := by decide +kernel
theorem dX11_carryOut_95 : decode cX11_carryOut 95 = .ok (.iload_n 3, 1) := by decide +kernel
theorem dX11_carryOut_96 : decode cX11_carryOut 96 = .ok (.invokevirtual 398, 3) := by decide +kernel
theorem dX11_carryOut_99 : decode cX11_carryOut 99 = .ok (.ireturn, 1) := by decide +kernel
theorem dX11_carryOut_100 : decode cX11_carryOut 100 = .ok (.aload_n 0, 1) := by decide +kernel
theorem dX11_carryOut_101 : decode cX11_carryOut 101 = .ok (.iload 4, 2) := by decide +kernel
theorem dX11_carryOut_103 : decode cX11_carryOut 103 = .ok (.iload_n 3, 1) := by decide +kernel
theorem dX11_carryOut_104 : decode cX11_carryOut 104 = .ok (.invokevirtual 401, 3) := by decide +kernel
theorem dX11_carryOut_107 : decode cX11_carryOut 107 = .ok (.ireturn, 1) := by decide +kernel
theorem dX11_carryOut_108 : decode cX11_carryOut 108 = .ok (.iconst 1, 1) := by decide +kernel
theorem dX11_carryOut_109 : decode cX11_carryOut 109 = .ok (.ireturn, 1) := by decide +kernel
def m11_carryOut : pMT := (yX11_carryOut, cX11_carryOut, 5, some .boolean)
theorem mo11_carryOut : mOK m11_carryOut 2 := ⟨tb_i 866 (by decide +kernel), wi_RX11, ⟨wn_RX11.1, wn_RX11.2, by decide +kernel⟩, by decide, plainFor_of_name wp_RX11⟩
theorem mv11_carryOut : mV m11_carryOut := ⟨tb_i 865 (by decide +kernel), tb_p 36 (by decide +kernel)⟩
def f11_carryOut (n : Nat) (I : (Nat → Nat → Int32)) (O : (Nat → Nat → Option Nat)) (a0 : Nat) (a1 : Nat) (x2 : Int32) : Option (Int32 × (Nat → Nat → Int32)) := (f7_first I O a1 x2).bind fun r1 => (f7_second I O a1 x2).bind fun r3 => (f7_kind I O a1 x2).bind fun r5 => (if r5 = 3 then (f11_child I O a0).bind fun r8 => (if r8.1 = (-1 : Int32) then some ((0 : Int32), r8.2) else some ((1 : Int32), r8.2)) else (if r5 = 4 then (f11_play n I O a0 r1 r3).bind fun r12 => (if r12.1 = (-1 : Int32) then some ((0 : Int32), r12.2) else some ((1 : Int32), r12.2)) else (if r5 = 5 then (f11_patch I O a0 r3 r1).bind fun r16 => some (r16.1, r16.2) else (if r5 = 6 then (f11_forget I O a0 r3 r1).bind fun r19 => some (r19.1, r19.2) else (if r5 = 7 then (f11_cutRoll n I O a0 a1 r1 r3).bind fun r22 => some (r22.1, r22.2) else some ((1 : Int32), I))))))
set_option maxHeartbeats 4000000 in
set_option maxRecDepth 20000 in
theorem o11_carryOut {g : pG} {Qx : Option Value → pW → Prop} {Z : pZ} {I : (Nat → Nat → Int32)} {L : (Nat → Nat → Int64)} {O : (Nat → Nat → Option Nat)} {n : Nat} {a0 : Nat} {a1 : Nat} {x2 : Int32} {res : Int32 × (Nat → Nat → Int32)} (d : Nat) (hW : WT Z O) (hZ0 : Z[a0]? = some (11, 11)) (hZ1 : Z[a1]? = some (7, 7)) (h : f11_carryOut n I O a0 a1 x2 = some res) (hQ : (res.1 = 0 ∨ res.1 = 1) → Qx (some (.int res.1)) (Z, res.2, L, O)) : Ok g (d + 8, RX11, cX11_carryOut, 5, false, 0, 0, Z.length, pSl Z) Qx 0 [(0, .ref a0), (1, .ref a1), (2, .int x2)] [] (Z, I, L, O) := by
  unfold f11_carryOut at h
  refine ok_aload_n dX11_carryOut_0 1 rfl ?_
  refine ok_iload_n dX11_carryOut_1 2 rfl ?_
  obtain ⟨r1, hr2, h⟩ := bd h
  refine ok_callV (d := ((d + 5) + 2)) (mt := m7_first) (mc := 0) (ms := 0) (As := [.int x2]) (r := []) dX11_carryOut_2 mo7_first mv7_first lkRX11_192 rfl hZ1 (q := (RX7, TX7, 7)) rfl rfl rfl (Nat.le_of_ble_eq_true rfl) (by show _ + 1 ≤ d + _; omega) (Nat.le_refl _) (Nat.le_refl _) (pRt_mono ?_)
  refine k7_first (d + 5) hW hZ1 hr2 ?_
  intro _
  show Ok g _ Qx 5 [(0, .ref a0), (1, .ref a1), (2, .int x2)] [.int r1] (Z, I, L, O)
  refine ok_istore_n (l' := [(3, .int r1), (0, .ref a0), (1, .ref a1), (2, .int x2)]) dX11_carryOut_5 rfl (Nat.le_of_ble_eq_true rfl) rfl ?_
  refine ok_aload_n dX11_carryOut_6 2 rfl ?_
  refine ok_iload_n dX11_carryOut_7 3 rfl ?_
  obtain ⟨r3, hr4, h⟩ := bd h
  refine ok_callV (d := ((d + 5) + 2)) (mt := m7_second) (mc := 0) (ms := 0) (As := [.int x2]) (r := []) dX11_carryOut_8 mo7_second mv7_second lkRX11_385 rfl hZ1 (q := (RX7, TX7, 7)) rfl rfl rfl (Nat.le_of_ble_eq_true rfl) (by show _ + 1 ≤ d + _; omega) (Nat.le_refl _) (Nat.le_refl _) (pRt_mono ?_)
  refine k7_second (d + 5) hW hZ1 hr4 ?_
  intro _
  show Ok g _ Qx 11 [(3, .int r1), (0, .ref a0), (1, .ref a1), (2, .int x2)] [.int r3] (Z, I, L, O)
  refine ok_istore (l' := [(4, .int r3), (3, .int r1), (0, .ref a0), (1, .ref a1), (2, .int x2)]) dX11_carryOut_11 (Nat.le_of_ble_eq_true rfl) rfl ?_
  refine ok_aload_n dX11_carryOut_13 3 rfl ?_
  refine ok_iload_n dX11_carryOut_14 4 rfl ?_
  obtain ⟨r5, hr6, h⟩ := bd h
  refine ok_callV (d := ((d + 5) + 2)) (mt := m7_kind) (mc := 0) (ms := 0) (As := [.int x2]) (r := []) dX11_carryOut_15 mo7_kind mv7_kind lkRX11_195 rfl hZ1 (q := (RX7, TX7, 7)) rfl rfl rfl (Nat.le_of_ble_eq_true rfl) (by show _ + 1 ≤ d + _; omega) (Nat.le_refl _) (Nat.le_refl _) (pRt_mono ?_)
  refine k7_kind (d + 5) hW hZ1 hr6 ?_
  intro _
  show Ok g _ Qx 18 [(4, .int r3), (3, .int r1), (0, .ref a0), (1, .ref a1), (2, .int x2)] [.int r5] (Z, I, L, O)
  by_cases hc7 : r5 = 3
  · have h := (if_pos hc7).symm.trans h
    refine ok_tabEq (t := 61) (off := 43) dX11_carryOut_18 hc7 (by decide) (by decide) (by decide) (by decide) ?_
    refine ok_aload_n dX11_carryOut_61 2 rfl ?_
    obtain ⟨r8, hr9, h⟩ := bd h
    refine ok_callV (d := ((d + 4) + 3)) (mt := m11_child) (mc := 0) (ms := 0) (As := []) (r := []) dX11_carryOut_62 mo11_child mv11_child lkRX11_392 rfl hZ0 (q := (RX11, TX11, 11)) rfl rfl rfl (Nat.le_of_ble_eq_true rfl) (by show _ + 1 ≤ d + _; omega) (Nat.le_refl _) (Nat.le_refl _) (pRt_mono ?_)
    refine k11_child (d + 4) hW hZ0 hr9 ?_
    intro _
    show Ok g _ Qx 65 [(4, .int r3), (3, .int r1), (0, .ref a0), (1, .ref a1), (2, .int x2)] [.int r8.1] (Z, r8.2, L, O)
    refine ok_iconst (v := (-1)) dX11_carryOut_65 (by decide) ?_
    refine ok_icmp_eq (t := 73) dX11_carryOut_66 (by decide) (fun hc10 => ?_) (fun hc10 => ?_)
    · have h := (if_pos hc10).symm.trans h
      refine ok_iconst (v := 0) dX11_carryOut_73 (by decide) ?_
      cases h
      exact ok_iret dX11_carryOut_74 (hQ (Or.inl rfl))
    · have h := (if_neg hc10).symm.trans h
      refine ok_iconst (v := 1) dX11_carryOut_69 (by decide) ?_
      refine ok_goto (t := 74) dX11_carryOut_70 (by decide) ?_
      cases h
      exact ok_iret dX11_carryOut_74 (hQ (Or.inr rfl))
  · have h := (if_neg hc7).symm.trans h
    by_cases hc11 : r5 = 4
    · have h := (if_pos hc11).symm.trans h
      refine ok_tabEq (t := 75) (off := 57) dX11_carryOut_18 hc11 (by decide) (by decide) (by decide) (by decide) ?_
      refine ok_aload_n dX11_carryOut_75 2 rfl ?_
      refine ok_iload_n dX11_carryOut_76 1 rfl ?_
      refine ok_iload dX11_carryOut_77 0 rfl ?_
      obtain ⟨r12, hr13, h⟩ := bd h
      refine ok_callV (d := ((d + 0) + 7)) (mt := m11_play) (mc := 0) (ms := 0) (As := [.int r1, .int r3]) (r := []) dX11_carryOut_79 mo11_play mv11_play lkRX11_395 rfl hZ0 (q := (RX11, TX11, 11)) rfl rfl rfl (Nat.le_of_ble_eq_true rfl) (by show _ + 1 ≤ d + _; omega) (Nat.le_refl _) (Nat.le_refl _) (pRt_mono ?_)
      refine k11_play (d + 0) hW hZ0 hr13 ?_
      intro _
      show Ok g _ Qx 82 [(4, .int r3), (3, .int r1), (0, .ref a0), (1, .ref a1), (2, .int x2)] [.int r12.1] (Z, r12.2, L, O)
      refine ok_iconst (v := (-1)) dX11_carryOut_82 (by decide) ?_
      refine ok_icmp_eq (t := 90) dX11_carryOut_83 (by decide) (fun hc14 => ?_) (fun hc14 => ?_)
      · have h := (if_pos hc14).symm.trans h
        refine ok_iconst (v := 0) dX11_carryOut_90 (by decide) ?_
        cases h
        exact ok_iret dX11_carryOut_91 (hQ (Or.inl rfl))
      · have h := (if_neg hc14).symm.trans h
        refine ok_iconst (v := 1) dX11_carryOut_86 (by decide) ?_
        refine ok_goto (t := 91) dX11_carryOut_87 (by decide) ?_
        cases h
        exact ok_iret dX11_carryOut_91 (hQ (Or.inr rfl))
    · have h := (if_neg hc11).symm.trans h
      by_cases hc15 : r5 = 5
      · have h := (if_pos hc15).symm.trans h
        refine ok_tabEq (t := 92) (off := 74) dX11_carryOut_18 hc15 (by decide) (by decide) (by decide) (by decide) ?_
        refine ok_aload_n dX11_carryOut_92 2 rfl ?_
        refine ok_iload dX11_carryOut_93 0 rfl ?_
        refine ok_iload_n dX11_carryOut_95 1 rfl ?_
        obtain ⟨r16, hr17, h⟩ := bd h
        refine ok_callV (d := ((d + 1) + 6)) (mt := m11_patch) (mc := 0) (ms := 0) (As := [.int r3, .int r1]) (r := []) dX11_carryOut_96 mo11_patch mv11_patch lkRX11_398 rfl hZ0 (q := (RX11, TX11, 11)) rfl rfl rfl (Nat.le_of_ble_eq_true rfl) (by show _ + 1 ≤ d + _; omega) (Nat.le_refl _) (Nat.le_refl _) (pRt_mono ?_)
        refine k11_patch (d + 1) hW hZ0 hr17 ?_
        intro hbr16
        show Ok g _ Qx 99 [(4, .int r3), (3, .int r1), (0, .ref a0), (1, .ref a1), (2, .int x2)] [.int r16.1] (Z, r16.2, L, O)
        cases h
        exact ok_iret dX11_carryOut_99 (hQ hbr16)
      · have h := (if_neg hc15).symm.trans h
        by_cases hc18 : r5 = 6
        · have h := (if_pos hc18).symm.trans h
          refine ok_tabEq (t := 100) (off := 82) dX11_carryOut_18 hc18 (by decide) (by decide) (by decide) (by decide) ?_
          refine ok_aload_n dX11_carryOut_100 2 rfl ?_
          refine ok_iload dX11_carryOut_101 0 rfl ?_
          refine ok_iload_n dX11_carryOut_103 1 rfl ?_
          obtain ⟨r19, hr20, h⟩ := bd h
          refine ok_callV (d := ((d + 1) + 6)) (mt := m11_forget) (mc := 0) (ms := 0) (As := [.int r3, .int r1]) (r := []) dX11_carryOut_104 mo11_forget mv11_forget lkRX11_401 rfl hZ0 (q := (RX11, TX11, 11)) rfl rfl rfl (Nat.le_of_ble_eq_true rfl) (by show _ + 1 ≤ d + _; omega) (Nat.le_refl _) (Nat.le_refl _) (pRt_mono ?_)
          refine k11_forget (d + 1) hW hZ0 hr20 ?_
          intro hbr19
          show Ok g _ Qx 107 [(4, .int r3), (3, .int r1), (0, .ref a0), (1, .ref a1), (2, .int x2)] [.int r19.1] (Z, r19.2, L, O)
          cases h
          exact ok_iret dX11_carryOut_107 (hQ hbr19)
        · have h := (if_neg hc18).symm.trans h
          by_cases hc21 : r5 = 7
          · have h := (if_pos hc21).symm.trans h
            refine ok_tabEq (t := 52) (off := 34) dX11_carryOut_18 hc21 (by decide) (by decide) (by decide) (by decide) ?_
            refine ok_aload_n dX11_carryOut_52 2 rfl ?_
            refine ok_aload_n dX11_carryOut_53 3 rfl ?_
            refine ok_iload_n dX11_carryOut_54 1 rfl ?_
            refine ok_iload dX11_carryOut_55 0 rfl ?_
            obtain ⟨r22, hr23, h⟩ := bd h
            refine ok_callV (d := ((d + 3) + 4)) (mt := m11_cutRoll) (mc := 0) (ms := 0) (As := [.ref a1, .int r1, .int r3]) (r := []) dX11_carryOut_57 mo11_cutRoll mv11_cutRoll lkRX11_388 rfl hZ0 (q := (RX11, TX11, 11)) rfl rfl rfl (Nat.le_of_ble_eq_true rfl) (by show _ + 1 ≤ d + _; omega) (Nat.le_refl _) (Nat.le_refl _) (pRt_mono ?_)
            refine k11_cutRoll (d + 3) hW hZ0 hZ1 hr23 ?_
            intro hbr22
            show Ok g _ Qx 60 [(4, .int r3), (3, .int r1), (0, .ref a0), (1, .ref a1), (2, .int x2)] [.int r22.1] (Z, r22.2, L, O)
            cases h
            exact ok_iret dX11_carryOut_60 (hQ hbr22)
          · have h := (if_neg hc21).symm.trans h
            refine ok_tabOut (t := 108) dX11_carryOut_18 (by have n3 := neI hc7 (a := 3) (by decide); have n4 := neI hc11 (a := 4) (by decide); have n5 := neI hc15 (a := 5) (by decide); have n6 := neI hc18 (a := 6) (by decide); have n7 := neI hc21 (a := 7) (by decide); omega) (by decide) ?_
            refine ok_iconst (v := 1) dX11_carryOut_108 (by decide) ?_
            cases h
            exact ok_iret dX11_carryOut_109 (hQ (Or.inr rfl))
theorem k11_carryOut {g : pG} {Q : Option Value → pW → Prop} {Z : pZ} {I : (Nat → Nat → Int32)} {L : (Nat → Nat → Int64)} {O : (Nat → Nat → Option Nat)} {n : Nat} {a0 : Nat} {a1 : Nat} {x2 : Int32} {res : Int32 × (Nat → Nat → Int32)} (d : Nat) (hW : WT Z O) (hZ0 : Z[a0]? = some (11, 11)) (hZ1 : Z[a1]? = some (7, 7)) (h : f11_carryOut n I O a0 a1 x2 = some res) (hQ : Q (some (.int res.1)) (Z, res.2, L, O)) : CT g (d + 8) m11_carryOut 0 0 [.ref a0, .ref a1, .int x2] (Z, I, L, O) Q :=
  ct_of_ok (mt := m11_carryOut) (ini := false) mo11_carryOut.2.2.2.2 (fun h => by cases h) (Nat.le_of_ble_eq_true rfl) (o11_carryOut d hW hZ0 hZ1 h (fun hb => ⟨hb, hQ, rfl, rfl⟩))
theorem dX11_passSundays_0 : decode cX11_passSundays 0 = .ok (.iconst 0, 1) := by decide +kernel
theorem dX11_passSundays_1 : decode cX11_passSundays 1 = .ok (.istore_n 2, 1) := by decide +kernel
theorem dX11_passSundays_2 : decode cX11_passSundays 2 = .ok (.iload_n 2, 1) := by decide +kernel
theorem dX11_passSundays_3 : decode cX11_passSundays 3 = .ok (.iload_n 1, 1) := by decide +kernel
theorem dX11_passSundays_4 : decode cX11_passSundays 4 = .ok (.if_icmp .ge 54, 3) := by decide +kernel
theorem dX11_passSundays_7 : decode cX11_passSundays 7 = .ok (.aload_n 0, 1) := by decide +kernel
theorem dX11_passSundays_8 : decode cX11_passSundays 8 = .ok (.getfield 10, 3) := by decide +kernel
theorem dX11_passSundays_11 : decode cX11_passSundays 11 = .ok (.getfield 79, 3) := by decide +kernel
theorem dX11_passSundays_14 : decode cX11_passSundays 14 = .ok (.getfield 94, 3) := by decide +kernel
theorem dX11_passSundays_17 : decode cX11_passSundays 17 = .ok (.getfield 182, 3) := by decide +kernel
theorem dX11_passSundays_20 : decode cX11_passSundays 20 = .ok (.sipush 9999, 3) := by decide +kernel
theorem dX11_passSundays_23 : decode cX11_passSundays 23 = .ok (.if_icmp .ge 35, 3) := by decide +kernel
theorem dX11_passSundays_26 : decode cX11_passSundays 26 = .ok (.aload_n 0, 1) := by decide +kernel
theorem dX11_passSundays_27 : decode cX11_passSundays 27 = .ok (.getfield 10, 3) := by decide +kernel
theorem dX11_passSundays_30 : decode cX11_passSundays 30 = .ok (.invokevirtual 159, 3) := by decide +kernel
theorem dX11_passSundays_33 : decode cX11_passSundays 33 = .ok (.aload_n 0, 1) := by decide +kernel
theorem dX11_passSundays_34 : decode cX11_passSundays 34 = .ok (.getfield 51, 3) := by decide +kernel
theorem dX11_passSundays_37 : decode cX11_passSundays 37 = .ok (.aload_n 0, 1) := by decide +kernel
theorem dX11_passSundays_38 : decode cX11_passSundays 38 = .ok (.getfield 10, 3) := by decide +kernel
theorem dX11_passSundays_41 : decode cX11_passSundays 41 = .ok (.getfield 79, 3) := by decide +kernel
theorem dX11_passSundays_44 : decode cX11_passSundays 44 = .ok (.aload_n 0, 1) := by decide +kernel
theorem dX11_passSundays_45 : decode cX11_passSundays 45 = .ok (.invokevirtual 162, 3) := by decide +kernel
theorem dX11_passSundays_48 : decode cX11_passSundays 48 = .ok (.invokevirtual 185, 3) := by decide +kernel
theorem dX11_passSundays_51 : decode cX11_passSundays 51 = .ok (.pop, 1) := by decide +kernel
theorem dX11_passSundays_52 : decode cX11_passSundays 52 = .ok (.iinc 2 1, 3) := by decide +kernel
theorem dX11_passSundays_55 : decode cX11_passSundays 55 = .ok (.goto (-53), 3) := by decide +kernel
theorem dX11_passSundays_58 : decode cX11_passSundays 58 = .ok (.iload_n 2, 1) := by decide +kernel
theorem dX11_passSundays_59 : decode cX11_passSundays 59 = .ok (.ireturn, 1) := by decide +kernel
def m11_passSundays : pMT := (yX11_passSundays, cX11_passSundays, 3, some .int)
theorem mo11_passSundays : mOK m11_passSundays 1 := ⟨tb_i 862 (by decide +kernel), wi_RX11, ⟨wn_RX11.1, wn_RX11.2, by decide +kernel⟩, by decide, plainFor_of_name wp_RX11⟩
theorem mv11_passSundays : mV m11_passSundays := ⟨tb_i 861 (by decide +kernel), tb_p 35 (by decide +kernel)⟩
def f11_passSundays_c2 (n : Nat) (O : (Nat → Nat → Option Nat)) : Nat → (Nat → Nat → Int32) → Nat → Int32 → Int32 → Option (Int32 × (Nat → Nat → Int32))
  | 0, _, _, _, _ => none
  | m + 1, I, b0, y1, y2 => (if y1 ≤ y2 then some (y2, I) else (if (9999 : Int32) ≤ (I (rO O (rO O (rO O b0 0) 0) 2) 4) then some (y2, I) else (f9_keepStep I O (rO O b0 0)).bind fun r6 => (f11_ruling r6 O b0).bind fun r9 => (f4_passSunday n r6 O (rO O b0 7) (rO O (rO O b0 0) 0) r9).bind fun r11 => f11_passSundays_c2 n O m r11.2 b0 y1 (y2 + 1)))
set_option maxHeartbeats 4000000 in
set_option maxRecDepth 20000 in
theorem o11_passSundays_c2 {g : pG} {Qx : Option Value → pW → Prop} {Z : pZ} {L : (Nat → Nat → Int64)} {O : (Nat → Nat → Option Nat)} {n : Nat} {res : Int32 × (Nat → Nat → Int32)} (d : Nat) (hW : WT Z O) (hQ : Qx (some (.int res.1)) (Z, res.2, L, O)) : ∀ (m : Nat) (I : (Nat → Nat → Int32)) (b0 : Nat) (y1 : Int32) (y2 : Int32), (Z[b0]? = some (11, 11)) → f11_passSundays_c2 n O m I b0 y1 y2 = some res → Ok g (d + 8, RX11, cX11_passSundays, 3, false, 0, 0, Z.length, pSl Z) Qx 2 [(0, .ref b0), (1, .int y1), (2, .int y2)] [] (Z, I, L, O) := by
  intro m
  induction m with
  | zero => intro I b0 y1 y2 hZ_b0 h; rw [f11_passSundays_c2] at h; cases h
  | succ m ih =>
    intro I b0 y1 y2 hZ_b0 h
    rw [f11_passSundays_c2] at h
    refine ok_iload_n dX11_passSundays_2 2 rfl ?_
    refine ok_iload_n dX11_passSundays_3 1 rfl ?_
    refine ok_icmp_ge (t := 58) dX11_passSundays_4 (by decide) (fun hc1 => ?_) (fun hc1 => ?_)
    · have h := (if_pos hc1).symm.trans h
      refine ok_iload_n dX11_passSundays_58 2 rfl ?_
      cases h
      exact ok_iret dX11_passSundays_59 hQ
    · have h := (if_neg hc1).symm.trans h
      refine ok_aload_n dX11_passSundays_7 0 rfl ?_
      have hT2 : Z[(rO O b0 0)]? = some (9, 10) := (wt_f (ci := 11) (k := 0) hW hZ_b0 rfl).2
      refine ok_getR (ci := 11) (k := 0) dX11_passSundays_8 flRX11_10 rfl hW hZ_b0 (by decide) ?_
      have hT3 : Z[(rO O (rO O b0 0) 0)]? = some (10, 5) := (wt_f (ci := 9) (k := 0) hW hT2 rfl).2
      refine ok_getR (ci := 9) (k := 0) dX11_passSundays_11 flRX11_79 rfl hW hT2 (by decide) ?_
      have hT4 : Z[(rO O (rO O (rO O b0 0) 0) 2)]? = some (3, 6) := (wt_f (ci := 10) (k := 2) hW hT3 rfl).2
      refine ok_getR (ci := 10) (k := 2) dX11_passSundays_14 flRX11_94 rfl hW hT3 (by decide) ?_
      refine ok_getI (ci := 3) (k := 4) dX11_passSundays_17 flRX11_182 rfl hT4 (by decide) ?_
      refine ok_sipush (v := 9999) dX11_passSundays_20 (by decide) ?_
      refine ok_icmp_ge (t := 58) dX11_passSundays_23 (by decide) (fun hc5 => ?_) (fun hc5 => ?_)
      · have h := (if_pos hc5).symm.trans h
        refine ok_iload_n dX11_passSundays_58 2 rfl ?_
        cases h
        exact ok_iret dX11_passSundays_59 hQ
      · have h := (if_neg hc5).symm.trans h
        refine ok_aload_n dX11_passSundays_26 0 rfl ?_
        refine ok_getR (ci := 11) (k := 0) dX11_passSundays_27 flRX11_10 rfl hW hZ_b0 (by decide) ?_
        obtain ⟨r6, hr7, h⟩ := bd h
        refine ok_callV (d := ((d + 2) + 5)) (mt := m9_keepStep) (mc := 0) (ms := 0) (As := []) (r := []) dX11_passSundays_30 mo9_keepStep mv9_keepStep lkRX11_159 rfl hT2 (q := (RX9, TX9, 10)) rfl rfl rfl (Nat.le_of_ble_eq_true rfl) (by show _ + 1 ≤ d + _; omega) (Nat.le_refl _) (Nat.le_refl _) (pRt_mono ?_)
        refine k9_keepStep (d + 2) hW hT2 hr7 ?_
        intro _
        show Ok g _ Qx 33 [(0, .ref b0), (1, .int y1), (2, .int y2)] [] (Z, r6, L, O)
        refine ok_aload_n dX11_passSundays_33 0 rfl ?_
        have hT8 : Z[(rO O b0 7)]? = some (4, 1) := (wt_f (ci := 11) (k := 7) hW hZ_b0 rfl).2
        refine ok_getR (ci := 11) (k := 7) dX11_passSundays_34 flRX11_51 rfl hW hZ_b0 (by decide) ?_
        refine ok_aload_n dX11_passSundays_37 0 rfl ?_
        refine ok_getR (ci := 11) (k := 0) dX11_passSundays_38 flRX11_10 rfl hW hZ_b0 (by decide) ?_
        refine ok_getR (ci := 9) (k := 0) dX11_passSundays_41 flRX11_79 rfl hW hT2 (by decide) ?_
        refine ok_aload_n dX11_passSundays_44 0 rfl ?_
        obtain ⟨r9, hr10, h⟩ := bd h
        have hSr9 := t11_ruling hW hZ_b0 hr10
        refine ok_callV (d := ((d + 4) + 3)) (mt := m11_ruling) (mc := 0) (ms := 0) (As := []) (r := [.ref (rO O (rO O b0 0) 0), .ref (rO O b0 7)]) dX11_passSundays_45 mo11_ruling mv11_ruling lkRX11_162 rfl hZ_b0 (q := (RX11, TX11, 11)) rfl rfl rfl (Nat.le_of_ble_eq_true rfl) (by show _ + 1 ≤ d + _; omega) (Nat.le_refl _) (Nat.le_refl _) (pRt_mono ?_)
        refine k11_ruling (d + 4) hW hZ_b0 hr10 ?_
        intro _
        show Ok g _ Qx 48 [(0, .ref b0), (1, .int y1), (2, .int y2)] [va_rf r9, .ref (rO O (rO O b0 0) 0), .ref (rO O b0 7)] (Z, r6, L, O)
        obtain ⟨r11, hr12, h⟩ := bd h
        refine ok_callV (d := ((d + 0) + 7)) (mt := m4_passSunday) (mc := 0) (ms := 0) (As := [.ref (rO O (rO O b0 0) 0), va_rf r9]) (r := []) dX11_passSundays_48 mo4_passSunday mv4_passSunday lkRX11_185 rfl hT8 (q := (RX4, TX4, 1)) rfl rfl rfl (Nat.le_of_ble_eq_true rfl) (by show _ + 1 ≤ d + _; omega) (Nat.le_refl _) (Nat.le_refl _) (pRt_mono ?_)
        refine k4_passSunday (d + 0) hW hT8 hT3 hSr9 hr12 ?_
        intro _
        show Ok g _ Qx 51 [(0, .ref b0), (1, .int y1), (2, .int y2)] [.int r11.1] (Z, r11.2, L, O)
        refine ok_pop dX11_passSundays_51 rfl ?_
        refine ok_iinc (u := (y2 + 1)) (l' := [(2, .int (y2 + 1)), (0, .ref b0), (1, .int y1)]) dX11_passSundays_52 2 rfl rfl (Nat.le_of_ble_eq_true rfl) rfl ?_
        refine ok_goto (t := 2) dX11_passSundays_55 (by decide) ?_
        refine ok_sub [1, 2, 0] rfl ?_
        exact ih r11.2 b0 y1 (y2 + 1) hZ_b0 h
def f11_passSundays (n : Nat) (I : (Nat → Nat → Int32)) (O : (Nat → Nat → Option Nat)) (a0 : Nat) (x1 : Int32) : Option (Int32 × (Nat → Nat → Int32)) := f11_passSundays_c2 n O n I a0 x1 (0 : Int32)
set_option maxHeartbeats 4000000 in
set_option maxRecDepth 20000 in
theorem o11_passSundays {g : pG} {Qx : Option Value → pW → Prop} {Z : pZ} {I : (Nat → Nat → Int32)} {L : (Nat → Nat → Int64)} {O : (Nat → Nat → Option Nat)} {n : Nat} {a0 : Nat} {x1 : Int32} {res : Int32 × (Nat → Nat → Int32)} (d : Nat) (hW : WT Z O) (hZ0 : Z[a0]? = some (11, 11)) (h : f11_passSundays n I O a0 x1 = some res) (hQ : Qx (some (.int res.1)) (Z, res.2, L, O)) : Ok g (d + 8, RX11, cX11_passSundays, 3, false, 0, 0, Z.length, pSl Z) Qx 0 [(0, .ref a0), (1, .int x1)] [] (Z, I, L, O) := by
  unfold f11_passSundays at h
  refine ok_iconst (v := 0) dX11_passSundays_0 (by decide) ?_
  refine ok_istore_n (l' := [(2, .int 0), (0, .ref a0), (1, .int x1)]) dX11_passSundays_1 rfl (Nat.le_of_ble_eq_true rfl) rfl ?_
  refine ok_sub [1, 2, 0] rfl ?_
  exact o11_passSundays_c2 d hW hQ  n I a0 x1 (0 : Int32) hZ0 h
theorem k11_passSundays {g : pG} {Q : Option Value → pW → Prop} {Z : pZ} {I : (Nat → Nat → Int32)} {L : (Nat → Nat → Int64)} {O : (Nat → Nat → Option Nat)} {n : Nat} {a0 : Nat} {x1 : Int32} {res : Int32 × (Nat → Nat → Int32)} (d : Nat) (hW : WT Z O) (hZ0 : Z[a0]? = some (11, 11)) (h : f11_passSundays n I O a0 x1 = some res) (hQ : Q (some (.int res.1)) (Z, res.2, L, O)) : CT g (d + 8) m11_passSundays 0 0 [.ref a0, .int x1] (Z, I, L, O) Q :=
  ct_of_ok (mt := m11_passSundays) (ini := false) mo11_passSundays.2.2.2.2 (fun h => by cases h) (Nat.le_of_ble_eq_true rfl) (o11_passSundays d hW hZ0 h ⟨trivial, hQ, rfl, rfl⟩)
theorem dX11_played_0 : decode cX11_played 0 = .ok (.aload_n 0, 1) := by decide +kernel
theorem dX11_played_1 : decode cX11_played 1 = .ok (.iload_n 1, 1) := by decide +kernel
theorem dX11_played_2 : decode cX11_played 2 = .ok (.invokevirtual 145, 3) := by decide +kernel
theorem dX11_played_5 : decode cX11_played 5 = .ok (.astore_n 2, 1) := by decide +kernel
theorem dX11_played_6 : decode cX11_played 6 = .ok (.aload_n 2, 1) := by decide +kernel
theorem dX11_played_7 : decode cX11_played 7 = .ok (.ifnonnull 6, 3) := by decide +kernel
theorem dX11_played_10 : decode cX11_played 10 = .ok (.bipush (-2), 2) := by decide +kernel
theorem dX11_played_12 : decode cX11_played 12 = .ok (.ireturn, 1) := by decide +kernel
theorem dX11_played_13 : decode cX11_played 13 = .ok (.iconst 0, 1) := by decide +kernel
theorem dX11_played_14 : decode cX11_played 14 = .ok (.istore_n 3, 1) := by decide +kernel
theorem dX11_played_15 : decode cX11_played 15 = .ok (.iload_n 3, 1) := by decide +kernel
theorem dX11_played_16 : decode cX11_played 16 = .ok (.aload_n 2, 1) := by decide +kernel
theorem dX11_played_17 : decode cX11_played 17 = .ok (.getfield 189, 3) := by decide +kernel
theorem dX11_played_20 : decode cX11_played 20 = .ok (.if_icmp .ge 60, 3) := by decide +kernel
theorem dX11_played_23 : decode cX11_played 23 = .ok (.aload_n 2, 1) := by decide +kernel
theorem dX11_played_24 : decode cX11_played 24 = .ok (.iload_n 3, 1) := by decide +kernel
theorem dX11_played_25 : decode cX11_played 25 = .ok (.invokevirtual 192, 3) := by decide +kernel
theorem dX11_played_28 : decode cX11_played 28 = .ok (.istore 4, 2) := by decide +kernel
theorem dX11_played_30 : decode cX11_played 30 = .ok (.aload_n 2, 1) := by decide +kernel
theorem dX11_played_31 : decode cX11_played 31 = .ok (.iload_n 3, 1) := by decide +kernel
theorem dX11_played_32 : decode cX11_played 32 = .ok (.invokevirtual 195, 3) := by decide +kernel
theorem dX11_played_35 : decode cX11_played 35 = .ok (.bipush 8, 2) := by decide +kernel
theorem dX11_played_37 : decode cX11_played 37 = .ok (.if_icmp .ne 22, 3) := by decide +kernel
theorem dX11_played_40 : decode cX11_played 40 = .ok (.aload_n 0, 1) := by decide +kernel
theorem dX11_played_41 : decode cX11_played 41 = .ok (.iload 4, 2) := by decide +kernel
theorem dX11_played_43 : decode cX11_played 43 = .ok (.invokevirtual 198, 3) := by decide +kernel
theorem dX11_played_46 : decode cX11_played 46 = .ok (.iload 4, 2) := by decide +kernel
theorem dX11_played_48 : decode cX11_played 48 = .ok (.if_icmp .ne 7, 3) := by decide +kernel
theorem dX11_played_51 : decode cX11_played 51 = .ok (.iconst 1, 1) := by decide +kernel
theorem dX11_played_52 : decode cX11_played 52 = .ok (.goto 13, 3) := by decide +kernel
theorem dX11_played_55 : decode cX11_played 55 = .ok (.iconst 0, 1) := by decide +kernel
theorem dX11_played_56 : decode cX11_played 56 = .ok (.goto 9, 3) := by decide +kernel
theorem dX11_played_59 : decode cX11_played 59 = .ok (.aload_n 0, 1) := by decide +kernel
theorem dX11_played_60 : decode cX11_played 60 = .ok (.aload_n 2, 1) := by decide +kernel
theorem dX11_played_61 : decode cX11_played 61 = .ok (.iload_n 3, 1) := by decide +kernel
theorem dX11_played_62 : decode cX11_played 62 = .ok (.invokevirtual 201, 3) := by decide +kernel
theorem dX11_played_65 : decode cX11_played 65 = .ok (.istore 5, 2) := by decide +kernel
theorem dX11_played_67 : decode cX11_played 67 = .ok (.iload 5, 2) := by decide +kernel
theorem dX11_played_69 : decode cX11_played 69 = .ok (.ifCond .ne 5, 3) := by decide +kernel
theorem dX11_played_72 : decode cX11_played 72 = .ok (.iload_n 3, 1) := by decide +kernel
theorem dX11_played_73 : decode cX11_played 73 = .ok (.ireturn, 1) := by decide +kernel
theorem dX11_played_74 : decode cX11_played 74 = .ok (.iinc 3 1, 3) := by decide +kernel
theorem dX11_played_77 : decode cX11_played 77 = .ok (.goto (-62), 3) := by decide +kernel
theorem dX11_played_80 : decode cX11_played 80 = .ok (.iconst (-1), 1) := by decide +kernel
theorem dX11_played_81 : decode cX11_played 81 = .ok (.ireturn, 1) := by decide +kernel
def m11_played : pMT := (yX11_played, cX11_played, 6, some .int)
theorem mo11_played : mOK m11_played 1 := ⟨tb_i 853 (by decide +kernel), wi_RX11, ⟨wn_RX11.1, wn_RX11.2, by decide +kernel⟩, by decide, plainFor_of_name wp_RX11⟩
theorem mv11_played : mV m11_played := ⟨tb_i 851 (by decide +kernel), tb_i 852 (by decide +kernel)⟩
def f11_played_c15 (n : Nat) (O : (Nat → Nat → Option Nat)) : Nat → (Nat → Nat → Int32) → Nat → Nat → Int32 → Option (Int32 × (Nat → Nat → Int32))
  | 0, _, _, _, _ => none
  | m + 1, I, b0, b2, y3 => (if (I b2 6) ≤ y3 then some (((-1) : Int32), I) else (f7_first I O b2 y3).bind fun r2 => (f7_kind I O b2 y3).bind fun r4 => (if r4 = (8 : Int32) then (f11_passSundays n I O b0 r2).bind fun r10 => (if r10.1 = r2 then (if (1 : Int32) = 0 then some (y3, r10.2) else f11_played_c15 n O m r10.2 b0 b2 (y3 + 1)) else (if (0 : Int32) = 0 then some (y3, r10.2) else f11_played_c15 n O m r10.2 b0 b2 (y3 + 1))) else (f11_carryOut n I O b0 b2 y3).bind fun r7 => (if r7.1 = 0 then some (y3, r7.2) else f11_played_c15 n O m r7.2 b0 b2 (y3 + 1))))
set_option maxHeartbeats 4000000 in
set_option maxRecDepth 20000 in
theorem o11_played_c15 {g : pG} {Qx : Option Value → pW → Prop} {Z : pZ} {L : (Nat → Nat → Int64)} {O : (Nat → Nat → Option Nat)} {n : Nat} {res : Int32 × (Nat → Nat → Int32)} (d : Nat) (hW : WT Z O) (hQ : Qx (some (.int res.1)) (Z, res.2, L, O)) : ∀ (m : Nat) (I : (Nat → Nat → Int32)) (b0 : Nat) (b2 : Nat) (y3 : Int32), (Z[b0]? = some (11, 11)) → (Z[b2]? = some (7, 7)) → f11_played_c15 n O m I b0 b2 y3 = some res → Ok g (d + 9, RX11, cX11_played, 6, false, 0, 0, Z.length, pSl Z) Qx 15 [(0, .ref b0), (2, .ref b2), (3, .int y3)] [] (Z, I, L, O) := by
  intro m
  induction m with
  | zero => intro I b0 b2 y3 hZ_b0 hZ_b2 h; rw [f11_played_c15] at h; cases h
  | succ m ih =>
    intro I b0 b2 y3 hZ_b0 hZ_b2 h
    rw [f11_played_c15] at h
    refine ok_iload_n dX11_played_15 2 rfl ?_
    refine ok_aload_n dX11_played_16 1 rfl ?_
    refine ok_getI (ci := 7) (k := 6) dX11_played_17 flRX11_189 rfl hZ_b2 (by decide) ?_
    refine ok_icmp_ge (t := 80) dX11_played_20 (by decide) (fun hc1 => ?_) (fun hc1 => ?_)
    · have h := (if_pos hc1).symm.trans h
      refine ok_iconst (v := (-1)) dX11_played_80 (by decide) ?_
      cases h
      exact ok_iret dX11_played_81 hQ
    · have h := (if_neg hc1).symm.trans h
      refine ok_aload_n dX11_played_23 1 rfl ?_
      refine ok_iload_n dX11_played_24 2 rfl ?_
      obtain ⟨r2, hr3, h⟩ := bd h
      refine ok_callV (d := ((d + 6) + 2)) (mt := m7_first) (mc := 0) (ms := 0) (As := [.int y3]) (r := []) dX11_played_25 mo7_first mv7_first lkRX11_192 rfl hZ_b2 (q := (RX7, TX7, 7)) rfl rfl rfl (Nat.le_of_ble_eq_true rfl) (by show _ + 1 ≤ d + _; omega) (Nat.le_refl _) (Nat.le_refl _) (pRt_mono ?_)
      refine k7_first (d + 6) hW hZ_b2 hr3 ?_
      intro _
      show Ok g _ Qx 28 [(0, .ref b0), (2, .ref b2), (3, .int y3)] [.int r2] (Z, I, L, O)
      refine ok_istore (l' := [(4, .int r2), (0, .ref b0), (2, .ref b2), (3, .int y3)]) dX11_played_28 (Nat.le_of_ble_eq_true rfl) rfl ?_
      refine ok_aload_n dX11_played_30 2 rfl ?_
      refine ok_iload_n dX11_played_31 3 rfl ?_
      obtain ⟨r4, hr5, h⟩ := bd h
      refine ok_callV (d := ((d + 6) + 2)) (mt := m7_kind) (mc := 0) (ms := 0) (As := [.int y3]) (r := []) dX11_played_32 mo7_kind mv7_kind lkRX11_195 rfl hZ_b2 (q := (RX7, TX7, 7)) rfl rfl rfl (Nat.le_of_ble_eq_true rfl) (by show _ + 1 ≤ d + _; omega) (Nat.le_refl _) (Nat.le_refl _) (pRt_mono ?_)
      refine k7_kind (d + 6) hW hZ_b2 hr5 ?_
      intro _
      show Ok g _ Qx 35 [(4, .int r2), (0, .ref b0), (2, .ref b2), (3, .int y3)] [.int r4] (Z, I, L, O)
      refine ok_bipush (v := 8) dX11_played_35 (by decide) ?_
      refine ok_icmp_ne (t := 59) dX11_played_37 (by decide) (fun hc6 => ?_) (fun hc6 => ?_)
      · have h := (if_neg hc6).symm.trans h
        refine ok_aload_n dX11_played_59 1 rfl ?_
        refine ok_aload_n dX11_played_60 2 rfl ?_
        refine ok_iload_n dX11_played_61 3 rfl ?_
        obtain ⟨r7, hr8, h⟩ := bd h
        refine ok_callV (d := ((d + 0) + 8)) (mt := m11_carryOut) (mc := 0) (ms := 0) (As := [.ref b2, .int y3]) (r := []) dX11_played_62 mo11_carryOut mv11_carryOut lkRX11_201 rfl hZ_b0 (q := (RX11, TX11, 11)) rfl rfl rfl (Nat.le_of_ble_eq_true rfl) (by show _ + 1 ≤ d + _; omega) (Nat.le_refl _) (Nat.le_refl _) (pRt_mono ?_)
        refine k11_carryOut (d + 0) hW hZ_b0 hZ_b2 hr8 ?_
        intro hbr7
        show Ok g _ Qx 65 [(4, .int r2), (0, .ref b0), (2, .ref b2), (3, .int y3)] [.int r7.1] (Z, r7.2, L, O)
        refine ok_istore (l' := [(5, .int r7.1), (4, .int r2), (0, .ref b0), (2, .ref b2), (3, .int y3)]) dX11_played_65 (Nat.le_of_ble_eq_true rfl) rfl ?_
        refine ok_iload dX11_played_67 0 rfl ?_
        refine ok_if_ne (t := 74) dX11_played_69 (by decide) (fun hc9 => ?_) (fun hc9 => ?_)
        · have h := (if_neg hc9).symm.trans h
          refine ok_iinc (u := (y3 + 1)) (l' := [(3, .int (y3 + 1)), (5, .int r7.1), (4, .int r2), (0, .ref b0), (2, .ref b2)]) dX11_played_74 4 rfl rfl (Nat.le_of_ble_eq_true rfl) rfl ?_
          refine ok_goto (t := 15) dX11_played_77 (by decide) ?_
          refine ok_sub [3, 4, 0] rfl ?_
          exact ih r7.2 b0 b2 (y3 + 1) hZ_b0 hZ_b2 h
        · have h := (if_pos hc9).symm.trans h
          refine ok_iload_n dX11_played_72 4 rfl ?_
          cases h
          exact ok_iret dX11_played_73 hQ
      · have h := (if_pos hc6).symm.trans h
        refine ok_aload_n dX11_played_40 1 rfl ?_
        refine ok_iload dX11_played_41 0 rfl ?_
        obtain ⟨r10, hr11, h⟩ := bd h
        refine ok_callV (d := ((d + 0) + 8)) (mt := m11_passSundays) (mc := 0) (ms := 0) (As := [.int r2]) (r := []) dX11_played_43 mo11_passSundays mv11_passSundays lkRX11_198 rfl hZ_b0 (q := (RX11, TX11, 11)) rfl rfl rfl (Nat.le_of_ble_eq_true rfl) (by show _ + 1 ≤ d + _; omega) (Nat.le_refl _) (Nat.le_refl _) (pRt_mono ?_)
        refine k11_passSundays (d + 0) hW hZ_b0 hr11 ?_
        intro _
        show Ok g _ Qx 46 [(4, .int r2), (0, .ref b0), (2, .ref b2), (3, .int y3)] [.int r10.1] (Z, r10.2, L, O)
        refine ok_iload dX11_played_46 0 rfl ?_
        refine ok_icmp_ne (t := 55) dX11_played_48 (by decide) (fun hc12 => ?_) (fun hc12 => ?_)
        · have h := (if_neg hc12).symm.trans h
          refine ok_iconst (v := 0) dX11_played_55 (by decide) ?_
          refine ok_goto (t := 65) dX11_played_56 (by decide) ?_
          refine ok_istore (l' := [(5, .int 0), (4, .int r2), (0, .ref b0), (2, .ref b2), (3, .int y3)]) dX11_played_65 (Nat.le_of_ble_eq_true rfl) rfl ?_
          refine ok_iload dX11_played_67 0 rfl ?_
          refine ok_if_ne (t := 74) dX11_played_69 (by decide) (fun hc13 => ?_) (fun hc13 => ?_)
          · have h := (if_neg hc13).symm.trans h
            refine ok_iinc (u := (y3 + 1)) (l' := [(3, .int (y3 + 1)), (5, .int 0), (4, .int r2), (0, .ref b0), (2, .ref b2)]) dX11_played_74 4 rfl rfl (Nat.le_of_ble_eq_true rfl) rfl ?_
            refine ok_goto (t := 15) dX11_played_77 (by decide) ?_
            refine ok_sub [3, 4, 0] rfl ?_
            exact ih r10.2 b0 b2 (y3 + 1) hZ_b0 hZ_b2 h
          · have h := (if_pos hc13).symm.trans h
            refine ok_iload_n dX11_played_72 4 rfl ?_
            cases h
            exact ok_iret dX11_played_73 hQ
        · have h := (if_pos hc12).symm.trans h
          refine ok_iconst (v := 1) dX11_played_51 (by decide) ?_
          refine ok_goto (t := 65) dX11_played_52 (by decide) ?_
          refine ok_istore (l' := [(5, .int 1), (4, .int r2), (0, .ref b0), (2, .ref b2), (3, .int y3)]) dX11_played_65 (Nat.le_of_ble_eq_true rfl) rfl ?_
          refine ok_iload dX11_played_67 0 rfl ?_
          refine ok_if_ne (t := 74) dX11_played_69 (by decide) (fun hc14 => ?_) (fun hc14 => ?_)
          · have h := (if_neg hc14).symm.trans h
            refine ok_iinc (u := (y3 + 1)) (l' := [(3, .int (y3 + 1)), (5, .int 1), (4, .int r2), (0, .ref b0), (2, .ref b2)]) dX11_played_74 4 rfl rfl (Nat.le_of_ble_eq_true rfl) rfl ?_
            refine ok_goto (t := 15) dX11_played_77 (by decide) ?_
            refine ok_sub [3, 4, 0] rfl ?_
            exact ih r10.2 b0 b2 (y3 + 1) hZ_b0 hZ_b2 h
          · have h := (if_pos hc14).symm.trans h
            refine ok_iload_n dX11_played_72 4 rfl ?_
            cases h
            exact ok_iret dX11_played_73 hQ
def f11_played (n : Nat) (I : (Nat → Nat → Int32)) (O : (Nat → Nat → Option Nat)) (a0 : Nat) (x1 : Int32) : Option (Int32 × (Nat → Nat → Int32)) := (f11_textOf I O a0 x1).bind fun r1 => (match r1 with | none => some (((-2) : Int32), I) | some b3 => f11_played_c15 n O n I a0 b3 (0 : Int32))
set_option maxHeartbeats 4000000 in
set_option maxRecDepth 20000 in
theorem o11_played {g : pG} {Qx : Option Value → pW → Prop} {Z : pZ} {I : (Nat → Nat → Int32)} {L : (Nat → Nat → Int64)} {O : (Nat → Nat → Option Nat)} {n : Nat} {a0 : Nat} {x1 : Int32} {res : Int32 × (Nat → Nat → Int32)} (d : Nat) (hW : WT Z O) (hZ0 : Z[a0]? = some (11, 11)) (h : f11_played n I O a0 x1 = some res) (hQ : Qx (some (.int res.1)) (Z, res.2, L, O)) : Ok g (d + 9, RX11, cX11_played, 6, false, 0, 0, Z.length, pSl Z) Qx 0 [(0, .ref a0), (1, .int x1)] [] (Z, I, L, O) := by
  unfold f11_played at h
  refine ok_aload_n dX11_played_0 0 rfl ?_
  refine ok_iload_n dX11_played_1 1 rfl ?_
  obtain ⟨r1, hr2, h⟩ := bd h
  have hSr1 := t11_textOf hW hZ0 hr2
  refine ok_callV (d := ((d + 6) + 2)) (mt := m11_textOf) (mc := 0) (ms := 0) (As := [.int x1]) (r := []) dX11_played_2 mo11_textOf mv11_textOf lkRX11_145 rfl hZ0 (q := (RX11, TX11, 11)) rfl rfl rfl (Nat.le_of_ble_eq_true rfl) (by show _ + 1 ≤ d + _; omega) (Nat.le_refl _) (Nat.le_refl _) (pRt_mono ?_)
  refine k11_textOf (d + 6) hW hZ0 hr2 ?_
  intro _
  show Ok g _ Qx 5 [(0, .ref a0), (1, .int x1)] [va_rf r1] (Z, I, L, O)
  refine ok_astoreQ_n (l' := [(2, va_rf r1), (0, .ref a0), (1, .int x1)]) dX11_played_5 rfl (Nat.le_of_ble_eq_true rfl) rfl ?_
  refine ok_aloadQ_n dX11_played_6 0 rfl ?_
  refine ok_ifnonnullQ (t := 13) dX11_played_7 (by decide) ?_ ?_
  · intro b3 hs4
    subst hs4
    show Ok g _ Qx 13 [(2, .ref b3), (0, .ref a0), (1, .int x1)] [] (Z, I, L, O)
    refine ok_iconst (v := 0) dX11_played_13 (by decide) ?_
    refine ok_istore_n (l' := [(3, .int 0), (2, .ref b3), (0, .ref a0), (1, .int x1)]) dX11_played_14 rfl (Nat.le_of_ble_eq_true rfl) rfl ?_
    refine ok_sub [2, 1, 0] rfl ?_
    exact o11_played_c15 d hW hQ  n I a0 b3 (0 : Int32) hZ0 (hSr1 b3 rfl) h
  · intro hs4
    subst hs4
    show Ok g _ Qx 10 [(2, .null), (0, .ref a0), (1, .int x1)] [] (Z, I, L, O)
    refine ok_bipush (v := (-2)) dX11_played_10 (by decide) ?_
    cases h
    exact ok_iret dX11_played_12 hQ
theorem k11_played {g : pG} {Q : Option Value → pW → Prop} {Z : pZ} {I : (Nat → Nat → Int32)} {L : (Nat → Nat → Int64)} {O : (Nat → Nat → Option Nat)} {n : Nat} {a0 : Nat} {x1 : Int32} {res : Int32 × (Nat → Nat → Int32)} (d : Nat) (hW : WT Z O) (hZ0 : Z[a0]? = some (11, 11)) (h : f11_played n I O a0 x1 = some res) (hQ : Q (some (.int res.1)) (Z, res.2, L, O)) : CT g (d + 9) m11_played 0 0 [.ref a0, .int x1] (Z, I, L, O) Q :=
  ct_of_ok (mt := m11_played) (ini := false) mo11_played.2.2.2.2 (fun h => by cases h) (Nat.le_of_ble_eq_true rfl) (o11_played d hW hZ0 h ⟨trivial, hQ, rfl, rfl⟩)
theorem dX11_years_0 : decode cX11_years 0 = .ok (.iload_n 1, 1) := by decide +kernel
theorem dX11_years_1 : decode cX11_years 1 = .ok (.ifCond .lt 21, 3) := by decide +kernel
theorem dX11_years_4 : decode cX11_years 4 = .ok (.iload_n 1, 1) := by decide +kernel
theorem dX11_years_5 : decode cX11_years 5 = .ok (.sipush 9999, 3) := by decide +kernel
theorem dX11_years_8 : decode cX11_years 8 = .ok (.if_icmp .gt 14, 3) := by decide +kernel
theorem dX11_years_11 : decode cX11_years 11 = .ok (.iload_n 2, 1) := by decide +kernel
theorem dX11_years_12 : decode cX11_years 12 = .ok (.iconst 1, 1) := by decide +kernel
theorem dX11_years_13 : decode cX11_years 13 = .ok (.if_icmp .lt 9, 3) := by decide +kernel
theorem dX11_years_16 : decode cX11_years 16 = .ok (.iload_n 2, 1) := by decide +kernel
theorem dX11_years_17 : decode cX11_years 17 = .ok (.bipush 40, 2) := by decide +kernel
theorem dX11_years_19 : decode cX11_years 19 = .ok (.if_icmp .le 5, 3) := by decide +kernel
theorem dX11_years_22 : decode cX11_years 22 = .ok (.iconst (-1), 1) := by decide +kernel
theorem dX11_years_23 : decode cX11_years 23 = .ok (.ireturn, 1) := by decide +kernel
theorem dX11_years_24 : decode cX11_years 24 = .ok (.aload_n 0, 1) := by decide +kernel
theorem dX11_years_25 : decode cX11_years 25 = .ok (.getfield 10, 3) := by decide +kernel
theorem dX11_years_28 : decode cX11_years 28 = .ok (.invokevirtual 159, 3) := by decide +kernel
theorem dX11_years_31 : decode cX11_years 31 = .ok (.aload_n 0, 1) := by decide +kernel
theorem dX11_years_32 : decode cX11_years 32 = .ok (.getfield 10, 3) := by decide +kernel
theorem dX11_years_35 : decode cX11_years 35 = .ok (.getfield 79, 3) := by decide +kernel
theorem dX11_years_38 : decode cX11_years 38 = .ok (.getfield 94, 3) := by decide +kernel
theorem dX11_years_41 : decode cX11_years 41 = .ok (.iload_n 1, 1) := by decide +kernel
theorem dX11_years_42 : decode cX11_years 42 = .ok (.iconst 2, 1) := by decide +kernel
theorem dX11_years_43 : decode cX11_years 43 = .ok (.imul, 1) := by decide +kernel
theorem dX11_years_44 : decode cX11_years 44 = .ok (.sipush 269, 3) := by decide +kernel
theorem dX11_years_47 : decode cX11_years 47 = .ok (.iadd, 1) := by decide +kernel
theorem dX11_years_48 : decode cX11_years 48 = .ok (.putfield 205, 3) := by decide +kernel
theorem dX11_years_51 : decode cX11_years 51 = .ok (.iconst 0, 1) := by decide +kernel
theorem dX11_years_52 : decode cX11_years 52 = .ok (.istore_n 3, 1) := by decide +kernel
theorem dX11_years_53 : decode cX11_years 53 = .ok (.iload_n 3, 1) := by decide +kernel
theorem dX11_years_54 : decode cX11_years 54 = .ok (.iload_n 2, 1) := by decide +kernel
theorem dX11_years_55 : decode cX11_years 55 = .ok (.if_icmp .ge 27, 3) := by decide +kernel
theorem dX11_years_58 : decode cX11_years 58 = .ok (.aload_n 0, 1) := by decide +kernel
theorem dX11_years_59 : decode cX11_years 59 = .ok (.getfield 51, 3) := by decide +kernel
theorem dX11_years_62 : decode cX11_years 62 = .ok (.aload_n 0, 1) := by decide +kernel
theorem dX11_years_63 : decode cX11_years 63 = .ok (.getfield 10, 3) := by decide +kernel
theorem dX11_years_66 : decode cX11_years 66 = .ok (.getfield 79, 3) := by decide +kernel
theorem dX11_years_69 : decode cX11_years 69 = .ok (.aload_n 0, 1) := by decide +kernel
theorem dX11_years_70 : decode cX11_years 70 = .ok (.invokevirtual 162, 3) := by decide +kernel
theorem dX11_years_73 : decode cX11_years 73 = .ok (.invokevirtual 208, 3) := by decide +kernel
theorem dX11_years_76 : decode cX11_years 76 = .ok (.iinc 3 1, 3) := by decide +kernel
theorem dX11_years_79 : decode cX11_years 79 = .ok (.goto (-26), 3) := by decide +kernel
theorem dX11_years_82 : decode cX11_years 82 = .ok (.aload_n 0, 1) := by decide +kernel
theorem dX11_years_83 : decode cX11_years 83 = .ok (.getfield 10, 3) := by decide +kernel
theorem dX11_years_86 : decode cX11_years 86 = .ok (.getfield 79, 3) := by decide +kernel
theorem dX11_years_89 : decode cX11_years 89 = .ok (.getfield 94, 3) := by decide +kernel
theorem dX11_years_92 : decode cX11_years 92 = .ok (.getfield 182, 3) := by decide +kernel
theorem dX11_years_95 : decode cX11_years 95 = .ok (.ireturn, 1) := by decide +kernel
def m11_years : pMT := (yX11_years, cX11_years, 4, some .int)
theorem mo11_years : mOK m11_years 2 := ⟨tb_i 882 (by decide +kernel), wi_RX11, ⟨wn_RX11.1, wn_RX11.2, by decide +kernel⟩, by decide, plainFor_of_name wp_RX11⟩
theorem mv11_years : mV m11_years := ⟨tb_i 880 (by decide +kernel), tb_i 881 (by decide +kernel)⟩
def f11_years_c53 (n : Nat) (O : (Nat → Nat → Option Nat)) : Nat → (Nat → Nat → Int32) → Nat → Int32 → Int32 → Option (Int32 × (Nat → Nat → Int32))
  | 0, _, _, _, _ => none
  | m + 1, I, b0, y2, y3 => (if y2 ≤ y3 then some ((I (rO O (rO O (rO O b0 0) 0) 2) 4), I) else (f11_ruling I O b0).bind fun r8 => (f4_passYear n I O (rO O b0 7) (rO O (rO O b0 0) 0) r8).bind fun r10 => f11_years_c53 n O m r10 b0 y2 (y3 + 1))
set_option maxHeartbeats 4000000 in
set_option maxRecDepth 20000 in
theorem o11_years_c53 {g : pG} {Qx : Option Value → pW → Prop} {Z : pZ} {L : (Nat → Nat → Int64)} {O : (Nat → Nat → Option Nat)} {n : Nat} {res : Int32 × (Nat → Nat → Int32)} (d : Nat) (hW : WT Z O) (hQ : Qx (some (.int res.1)) (Z, res.2, L, O)) : ∀ (m : Nat) (I : (Nat → Nat → Int32)) (b0 : Nat) (y2 : Int32) (y3 : Int32), (Z[b0]? = some (11, 11)) → f11_years_c53 n O m I b0 y2 y3 = some res → Ok g (d + 9, RX11, cX11_years, 4, false, 0, 0, Z.length, pSl Z) Qx 53 [(0, .ref b0), (2, .int y2), (3, .int y3)] [] (Z, I, L, O) := by
  intro m
  induction m with
  | zero => intro I b0 y2 y3 hZ_b0 h; rw [f11_years_c53] at h; cases h
  | succ m ih =>
    intro I b0 y2 y3 hZ_b0 h
    rw [f11_years_c53] at h
    refine ok_iload_n dX11_years_53 2 rfl ?_
    refine ok_iload_n dX11_years_54 1 rfl ?_
    refine ok_icmp_ge (t := 82) dX11_years_55 (by decide) (fun hc1 => ?_) (fun hc1 => ?_)
    · have h := (if_pos hc1).symm.trans h
      refine ok_aload_n dX11_years_82 0 rfl ?_
      have hT2 : Z[(rO O b0 0)]? = some (9, 10) := (wt_f (ci := 11) (k := 0) hW hZ_b0 rfl).2
      refine ok_getR (ci := 11) (k := 0) dX11_years_83 flRX11_10 rfl hW hZ_b0 (by decide) ?_
      have hT3 : Z[(rO O (rO O b0 0) 0)]? = some (10, 5) := (wt_f (ci := 9) (k := 0) hW hT2 rfl).2
      refine ok_getR (ci := 9) (k := 0) dX11_years_86 flRX11_79 rfl hW hT2 (by decide) ?_
      have hT4 : Z[(rO O (rO O (rO O b0 0) 0) 2)]? = some (3, 6) := (wt_f (ci := 10) (k := 2) hW hT3 rfl).2
      refine ok_getR (ci := 10) (k := 2) dX11_years_89 flRX11_94 rfl hW hT3 (by decide) ?_
      refine ok_getI (ci := 3) (k := 4) dX11_years_92 flRX11_182 rfl hT4 (by decide) ?_
      cases h
      exact ok_iret dX11_years_95 hQ
    · have h := (if_neg hc1).symm.trans h
      refine ok_aload_n dX11_years_58 0 rfl ?_
      have hT5 : Z[(rO O b0 7)]? = some (4, 1) := (wt_f (ci := 11) (k := 7) hW hZ_b0 rfl).2
      refine ok_getR (ci := 11) (k := 7) dX11_years_59 flRX11_51 rfl hW hZ_b0 (by decide) ?_
      refine ok_aload_n dX11_years_62 0 rfl ?_
      have hT6 : Z[(rO O b0 0)]? = some (9, 10) := (wt_f (ci := 11) (k := 0) hW hZ_b0 rfl).2
      refine ok_getR (ci := 11) (k := 0) dX11_years_63 flRX11_10 rfl hW hZ_b0 (by decide) ?_
      have hT7 : Z[(rO O (rO O b0 0) 0)]? = some (10, 5) := (wt_f (ci := 9) (k := 0) hW hT6 rfl).2
      refine ok_getR (ci := 9) (k := 0) dX11_years_66 flRX11_79 rfl hW hT6 (by decide) ?_
      refine ok_aload_n dX11_years_69 0 rfl ?_
      obtain ⟨r8, hr9, h⟩ := bd h
      have hSr8 := t11_ruling hW hZ_b0 hr9
      refine ok_callV (d := ((d + 5) + 3)) (mt := m11_ruling) (mc := 0) (ms := 0) (As := []) (r := [.ref (rO O (rO O b0 0) 0), .ref (rO O b0 7)]) dX11_years_70 mo11_ruling mv11_ruling lkRX11_162 rfl hZ_b0 (q := (RX11, TX11, 11)) rfl rfl rfl (Nat.le_of_ble_eq_true rfl) (by show _ + 1 ≤ d + _; omega) (Nat.le_refl _) (Nat.le_refl _) (pRt_mono ?_)
      refine k11_ruling (d + 5) hW hZ_b0 hr9 ?_
      intro _
      show Ok g _ Qx 73 [(0, .ref b0), (2, .int y2), (3, .int y3)] [va_rf r8, .ref (rO O (rO O b0 0) 0), .ref (rO O b0 7)] (Z, I, L, O)
      obtain ⟨r10, hr11, h⟩ := bd h
      refine ok_callV (d := ((d + 0) + 8)) (mt := m4_passYear) (mc := 0) (ms := 0) (As := [.ref (rO O (rO O b0 0) 0), va_rf r8]) (r := []) dX11_years_73 mo4_passYear mv4_passYear lkRX11_208 rfl hT5 (q := (RX4, TX4, 1)) rfl rfl rfl (Nat.le_of_ble_eq_true rfl) (by show _ + 1 ≤ d + _; omega) (Nat.le_refl _) (Nat.le_refl _) (pRt_mono ?_)
      refine k4_passYear (d + 0) hW hT5 hT7 hSr8 hr11 ?_
      intro _
      show Ok g _ Qx 76 [(0, .ref b0), (2, .int y2), (3, .int y3)] [] (Z, r10, L, O)
      refine ok_iinc (u := (y3 + 1)) (l' := [(3, .int (y3 + 1)), (0, .ref b0), (2, .int y2)]) dX11_years_76 2 rfl rfl (Nat.le_of_ble_eq_true rfl) rfl ?_
      refine ok_goto (t := 53) dX11_years_79 (by decide) ?_
      refine ok_sub [1, 2, 0] rfl ?_
      exact ih r10 b0 y2 (y3 + 1) hZ_b0 h
def f11_years (n : Nat) (I : (Nat → Nat → Int32)) (O : (Nat → Nat → Option Nat)) (a0 : Nat) (x1 : Int32) (x2 : Int32) : Option (Int32 × (Nat → Nat → Int32)) := (if x1 < 0 then some (((-1) : Int32), I) else (if (9999 : Int32) < x1 then some (((-1) : Int32), I) else (if x2 < (1 : Int32) then some (((-1) : Int32), I) else (if x2 ≤ (40 : Int32) then (f9_keepStep I O (rO O a0 0)).bind fun r6 => bl (sI r6 (rO O (rO O (rO O a0 0) 0) 2) 5 ((x1 * 2) + 269)) fun I10 => f11_years_c53 n O n I10 a0 x2 (0 : Int32) else some (((-1) : Int32), I)))))
set_option maxHeartbeats 4000000 in
set_option maxRecDepth 20000 in
theorem o11_years {g : pG} {Qx : Option Value → pW → Prop} {Z : pZ} {I : (Nat → Nat → Int32)} {L : (Nat → Nat → Int64)} {O : (Nat → Nat → Option Nat)} {n : Nat} {a0 : Nat} {x1 : Int32} {x2 : Int32} {res : Int32 × (Nat → Nat → Int32)} (d : Nat) (hW : WT Z O) (hZ0 : Z[a0]? = some (11, 11)) (h : f11_years n I O a0 x1 x2 = some res) (hQ : Qx (some (.int res.1)) (Z, res.2, L, O)) : Ok g (d + 9, RX11, cX11_years, 4, false, 0, 0, Z.length, pSl Z) Qx 0 [(0, .ref a0), (1, .int x1), (2, .int x2)] [] (Z, I, L, O) := by
  unfold f11_years at h
  refine ok_iload_n dX11_years_0 1 rfl ?_
  refine ok_if_lt (t := 22) dX11_years_1 (by decide) (fun hc1 => ?_) (fun hc1 => ?_)
  · have h := (if_pos hc1).symm.trans h
    refine ok_iconst (v := (-1)) dX11_years_22 (by decide) ?_
    cases h
    exact ok_iret dX11_years_23 hQ
  · have h := (if_neg hc1).symm.trans h
    refine ok_iload_n dX11_years_4 1 rfl ?_
    refine ok_sipush (v := 9999) dX11_years_5 (by decide) ?_
    refine ok_icmp_gt (t := 22) dX11_years_8 (by decide) (fun hc2 => ?_) (fun hc2 => ?_)
    · have h := (if_pos hc2).symm.trans h
      refine ok_iconst (v := (-1)) dX11_years_22 (by decide) ?_
      cases h
      exact ok_iret dX11_years_23 hQ
    · have h := (if_neg hc2).symm.trans h
      refine ok_iload_n dX11_years_11 2 rfl ?_
      refine ok_iconst (v := 1) dX11_years_12 (by decide) ?_
      refine ok_icmp_lt (t := 22) dX11_years_13 (by decide) (fun hc3 => ?_) (fun hc3 => ?_)
      · have h := (if_pos hc3).symm.trans h
        refine ok_iconst (v := (-1)) dX11_years_22 (by decide) ?_
        cases h
        exact ok_iret dX11_years_23 hQ
      · have h := (if_neg hc3).symm.trans h
        refine ok_iload_n dX11_years_16 2 rfl ?_
        refine ok_bipush (v := 40) dX11_years_17 (by decide) ?_
        refine ok_icmp_le (t := 24) dX11_years_19 (by decide) (fun hc4 => ?_) (fun hc4 => ?_)
        · have h := (if_pos hc4).symm.trans h
          refine ok_aload_n dX11_years_24 0 rfl ?_
          have hT5 : Z[(rO O a0 0)]? = some (9, 10) := (wt_f (ci := 11) (k := 0) hW hZ0 rfl).2
          refine ok_getR (ci := 11) (k := 0) dX11_years_25 flRX11_10 rfl hW hZ0 (by decide) ?_
          obtain ⟨r6, hr7, h⟩ := bd h
          refine ok_callV (d := ((d + 3) + 5)) (mt := m9_keepStep) (mc := 0) (ms := 0) (As := []) (r := []) dX11_years_28 mo9_keepStep mv9_keepStep lkRX11_159 rfl hT5 (q := (RX9, TX9, 10)) rfl rfl rfl (Nat.le_of_ble_eq_true rfl) (by show _ + 1 ≤ d + _; omega) (Nat.le_refl _) (Nat.le_refl _) (pRt_mono ?_)
          refine k9_keepStep (d + 3) hW hT5 hr7 ?_
          intro _
          show Ok g _ Qx 31 [(0, .ref a0), (1, .int x1), (2, .int x2)] [] (Z, r6, L, O)
          refine ok_aload_n dX11_years_31 0 rfl ?_
          refine ok_getR (ci := 11) (k := 0) dX11_years_32 flRX11_10 rfl hW hZ0 (by decide) ?_
          have hT8 : Z[(rO O (rO O a0 0) 0)]? = some (10, 5) := (wt_f (ci := 9) (k := 0) hW hT5 rfl).2
          refine ok_getR (ci := 9) (k := 0) dX11_years_35 flRX11_79 rfl hW hT5 (by decide) ?_
          have hT9 : Z[(rO O (rO O (rO O a0 0) 0) 2)]? = some (3, 6) := (wt_f (ci := 10) (k := 2) hW hT8 rfl).2
          refine ok_getR (ci := 10) (k := 2) dX11_years_38 flRX11_94 rfl hW hT8 (by decide) ?_
          refine ok_iload_n dX11_years_41 1 rfl ?_
          refine ok_iconst (v := 2) dX11_years_42 (by decide) ?_
          refine ok_imul dX11_years_43 ?_
          refine ok_sipush (v := 269) dX11_years_44 (by decide) ?_
          refine ok_iadd dX11_years_47 ?_
          obtain ⟨I10, eI10, h⟩ := blE h
          refine ok_putI2 (ci := 3) (k := 5) dX11_years_48 flRX11_205 rfl (Or.inl rfl) hT9 (by decide) eI10 ?_
          refine ok_iconst (v := 0) dX11_years_51 (by decide) ?_
          refine ok_istore_n (l' := [(3, .int 0), (0, .ref a0), (1, .int x1), (2, .int x2)]) dX11_years_52 rfl (Nat.le_of_ble_eq_true rfl) rfl ?_
          refine ok_sub [1, 3, 0] rfl ?_
          exact o11_years_c53 d hW hQ  n I10 a0 x2 (0 : Int32) hZ0 h
        · have h := (if_neg hc4).symm.trans h
          refine ok_iconst (v := (-1)) dX11_years_22 (by decide) ?_
          cases h
          exact ok_iret dX11_years_23 hQ
theorem k11_years {g : pG} {Q : Option Value → pW → Prop} {Z : pZ} {I : (Nat → Nat → Int32)} {L : (Nat → Nat → Int64)} {O : (Nat → Nat → Option Nat)} {n : Nat} {a0 : Nat} {x1 : Int32} {x2 : Int32} {res : Int32 × (Nat → Nat → Int32)} (d : Nat) (hW : WT Z O) (hZ0 : Z[a0]? = some (11, 11)) (h : f11_years n I O a0 x1 x2 = some res) (hQ : Q (some (.int res.1)) (Z, res.2, L, O)) : CT g (d + 9) m11_years 0 0 [.ref a0, .int x1, .int x2] (Z, I, L, O) Q :=
  ct_of_ok (mt := m11_years) (ini := false) mo11_years.2.2.2.2 (fun h => by cases h) (Nat.le_of_ble_eq_true rfl) (o11_years d hW hZ0 h ⟨trivial, hQ, rfl, rfl⟩)
theorem dX11_undo_0 : decode cX11_undo 0 = .ok (.aload_n 0, 1) := by decide +kernel
theorem dX11_undo_1 : decode cX11_undo 1 = .ok (.getfield 10, 3) := by decide +kernel
theorem dX11_undo_4 : decode cX11_undo 4 = .ok (.getfield 103, 3) := by decide +kernel
theorem dX11_undo_7 : decode cX11_undo 7 = .ok (.aload_n 0, 1) := by decide +kernel
theorem dX11_undo_8 : decode cX11_undo 8 = .ok (.getfield 10, 3) := by decide +kernel
theorem dX11_undo_11 : decode cX11_undo 11 = .ok (.getfield 79, 3) := by decide +kernel
theorem dX11_undo_14 : decode cX11_undo 14 = .ok (.getfield 94, 3) := by decide +kernel
theorem dX11_undo_17 : decode cX11_undo 17 = .ok (.invokevirtual 212, 3) := by decide +kernel
theorem dX11_undo_20 : decode cX11_undo 20 = .ok (.ireturn, 1) := by decide +kernel
def m11_undo : pMT := (yX11_undo, cX11_undo, 1, some .int)
theorem mo11_undo : mOK m11_undo 0 := ⟨tb_i 896 (by decide +kernel), wi_RX11, ⟨wn_RX11.1, wn_RX11.2, by decide +kernel⟩, by decide, plainFor_of_name wp_RX11⟩
theorem mv11_undo : mV m11_undo := ⟨tb_i 894 (by decide +kernel), tb_i 895 (by decide +kernel)⟩
def f11_undo (I : (Nat → Nat → Int32)) (O : (Nat → Nat → Option Nat)) (a0 : Nat) : Option (Int32 × (Nat → Nat → Int32)) := (f0_takeBack I O (rO O (rO O a0 0) 1) (rO O (rO O (rO O a0 0) 0) 2)).bind fun r5 => some (r5.1, r5.2)
set_option maxHeartbeats 4000000 in
set_option maxRecDepth 20000 in
theorem o11_undo {g : pG} {Qx : Option Value → pW → Prop} {Z : pZ} {I : (Nat → Nat → Int32)} {L : (Nat → Nat → Int64)} {O : (Nat → Nat → Option Nat)} {a0 : Nat} {res : Int32 × (Nat → Nat → Int32)} (d : Nat) (hW : WT Z O) (hZ0 : Z[a0]? = some (11, 11)) (h : f11_undo I O a0 = some res) (hQ : Qx (some (.int res.1)) (Z, res.2, L, O)) : Ok g (d + 5, RX11, cX11_undo, 1, false, 0, 0, Z.length, pSl Z) Qx 0 [(0, .ref a0)] [] (Z, I, L, O) := by
  unfold f11_undo at h
  refine ok_aload_n dX11_undo_0 0 rfl ?_
  have hT1 : Z[(rO O a0 0)]? = some (9, 10) := (wt_f (ci := 11) (k := 0) hW hZ0 rfl).2
  refine ok_getR (ci := 11) (k := 0) dX11_undo_1 flRX11_10 rfl hW hZ0 (by decide) ?_
  have hT2 : Z[(rO O (rO O a0 0) 1)]? = some (0, 3) := (wt_f (ci := 9) (k := 1) hW hT1 rfl).2
  refine ok_getR (ci := 9) (k := 1) dX11_undo_4 flRX11_103 rfl hW hT1 (by decide) ?_
  refine ok_aload_n dX11_undo_7 0 rfl ?_
  refine ok_getR (ci := 11) (k := 0) dX11_undo_8 flRX11_10 rfl hW hZ0 (by decide) ?_
  have hT3 : Z[(rO O (rO O a0 0) 0)]? = some (10, 5) := (wt_f (ci := 9) (k := 0) hW hT1 rfl).2
  refine ok_getR (ci := 9) (k := 0) dX11_undo_11 flRX11_79 rfl hW hT1 (by decide) ?_
  have hT4 : Z[(rO O (rO O (rO O a0 0) 0) 2)]? = some (3, 6) := (wt_f (ci := 10) (k := 2) hW hT3 rfl).2
  refine ok_getR (ci := 10) (k := 2) dX11_undo_14 flRX11_94 rfl hW hT3 (by decide) ?_
  obtain ⟨r5, hr6, h⟩ := bd h
  refine ok_callV (d := ((d + 0) + 4)) (mt := m0_takeBack) (mc := 0) (ms := 0) (As := [.ref (rO O (rO O (rO O a0 0) 0) 2)]) (r := []) dX11_undo_17 mo0_takeBack mv0_takeBack lkRX11_212 rfl hT2 (q := (RX0, TX0, 3)) rfl rfl rfl (Nat.le_of_ble_eq_true rfl) (by show _ + 1 ≤ d + _; omega) (Nat.le_refl _) (Nat.le_refl _) (pRt_mono ?_)
  refine k0_takeBack (d + 0) hW hT2 hT4 hr6 ?_
  intro _
  show Ok g _ Qx 20 [(0, .ref a0)] [.int r5.1] (Z, r5.2, L, O)
  cases h
  exact ok_iret dX11_undo_20 hQ
theorem k11_undo {g : pG} {Q : Option Value → pW → Prop} {Z : pZ} {I : (Nat → Nat → Int32)} {L : (Nat → Nat → Int64)} {O : (Nat → Nat → Option Nat)} {a0 : Nat} {res : Int32 × (Nat → Nat → Int32)} (d : Nat) (hW : WT Z O) (hZ0 : Z[a0]? = some (11, 11)) (h : f11_undo I O a0 = some res) (hQ : Q (some (.int res.1)) (Z, res.2, L, O)) : CT g (d + 5) m11_undo 0 0 [.ref a0] (Z, I, L, O) Q :=
  ct_of_ok (mt := m11_undo) (ini := false) mo11_undo.2.2.2.2 (fun h => by cases h) (Nat.le_of_ble_eq_true rfl) (o11_undo d hW hZ0 h ⟨trivial, hQ, rfl, rfl⟩)
theorem dX11_of_0 : decode cX11_of 0 = .ok (.aload_n 0, 1) := by decide +kernel
theorem dX11_of_1 : decode cX11_of 1 = .ok (.getfield 10, 3) := by decide +kernel
theorem dX11_of_4 : decode cX11_of 4 = .ok (.getfield 79, 3) := by decide +kernel
theorem dX11_of_7 : decode cX11_of 7 = .ok (.iload_n 1, 1) := by decide +kernel
theorem dX11_of_8 : decode cX11_of 8 = .ok (.invokevirtual 156, 3) := by decide +kernel
theorem dX11_of_11 : decode cX11_of 11 = .ok (.ifCond .ne 5, 3) := by decide +kernel
theorem dX11_of_14 : decode cX11_of 14 = .ok (.iconst (-1), 1) := by decide +kernel
theorem dX11_of_15 : decode cX11_of 15 = .ok (.ireturn, 1) := by decide +kernel
theorem dX11_of_16 : decode cX11_of 16 = .ok (.iload_n 2, 1) := by decide +kernel
theorem dX11_of_17 : decode cX11_of 17 = .ok (.tableswitch 71 0 2 #[27, 47, 59], 27) := by decide +kernel
theorem dX11_of_44 : decode cX11_of 44 = .ok (.aload_n 0, 1) := by decide +kernel
theorem dX11_of_45 : decode cX11_of 45 = .ok (.getfield 65, 3) := by decide +kernel
theorem dX11_of_48 : decode cX11_of 48 = .ok (.aload_n 0, 1) := by decide +kernel
theorem dX11_of_49 : decode cX11_of 49 = .ok (.getfield 10, 3) := by decide +kernel
theorem dX11_of_52 : decode cX11_of 52 = .ok (.getfield 79, 3) := by decide +kernel
theorem dX11_of_55 : decode cX11_of 55 = .ok (.aload_n 0, 1) := by decide +kernel
theorem dX11_of_56 : decode cX11_of 56 = .ok (.invokevirtual 162, 3) := by decide +kernel
theorem dX11_of_59 : decode cX11_of 59 = .ok (.iload_n 1, 1) := by decide +kernel
theorem dX11_of_60 : decode cX11_of 60 = .ok (.invokevirtual 216, 3) := by decide +kernel
theorem dX11_of_63 : decode cX11_of 63 = .ok (.ireturn, 1) := by decide +kernel
theorem dX11_of_64 : decode cX11_of 64 = .ok (.aload_n 0, 1) := by decide +kernel
theorem dX11_of_65 : decode cX11_of 65 = .ok (.getfield 10, 3) := by decide +kernel
theorem dX11_of_68 : decode cX11_of 68 = .ok (.getfield 79, 3) := by decide +kernel
theorem dX11_of_71 : decode cX11_of 71 = .ok (.iload_n 1, 1) := by decide +kernel
theorem dX11_of_72 : decode cX11_of 72 = .ok (.invokevirtual 220, 3) := by decide +kernel
theorem dX11_of_75 : decode cX11_of 75 = .ok (.ireturn, 1) := by decide +kernel
theorem dX11_of_76 : decode cX11_of 76 = .ok (.aload_n 0, 1) := by decide +kernel
theorem dX11_of_77 : decode cX11_of 77 = .ok (.getfield 10, 3) := by decide +kernel
theorem dX11_of_80 : decode cX11_of 80 = .ok (.getfield 79, 3) := by decide +kernel
theorem dX11_of_83 : decode cX11_of 83 = .ok (.iload_n 1, 1) := by decide +kernel
theorem dX11_of_84 : decode cX11_of 84 = .ok (.invokevirtual 223, 3) := by decide +kernel
theorem dX11_of_87 : decode cX11_of 87 = .ok (.ireturn, 1) := by decide +kernel
theorem dX11_of_88 : decode cX11_of 88 = .ok (.iconst (-1), 1) := by decide +kernel
theorem dX11_of_89 : decode cX11_of 89 = .ok (.ireturn, 1) := by decide +kernel
def m11_of : pMT := (yX11_of, cX11_of, 3, some .int)
theorem mo11_of : mOK m11_of 2 := ⟨tb_i 904 (by decide +kernel), wi_RX11, ⟨wn_RX11.1, wn_RX11.2, by decide +kernel⟩, by decide, plainFor_of_name wp_RX11⟩
theorem mv11_of : mV m11_of := ⟨tb_i 902 (by decide +kernel), tb_i 903 (by decide +kernel)⟩
def f11_of (n : Nat) (I : (Nat → Nat → Int32)) (O : (Nat → Nat → Option Nat)) (a0 : Nat) (x1 : Int32) (x2 : Int32) : Option (Int32 × (Nat → Nat → Int32)) := (f10_hasChild I (rO O (rO O a0 0) 0) x1).bind fun r3 => (if r3 = 0 then some (((-1) : Int32), I) else (if x2 = 0 then (f11_ruling I O a0).bind fun r8 => (f6_learntKeys n I O (rO O a0 9) (rO O (rO O a0 0) 0) r8 x1).bind fun r10 => some (r10.1, r10.2) else (if x2 = 1 then (f10_allHeard n I O (rO O (rO O a0 0) 0) x1).bind fun r13 => some (r13, I) else (if x2 = 2 then (f10_mostHeard n I O (rO O (rO O a0 0) 0) x1).bind fun r16 => some (r16, I) else some (((-1) : Int32), I)))))
set_option maxHeartbeats 4000000 in
set_option maxRecDepth 20000 in
theorem o11_of {g : pG} {Qx : Option Value → pW → Prop} {Z : pZ} {I : (Nat → Nat → Int32)} {L : (Nat → Nat → Int64)} {O : (Nat → Nat → Option Nat)} {n : Nat} {a0 : Nat} {x1 : Int32} {x2 : Int32} {res : Int32 × (Nat → Nat → Int32)} (d : Nat) (hW : WT Z O) (hZ0 : Z[a0]? = some (11, 11)) (h : f11_of n I O a0 x1 x2 = some res) (hQ : Qx (some (.int res.1)) (Z, res.2, L, O)) : Ok g (d + 7, RX11, cX11_of, 3, false, 0, 0, Z.length, pSl Z) Qx 0 [(0, .ref a0), (1, .int x1), (2, .int x2)] [] (Z, I, L, O) := by
  unfold f11_of at h
  refine ok_aload_n dX11_of_0 0 rfl ?_
  have hT1 : Z[(rO O a0 0)]? = some (9, 10) := (wt_f (ci := 11) (k := 0) hW hZ0 rfl).2
  refine ok_getR (ci := 11) (k := 0) dX11_of_1 flRX11_10 rfl hW hZ0 (by decide) ?_
  have hT2 : Z[(rO O (rO O a0 0) 0)]? = some (10, 5) := (wt_f (ci := 9) (k := 0) hW hT1 rfl).2
  refine ok_getR (ci := 9) (k := 0) dX11_of_4 flRX11_79 rfl hW hT1 (by decide) ?_
  refine ok_iload_n dX11_of_7 1 rfl ?_
  obtain ⟨r3, hr4, h⟩ := bd h
  refine ok_callV (d := ((d + 4) + 2)) (mt := m10_hasChild) (mc := 0) (ms := 0) (As := [.int x1]) (r := []) dX11_of_8 mo10_hasChild mv10_hasChild lkRX11_156 rfl hT2 (q := (RX10, TX10, 5)) rfl rfl rfl (Nat.le_of_ble_eq_true rfl) (by show _ + 1 ≤ d + _; omega) (Nat.le_refl _) (Nat.le_refl _) (pRt_mono ?_)
  refine k10_hasChild (d + 4) hW hT2 hr4 ?_
  intro hbr3
  show Ok g _ Qx 11 [(0, .ref a0), (1, .int x1), (2, .int x2)] [.int r3] (Z, I, L, O)
  refine ok_if_ne (t := 16) dX11_of_11 (by decide) (fun hc5 => ?_) (fun hc5 => ?_)
  · have h := (if_neg hc5).symm.trans h
    refine ok_iload_n dX11_of_16 2 rfl ?_
    by_cases hc6 : x2 = 0
    · have h := (if_pos hc6).symm.trans h
      refine ok_tabEq (t := 44) (off := 27) dX11_of_17 hc6 (by decide) (by decide) (by decide) (by decide) ?_
      refine ok_aload_n dX11_of_44 0 rfl ?_
      have hT7 : Z[(rO O a0 9)]? = some (6, 5) := (wt_f (ci := 11) (k := 9) hW hZ0 rfl).2
      refine ok_getR (ci := 11) (k := 9) dX11_of_45 flRX11_65 rfl hW hZ0 (by decide) ?_
      refine ok_aload_n dX11_of_48 0 rfl ?_
      refine ok_getR (ci := 11) (k := 0) dX11_of_49 flRX11_10 rfl hW hZ0 (by decide) ?_
      refine ok_getR (ci := 9) (k := 0) dX11_of_52 flRX11_79 rfl hW hT1 (by decide) ?_
      refine ok_aload_n dX11_of_55 0 rfl ?_
      obtain ⟨r8, hr9, h⟩ := bd h
      have hSr8 := t11_ruling hW hZ0 hr9
      refine ok_callV (d := ((d + 3) + 3)) (mt := m11_ruling) (mc := 0) (ms := 0) (As := []) (r := [.ref (rO O (rO O a0 0) 0), .ref (rO O a0 9)]) dX11_of_56 mo11_ruling mv11_ruling lkRX11_162 rfl hZ0 (q := (RX11, TX11, 11)) rfl rfl rfl (Nat.le_of_ble_eq_true rfl) (by show _ + 1 ≤ d + _; omega) (Nat.le_refl _) (Nat.le_refl _) (pRt_mono ?_)
      refine k11_ruling (d + 3) hW hZ0 hr9 ?_
      intro _
      show Ok g _ Qx 59 [(0, .ref a0), (1, .int x1), (2, .int x2)] [va_rf r8, .ref (rO O (rO O a0 0) 0), .ref (rO O a0 9)] (Z, I, L, O)
      refine ok_iload_n dX11_of_59 1 rfl ?_
      obtain ⟨r10, hr11, h⟩ := bd h
      refine ok_callV (d := ((d + 0) + 6)) (mt := m6_learntKeys) (mc := 0) (ms := 0) (As := [.ref (rO O (rO O a0 0) 0), va_rf r8, .int x1]) (r := []) dX11_of_60 mo6_learntKeys mv6_learntKeys lkRX11_216 rfl hT7 (q := (RX6, TX6, 5)) rfl rfl rfl (Nat.le_of_ble_eq_true rfl) (by show _ + 1 ≤ d + _; omega) (Nat.le_refl _) (Nat.le_refl _) (pRt_mono ?_)
      refine k6_learntKeys (d + 0) hW hT7 hT2 hSr8 hr11 ?_
      intro _
      show Ok g _ Qx 63 [(0, .ref a0), (1, .int x1), (2, .int x2)] [.int r10.1] (Z, r10.2, L, O)
      cases h
      exact ok_iret dX11_of_63 hQ
    · have h := (if_neg hc6).symm.trans h
      by_cases hc12 : x2 = 1
      · have h := (if_pos hc12).symm.trans h
        refine ok_tabEq (t := 64) (off := 47) dX11_of_17 hc12 (by decide) (by decide) (by decide) (by decide) ?_
        refine ok_aload_n dX11_of_64 0 rfl ?_
        refine ok_getR (ci := 11) (k := 0) dX11_of_65 flRX11_10 rfl hW hZ0 (by decide) ?_
        refine ok_getR (ci := 9) (k := 0) dX11_of_68 flRX11_79 rfl hW hT1 (by decide) ?_
        refine ok_iload_n dX11_of_71 1 rfl ?_
        obtain ⟨r13, hr14, h⟩ := bd h
        refine ok_callV (d := ((d + 2) + 4)) (mt := m10_allHeard) (mc := 0) (ms := 0) (As := [.int x1]) (r := []) dX11_of_72 mo10_allHeard mv10_allHeard lkRX11_220 rfl hT2 (q := (RX10, TX10, 5)) rfl rfl rfl (Nat.le_of_ble_eq_true rfl) (by show _ + 1 ≤ d + _; omega) (Nat.le_refl _) (Nat.le_refl _) (pRt_mono ?_)
        refine k10_allHeard (d + 2) hW hT2 hr14 ?_
        intro _
        show Ok g _ Qx 75 [(0, .ref a0), (1, .int x1), (2, .int x2)] [.int r13] (Z, I, L, O)
        cases h
        exact ok_iret dX11_of_75 hQ
      · have h := (if_neg hc12).symm.trans h
        by_cases hc15 : x2 = 2
        · have h := (if_pos hc15).symm.trans h
          refine ok_tabEq (t := 76) (off := 59) dX11_of_17 hc15 (by decide) (by decide) (by decide) (by decide) ?_
          refine ok_aload_n dX11_of_76 0 rfl ?_
          refine ok_getR (ci := 11) (k := 0) dX11_of_77 flRX11_10 rfl hW hZ0 (by decide) ?_
          refine ok_getR (ci := 9) (k := 0) dX11_of_80 flRX11_79 rfl hW hT1 (by decide) ?_
          refine ok_iload_n dX11_of_83 1 rfl ?_
          obtain ⟨r16, hr17, h⟩ := bd h
          refine ok_callV (d := ((d + 2) + 4)) (mt := m10_mostHeard) (mc := 0) (ms := 0) (As := [.int x1]) (r := []) dX11_of_84 mo10_mostHeard mv10_mostHeard lkRX11_223 rfl hT2 (q := (RX10, TX10, 5)) rfl rfl rfl (Nat.le_of_ble_eq_true rfl) (by show _ + 1 ≤ d + _; omega) (Nat.le_refl _) (Nat.le_refl _) (pRt_mono ?_)
          refine k10_mostHeard (d + 2) hW hT2 hr17 ?_
          intro _
          show Ok g _ Qx 87 [(0, .ref a0), (1, .int x1), (2, .int x2)] [.int r16] (Z, I, L, O)
          cases h
          exact ok_iret dX11_of_87 hQ
        · have h := (if_neg hc15).symm.trans h
          refine ok_tabOut (t := 88) dX11_of_17 (by have n0 := neI hc6 (a := 0) (by decide); have n1 := neI hc12 (a := 1) (by decide); have n2 := neI hc15 (a := 2) (by decide); omega) (by decide) ?_
          refine ok_iconst (v := (-1)) dX11_of_88 (by decide) ?_
          cases h
          exact ok_iret dX11_of_89 hQ
  · have h := (if_pos hc5).symm.trans h
    refine ok_iconst (v := (-1)) dX11_of_14 (by decide) ?_
    cases h
    exact ok_iret dX11_of_15 hQ
theorem k11_of {g : pG} {Q : Option Value → pW → Prop} {Z : pZ} {I : (Nat → Nat → Int32)} {L : (Nat → Nat → Int64)} {O : (Nat → Nat → Option Nat)} {n : Nat} {a0 : Nat} {x1 : Int32} {x2 : Int32} {res : Int32 × (Nat → Nat → Int32)} (d : Nat) (hW : WT Z O) (hZ0 : Z[a0]? = some (11, 11)) (h : f11_of n I O a0 x1 x2 = some res) (hQ : Q (some (.int res.1)) (Z, res.2, L, O)) : CT g (d + 7) m11_of 0 0 [.ref a0, .int x1, .int x2] (Z, I, L, O) Q :=
  ct_of_ok (mt := m11_of) (ini := false) mo11_of.2.2.2.2 (fun h => by cases h) (Nat.le_of_ble_eq_true rfl) (o11_of d hW hZ0 h ⟨trivial, hQ, rfl, rfl⟩)
theorem dX11_heard_0 : decode cX11_heard 0 = .ok (.aload_n 0, 1) := by decide +kernel
theorem dX11_heard_1 : decode cX11_heard 1 = .ok (.getfield 10, 3) := by decide +kernel
theorem dX11_heard_4 : decode cX11_heard 4 = .ok (.getfield 79, 3) := by decide +kernel
theorem dX11_heard_7 : decode cX11_heard 7 = .ok (.iload_n 1, 1) := by decide +kernel
theorem dX11_heard_8 : decode cX11_heard 8 = .ok (.iload_n 2, 1) := by decide +kernel
theorem dX11_heard_9 : decode cX11_heard 9 = .ok (.invokevirtual 176, 3) := by decide +kernel
theorem dX11_heard_12 : decode cX11_heard 12 = .ok (.ireturn, 1) := by decide +kernel
def m11_heard : pMT := (yX11_heard, cX11_heard, 3, some .int)
theorem mo11_heard : mOK m11_heard 2 := ⟨tb_i 926 (by decide +kernel), wi_RX11, ⟨wn_RX11.1, wn_RX11.2, by decide +kernel⟩, by decide, plainFor_of_name wp_RX11⟩
theorem mv11_heard : mV m11_heard := ⟨tb_i 924 (by decide +kernel), tb_i 925 (by decide +kernel)⟩
def f11_heard (I : (Nat → Nat → Int32)) (O : (Nat → Nat → Option Nat)) (a0 : Nat) (x1 : Int32) (x2 : Int32) : Option (Int32) := (f10_heardBy I O (rO O (rO O a0 0) 0) x1 x2).bind fun r3 => some (r3)
set_option maxHeartbeats 4000000 in
set_option maxRecDepth 20000 in
theorem o11_heard {g : pG} {Qx : Option Value → pW → Prop} {Z : pZ} {I : (Nat → Nat → Int32)} {L : (Nat → Nat → Int64)} {O : (Nat → Nat → Option Nat)} {a0 : Nat} {x1 : Int32} {x2 : Int32} {res : Int32} (d : Nat) (hW : WT Z O) (hZ0 : Z[a0]? = some (11, 11)) (h : f11_heard I O a0 x1 x2 = some res) (hQ : Qx (some (.int res)) (Z, I, L, O)) : Ok g (d + 4, RX11, cX11_heard, 3, false, 0, 0, Z.length, pSl Z) Qx 0 [(0, .ref a0), (1, .int x1), (2, .int x2)] [] (Z, I, L, O) := by
  unfold f11_heard at h
  refine ok_aload_n dX11_heard_0 0 rfl ?_
  have hT1 : Z[(rO O a0 0)]? = some (9, 10) := (wt_f (ci := 11) (k := 0) hW hZ0 rfl).2
  refine ok_getR (ci := 11) (k := 0) dX11_heard_1 flRX11_10 rfl hW hZ0 (by decide) ?_
  have hT2 : Z[(rO O (rO O a0 0) 0)]? = some (10, 5) := (wt_f (ci := 9) (k := 0) hW hT1 rfl).2
  refine ok_getR (ci := 9) (k := 0) dX11_heard_4 flRX11_79 rfl hW hT1 (by decide) ?_
  refine ok_iload_n dX11_heard_7 1 rfl ?_
  refine ok_iload_n dX11_heard_8 2 rfl ?_
  obtain ⟨r3, hr4, h⟩ := bd h
  refine ok_callV (d := ((d + 0) + 3)) (mt := m10_heardBy) (mc := 0) (ms := 0) (As := [.int x1, .int x2]) (r := []) dX11_heard_9 mo10_heardBy mv10_heardBy lkRX11_176 rfl hT2 (q := (RX10, TX10, 5)) rfl rfl rfl (Nat.le_of_ble_eq_true rfl) (by show _ + 1 ≤ d + _; omega) (Nat.le_refl _) (Nat.le_refl _) (pRt_mono ?_)
  refine k10_heardBy (d + 0) hW hT2 hr4 ?_
  intro _
  show Ok g _ Qx 12 [(0, .ref a0), (1, .int x1), (2, .int x2)] [.int r3] (Z, I, L, O)
  cases h
  exact ok_iret dX11_heard_12 hQ
theorem k11_heard {g : pG} {Q : Option Value → pW → Prop} {Z : pZ} {I : (Nat → Nat → Int32)} {L : (Nat → Nat → Int64)} {O : (Nat → Nat → Option Nat)} {a0 : Nat} {x1 : Int32} {x2 : Int32} {res : Int32} (d : Nat) (hW : WT Z O) (hZ0 : Z[a0]? = some (11, 11)) (h : f11_heard I O a0 x1 x2 = some res) (hQ : Q (some (.int res)) (Z, I, L, O)) : CT g (d + 4) m11_heard 0 0 [.ref a0, .int x1, .int x2] (Z, I, L, O) Q :=
  ct_of_ok (mt := m11_heard) (ini := false) mo11_heard.2.2.2.2 (fun h => by cases h) (Nat.le_of_ble_eq_true rfl) (o11_heard d hW hZ0 h ⟨trivial, hQ, rfl, rfl⟩)
theorem dX11_ofRoll_0 : decode cX11_ofRoll 0 = .ok (.aload_n 0, 1) := by decide +kernel
theorem dX11_ofRoll_1 : decode cX11_ofRoll 1 = .ok (.getfield 10, 3) := by decide +kernel
theorem dX11_ofRoll_4 : decode cX11_ofRoll 4 = .ok (.getfield 79, 3) := by decide +kernel
theorem dX11_ofRoll_7 : decode cX11_ofRoll 7 = .ok (.iload_n 1, 1) := by decide +kernel
theorem dX11_ofRoll_8 : decode cX11_ofRoll 8 = .ok (.invokevirtual 152, 3) := by decide +kernel
theorem dX11_ofRoll_11 : decode cX11_ofRoll 11 = .ok (.ifCond .ne 5, 3) := by decide +kernel
theorem dX11_ofRoll_14 : decode cX11_ofRoll 14 = .ok (.iconst (-1), 1) := by decide +kernel
theorem dX11_ofRoll_15 : decode cX11_ofRoll 15 = .ok (.ireturn, 1) := by decide +kernel
theorem dX11_ofRoll_16 : decode cX11_ofRoll 16 = .ok (.iload_n 2, 1) := by decide +kernel
theorem dX11_ofRoll_17 : decode cX11_ofRoll 17 = .ok (.tableswitch 103 0 4 #[35, 47, 59, 71, 83], 35) := by decide +kernel
theorem dX11_ofRoll_52 : decode cX11_ofRoll 52 = .ok (.aload_n 0, 1) := by decide +kernel
theorem dX11_ofRoll_53 : decode cX11_ofRoll 53 = .ok (.getfield 10, 3) := by decide +kernel
theorem dX11_ofRoll_56 : decode cX11_ofRoll 56 = .ok (.getfield 79, 3) := by decide +kernel
theorem dX11_ofRoll_59 : decode cX11_ofRoll 59 = .ok (.iload_n 1, 1) := by decide +kernel
theorem dX11_ofRoll_60 : decode cX11_ofRoll 60 = .ok (.invokevirtual 226, 3) := by decide +kernel
theorem dX11_ofRoll_63 : decode cX11_ofRoll 63 = .ok (.ireturn, 1) := by decide +kernel
theorem dX11_ofRoll_64 : decode cX11_ofRoll 64 = .ok (.aload_n 0, 1) := by decide +kernel
theorem dX11_ofRoll_65 : decode cX11_ofRoll 65 = .ok (.getfield 10, 3) := by decide +kernel
theorem dX11_ofRoll_68 : decode cX11_ofRoll 68 = .ok (.getfield 79, 3) := by decide +kernel
theorem dX11_ofRoll_71 : decode cX11_ofRoll 71 = .ok (.iload_n 1, 1) := by decide +kernel
theorem dX11_ofRoll_72 : decode cX11_ofRoll 72 = .ok (.invokevirtual 228, 3) := by decide +kernel
theorem dX11_ofRoll_75 : decode cX11_ofRoll 75 = .ok (.ireturn, 1) := by decide +kernel
theorem dX11_ofRoll_76 : decode cX11_ofRoll 76 = .ok (.aload_n 0, 1) := by decide +kernel
theorem dX11_ofRoll_77 : decode cX11_ofRoll 77 = .ok (.getfield 10, 3) := by decide +kernel
theorem dX11_ofRoll_80 : decode cX11_ofRoll 80 = .ok (.getfield 79, 3) := by decide +kernel
theorem dX11_ofRoll_83 : decode cX11_ofRoll 83 = .ok (.iload_n 1, 1) := by decide +kernel
theorem dX11_ofRoll_84 : decode cX11_ofRoll 84 = .ok (.invokevirtual 231, 3) := by decide +kernel
theorem dX11_ofRoll_87 : decode cX11_ofRoll 87 = .ok (.ireturn, 1) := by decide +kernel
theorem dX11_ofRoll_88 : decode cX11_ofRoll 88 = .ok (.aload_n 0, 1) := by decide +kernel
theorem dX11_ofRoll_89 : decode cX11_ofRoll 89 = .ok (.getfield 10, 3) := by decide +kernel
theorem dX11_ofRoll_92 : decode cX11_ofRoll 92 = .ok (.getfield 79, 3) := by decide +kernel
theorem dX11_ofRoll_95 : decode cX11_ofRoll 95 = .ok (.iload_n 1, 1) := by decide +kernel
theorem dX11_ofRoll_96 : decode cX11_ofRoll 96 = .ok (.invokevirtual 234, 3) := by decide +kernel
theorem dX11_ofRoll_99 : decode cX11_ofRoll 99 = .ok (.ireturn, 1) := by decide +kernel
theorem dX11_ofRoll_100 : decode cX11_ofRoll 100 = .ok (.aload_n 0, 1) := by decide +kernel
theorem dX11_ofRoll_101 : decode cX11_ofRoll 101 = .ok (.getfield 51, 3) := by decide +kernel
theorem dX11_ofRoll_104 : decode cX11_ofRoll 104 = .ok (.aload_n 0, 1) := by decide +kernel
theorem dX11_ofRoll_105 : decode cX11_ofRoll 105 = .ok (.getfield 10, 3) := by decide +kernel
theorem dX11_ofRoll_108 : decode cX11_ofRoll 108 = .ok (.getfield 79, 3) := by decide +kernel
theorem dX11_ofRoll_111 : decode cX11_ofRoll 111 = .ok (.aload_n 0, 1) := by decide +kernel
theorem dX11_ofRoll_112 : decode cX11_ofRoll 112 = .ok (.invokevirtual 162, 3) := by decide +kernel
theorem dX11_ofRoll_115 : decode cX11_ofRoll 115 = .ok (.iload_n 1, 1) := by decide +kernel
theorem dX11_ofRoll_116 : decode cX11_ofRoll 116 = .ok (.invokevirtual 237, 3) := by decide +kernel
theorem dX11_ofRoll_119 : decode cX11_ofRoll 119 = .ok (.ireturn, 1) := by decide +kernel
theorem dX11_ofRoll_120 : decode cX11_ofRoll 120 = .ok (.iconst (-1), 1) := by decide +kernel
theorem dX11_ofRoll_121 : decode cX11_ofRoll 121 = .ok (.ireturn, 1) := by decide +kernel
def m11_ofRoll : pMT := (yX11_ofRoll, cX11_ofRoll, 3, some .int)
theorem mo11_ofRoll : mOK m11_ofRoll 2 := ⟨tb_i 930 (by decide +kernel), wi_RX11, ⟨wn_RX11.1, wn_RX11.2, by decide +kernel⟩, by decide, plainFor_of_name wp_RX11⟩
theorem mv11_ofRoll : mV m11_ofRoll := ⟨tb_i 928 (by decide +kernel), tb_i 929 (by decide +kernel)⟩
def f11_ofRoll (n : Nat) (I : (Nat → Nat → Int32)) (O : (Nat → Nat → Option Nat)) (a0 : Nat) (x1 : Int32) (x2 : Int32) : Option (Int32 × (Nat → Nat → Int32)) := (f10_hasRoll I (rO O (rO O a0 0) 0) x1).bind fun r3 => (if r3 = 0 then some (((-1) : Int32), I) else (if x2 = 0 then (f10_size I O (rO O (rO O a0 0) 0) x1).bind fun r7 => some (r7, I) else (if x2 = 1 then (f10_holes n I O (rO O (rO O a0 0) 0) x1).bind fun r10 => some (r10, I) else (if x2 = 2 then (f10_tornPlaces n I O (rO O (rO O a0 0) 0) x1).bind fun r13 => some (r13, I) else (if x2 = 3 then (f10_keysIn n I O (rO O (rO O a0 0) 0) x1).bind fun r16 => some (r16, I) else (if x2 = 4 then (f11_ruling I O a0).bind fun r20 => (f4_playingsToTear n I O (rO O a0 7) (rO O (rO O a0 0) 0) r20 x1).bind fun r22 => some (r22.1, r22.2) else some (((-1) : Int32), I)))))))
set_option maxHeartbeats 4000000 in
set_option maxRecDepth 20000 in
theorem o11_ofRoll {g : pG} {Qx : Option Value → pW → Prop} {Z : pZ} {I : (Nat → Nat → Int32)} {L : (Nat → Nat → Int64)} {O : (Nat → Nat → Option Nat)} {n : Nat} {a0 : Nat} {x1 : Int32} {x2 : Int32} {res : Int32 × (Nat → Nat → Int32)} (d : Nat) (hW : WT Z O) (hZ0 : Z[a0]? = some (11, 11)) (h : f11_ofRoll n I O a0 x1 x2 = some res) (hQ : Qx (some (.int res.1)) (Z, res.2, L, O)) : Ok g (d + 8, RX11, cX11_ofRoll, 3, false, 0, 0, Z.length, pSl Z) Qx 0 [(0, .ref a0), (1, .int x1), (2, .int x2)] [] (Z, I, L, O) := by
  unfold f11_ofRoll at h
  refine ok_aload_n dX11_ofRoll_0 0 rfl ?_
  have hT1 : Z[(rO O a0 0)]? = some (9, 10) := (wt_f (ci := 11) (k := 0) hW hZ0 rfl).2
  refine ok_getR (ci := 11) (k := 0) dX11_ofRoll_1 flRX11_10 rfl hW hZ0 (by decide) ?_
  have hT2 : Z[(rO O (rO O a0 0) 0)]? = some (10, 5) := (wt_f (ci := 9) (k := 0) hW hT1 rfl).2
  refine ok_getR (ci := 9) (k := 0) dX11_ofRoll_4 flRX11_79 rfl hW hT1 (by decide) ?_
  refine ok_iload_n dX11_ofRoll_7 1 rfl ?_
  obtain ⟨r3, hr4, h⟩ := bd h
  refine ok_callV (d := ((d + 5) + 2)) (mt := m10_hasRoll) (mc := 0) (ms := 0) (As := [.int x1]) (r := []) dX11_ofRoll_8 mo10_hasRoll mv10_hasRoll lkRX11_152 rfl hT2 (q := (RX10, TX10, 5)) rfl rfl rfl (Nat.le_of_ble_eq_true rfl) (by show _ + 1 ≤ d + _; omega) (Nat.le_refl _) (Nat.le_refl _) (pRt_mono ?_)
  refine k10_hasRoll (d + 5) hW hT2 hr4 ?_
  intro hbr3
  show Ok g _ Qx 11 [(0, .ref a0), (1, .int x1), (2, .int x2)] [.int r3] (Z, I, L, O)
  refine ok_if_ne (t := 16) dX11_ofRoll_11 (by decide) (fun hc5 => ?_) (fun hc5 => ?_)
  · have h := (if_neg hc5).symm.trans h
    refine ok_iload_n dX11_ofRoll_16 2 rfl ?_
    by_cases hc6 : x2 = 0
    · have h := (if_pos hc6).symm.trans h
      refine ok_tabEq (t := 52) (off := 35) dX11_ofRoll_17 hc6 (by decide) (by decide) (by decide) (by decide) ?_
      refine ok_aload_n dX11_ofRoll_52 0 rfl ?_
      refine ok_getR (ci := 11) (k := 0) dX11_ofRoll_53 flRX11_10 rfl hW hZ0 (by decide) ?_
      refine ok_getR (ci := 9) (k := 0) dX11_ofRoll_56 flRX11_79 rfl hW hT1 (by decide) ?_
      refine ok_iload_n dX11_ofRoll_59 1 rfl ?_
      obtain ⟨r7, hr8, h⟩ := bd h
      refine ok_callV (d := ((d + 4) + 3)) (mt := m10_size) (mc := 0) (ms := 0) (As := [.int x1]) (r := []) dX11_ofRoll_60 mo10_size mv10_size lkRX11_226 rfl hT2 (q := (RX10, TX10, 5)) rfl rfl rfl (Nat.le_of_ble_eq_true rfl) (by show _ + 1 ≤ d + _; omega) (Nat.le_refl _) (Nat.le_refl _) (pRt_mono ?_)
      refine k10_size (d + 4) hW hT2 hr8 ?_
      intro _
      show Ok g _ Qx 63 [(0, .ref a0), (1, .int x1), (2, .int x2)] [.int r7] (Z, I, L, O)
      cases h
      exact ok_iret dX11_ofRoll_63 hQ
    · have h := (if_neg hc6).symm.trans h
      by_cases hc9 : x2 = 1
      · have h := (if_pos hc9).symm.trans h
        refine ok_tabEq (t := 64) (off := 47) dX11_ofRoll_17 hc9 (by decide) (by decide) (by decide) (by decide) ?_
        refine ok_aload_n dX11_ofRoll_64 0 rfl ?_
        refine ok_getR (ci := 11) (k := 0) dX11_ofRoll_65 flRX11_10 rfl hW hZ0 (by decide) ?_
        refine ok_getR (ci := 9) (k := 0) dX11_ofRoll_68 flRX11_79 rfl hW hT1 (by decide) ?_
        refine ok_iload_n dX11_ofRoll_71 1 rfl ?_
        obtain ⟨r10, hr11, h⟩ := bd h
        refine ok_callV (d := ((d + 5) + 2)) (mt := m10_holes) (mc := 0) (ms := 0) (As := [.int x1]) (r := []) dX11_ofRoll_72 mo10_holes mv10_holes lkRX11_228 rfl hT2 (q := (RX10, TX10, 5)) rfl rfl rfl (Nat.le_of_ble_eq_true rfl) (by show _ + 1 ≤ d + _; omega) (Nat.le_refl _) (Nat.le_refl _) (pRt_mono ?_)
        refine k10_holes (d + 5) hW hT2 hr11 ?_
        intro _
        show Ok g _ Qx 75 [(0, .ref a0), (1, .int x1), (2, .int x2)] [.int r10] (Z, I, L, O)
        cases h
        exact ok_iret dX11_ofRoll_75 hQ
      · have h := (if_neg hc9).symm.trans h
        by_cases hc12 : x2 = 2
        · have h := (if_pos hc12).symm.trans h
          refine ok_tabEq (t := 76) (off := 59) dX11_ofRoll_17 hc12 (by decide) (by decide) (by decide) (by decide) ?_
          refine ok_aload_n dX11_ofRoll_76 0 rfl ?_
          refine ok_getR (ci := 11) (k := 0) dX11_ofRoll_77 flRX11_10 rfl hW hZ0 (by decide) ?_
          refine ok_getR (ci := 9) (k := 0) dX11_ofRoll_80 flRX11_79 rfl hW hT1 (by decide) ?_
          refine ok_iload_n dX11_ofRoll_83 1 rfl ?_
          obtain ⟨r13, hr14, h⟩ := bd h
          refine ok_callV (d := ((d + 3) + 4)) (mt := m10_tornPlaces) (mc := 0) (ms := 0) (As := [.int x1]) (r := []) dX11_ofRoll_84 mo10_tornPlaces mv10_tornPlaces lkRX11_231 rfl hT2 (q := (RX10, TX10, 5)) rfl rfl rfl (Nat.le_of_ble_eq_true rfl) (by show _ + 1 ≤ d + _; omega) (Nat.le_refl _) (Nat.le_refl _) (pRt_mono ?_)
          refine k10_tornPlaces (d + 3) hW hT2 hr14 ?_
          intro _
          show Ok g _ Qx 87 [(0, .ref a0), (1, .int x1), (2, .int x2)] [.int r13] (Z, I, L, O)
          cases h
          exact ok_iret dX11_ofRoll_87 hQ
        · have h := (if_neg hc12).symm.trans h
          by_cases hc15 : x2 = 3
          · have h := (if_pos hc15).symm.trans h
            refine ok_tabEq (t := 88) (off := 71) dX11_ofRoll_17 hc15 (by decide) (by decide) (by decide) (by decide) ?_
            refine ok_aload_n dX11_ofRoll_88 0 rfl ?_
            refine ok_getR (ci := 11) (k := 0) dX11_ofRoll_89 flRX11_10 rfl hW hZ0 (by decide) ?_
            refine ok_getR (ci := 9) (k := 0) dX11_ofRoll_92 flRX11_79 rfl hW hT1 (by decide) ?_
            refine ok_iload_n dX11_ofRoll_95 1 rfl ?_
            obtain ⟨r16, hr17, h⟩ := bd h
            refine ok_callV (d := ((d + 3) + 4)) (mt := m10_keysIn) (mc := 0) (ms := 0) (As := [.int x1]) (r := []) dX11_ofRoll_96 mo10_keysIn mv10_keysIn lkRX11_234 rfl hT2 (q := (RX10, TX10, 5)) rfl rfl rfl (Nat.le_of_ble_eq_true rfl) (by show _ + 1 ≤ d + _; omega) (Nat.le_refl _) (Nat.le_refl _) (pRt_mono ?_)
            refine k10_keysIn (d + 3) hW hT2 hr17 ?_
            intro _
            show Ok g _ Qx 99 [(0, .ref a0), (1, .int x1), (2, .int x2)] [.int r16] (Z, I, L, O)
            cases h
            exact ok_iret dX11_ofRoll_99 hQ
          · have h := (if_neg hc15).symm.trans h
            by_cases hc18 : x2 = 4
            · have h := (if_pos hc18).symm.trans h
              refine ok_tabEq (t := 100) (off := 83) dX11_ofRoll_17 hc18 (by decide) (by decide) (by decide) (by decide) ?_
              refine ok_aload_n dX11_ofRoll_100 0 rfl ?_
              have hT19 : Z[(rO O a0 7)]? = some (4, 1) := (wt_f (ci := 11) (k := 7) hW hZ0 rfl).2
              refine ok_getR (ci := 11) (k := 7) dX11_ofRoll_101 flRX11_51 rfl hW hZ0 (by decide) ?_
              refine ok_aload_n dX11_ofRoll_104 0 rfl ?_
              refine ok_getR (ci := 11) (k := 0) dX11_ofRoll_105 flRX11_10 rfl hW hZ0 (by decide) ?_
              refine ok_getR (ci := 9) (k := 0) dX11_ofRoll_108 flRX11_79 rfl hW hT1 (by decide) ?_
              refine ok_aload_n dX11_ofRoll_111 0 rfl ?_
              obtain ⟨r20, hr21, h⟩ := bd h
              have hSr20 := t11_ruling hW hZ0 hr21
              refine ok_callV (d := ((d + 4) + 3)) (mt := m11_ruling) (mc := 0) (ms := 0) (As := []) (r := [.ref (rO O (rO O a0 0) 0), .ref (rO O a0 7)]) dX11_ofRoll_112 mo11_ruling mv11_ruling lkRX11_162 rfl hZ0 (q := (RX11, TX11, 11)) rfl rfl rfl (Nat.le_of_ble_eq_true rfl) (by show _ + 1 ≤ d + _; omega) (Nat.le_refl _) (Nat.le_refl _) (pRt_mono ?_)
              refine k11_ruling (d + 4) hW hZ0 hr21 ?_
              intro _
              show Ok g _ Qx 115 [(0, .ref a0), (1, .int x1), (2, .int x2)] [va_rf r20, .ref (rO O (rO O a0 0) 0), .ref (rO O a0 7)] (Z, I, L, O)
              refine ok_iload_n dX11_ofRoll_115 1 rfl ?_
              obtain ⟨r22, hr23, h⟩ := bd h
              refine ok_callV (d := ((d + 0) + 7)) (mt := m4_playingsToTear) (mc := 0) (ms := 0) (As := [.ref (rO O (rO O a0 0) 0), va_rf r20, .int x1]) (r := []) dX11_ofRoll_116 mo4_playingsToTear mv4_playingsToTear lkRX11_237 rfl hT19 (q := (RX4, TX4, 1)) rfl rfl rfl (Nat.le_of_ble_eq_true rfl) (by show _ + 1 ≤ d + _; omega) (Nat.le_refl _) (Nat.le_refl _) (pRt_mono ?_)
              refine k4_playingsToTear (d + 0) hW hT19 hT2 hSr20 hr23 ?_
              intro _
              show Ok g _ Qx 119 [(0, .ref a0), (1, .int x1), (2, .int x2)] [.int r22.1] (Z, r22.2, L, O)
              cases h
              exact ok_iret dX11_ofRoll_119 hQ
            · have h := (if_neg hc18).symm.trans h
              refine ok_tabOut (t := 120) dX11_ofRoll_17 (by have n0 := neI hc6 (a := 0) (by decide); have n1 := neI hc9 (a := 1) (by decide); have n2 := neI hc12 (a := 2) (by decide); have n3 := neI hc15 (a := 3) (by decide); have n4 := neI hc18 (a := 4) (by decide); omega) (by decide) ?_
              refine ok_iconst (v := (-1)) dX11_ofRoll_120 (by decide) ?_
              cases h
              exact ok_iret dX11_ofRoll_121 hQ
  · have h := (if_pos hc5).symm.trans h
    refine ok_iconst (v := (-1)) dX11_ofRoll_14 (by decide) ?_
    cases h
    exact ok_iret dX11_ofRoll_15 hQ
theorem k11_ofRoll {g : pG} {Q : Option Value → pW → Prop} {Z : pZ} {I : (Nat → Nat → Int32)} {L : (Nat → Nat → Int64)} {O : (Nat → Nat → Option Nat)} {n : Nat} {a0 : Nat} {x1 : Int32} {x2 : Int32} {res : Int32 × (Nat → Nat → Int32)} (d : Nat) (hW : WT Z O) (hZ0 : Z[a0]? = some (11, 11)) (h : f11_ofRoll n I O a0 x1 x2 = some res) (hQ : Q (some (.int res.1)) (Z, res.2, L, O)) : CT g (d + 8) m11_ofRoll 0 0 [.ref a0, .int x1, .int x2] (Z, I, L, O) Q :=
  ct_of_ok (mt := m11_ofRoll) (ini := false) mo11_ofRoll.2.2.2.2 (fun h => by cases h) (Nat.le_of_ble_eq_true rfl) (o11_ofRoll d hW hZ0 h ⟨trivial, hQ, rfl, rfl⟩)
theorem dX11_at_0 : decode cX11_at 0 = .ok (.aload_n 0, 1) := by decide +kernel
theorem dX11_at_1 : decode cX11_at 1 = .ok (.getfield 10, 3) := by decide +kernel
theorem dX11_at_4 : decode cX11_at 4 = .ok (.getfield 79, 3) := by decide +kernel
theorem dX11_at_7 : decode cX11_at 7 = .ok (.iload_n 1, 1) := by decide +kernel
theorem dX11_at_8 : decode cX11_at 8 = .ok (.iload_n 2, 1) := by decide +kernel
theorem dX11_at_9 : decode cX11_at 9 = .ok (.invokevirtual 86, 3) := by decide +kernel
theorem dX11_at_12 : decode cX11_at 12 = .ok (.ifCond .ne 5, 3) := by decide +kernel
theorem dX11_at_15 : decode cX11_at 15 = .ok (.iconst (-1), 1) := by decide +kernel
theorem dX11_at_16 : decode cX11_at 16 = .ok (.ireturn, 1) := by decide +kernel
theorem dX11_at_17 : decode cX11_at 17 = .ok (.iload_n 3, 1) := by decide +kernel
theorem dX11_at_18 : decode cX11_at 18 = .ok (.tableswitch 85 0 2 #[26, 39, 52], 26) := by decide +kernel
theorem dX11_at_44 : decode cX11_at 44 = .ok (.aload_n 0, 1) := by decide +kernel
theorem dX11_at_45 : decode cX11_at 45 = .ok (.getfield 10, 3) := by decide +kernel
theorem dX11_at_48 : decode cX11_at 48 = .ok (.getfield 79, 3) := by decide +kernel
theorem dX11_at_51 : decode cX11_at 51 = .ok (.iload_n 1, 1) := by decide +kernel
theorem dX11_at_52 : decode cX11_at 52 = .ok (.iload_n 2, 1) := by decide +kernel
theorem dX11_at_53 : decode cX11_at 53 = .ok (.invokevirtual 240, 3) := by decide +kernel
theorem dX11_at_56 : decode cX11_at 56 = .ok (.ireturn, 1) := by decide +kernel
theorem dX11_at_57 : decode cX11_at 57 = .ok (.aload_n 0, 1) := by decide +kernel
theorem dX11_at_58 : decode cX11_at 58 = .ok (.getfield 10, 3) := by decide +kernel
theorem dX11_at_61 : decode cX11_at 61 = .ok (.getfield 79, 3) := by decide +kernel
theorem dX11_at_64 : decode cX11_at 64 = .ok (.iload_n 1, 1) := by decide +kernel
theorem dX11_at_65 : decode cX11_at 65 = .ok (.iload_n 2, 1) := by decide +kernel
theorem dX11_at_66 : decode cX11_at 66 = .ok (.invokevirtual 169, 3) := by decide +kernel
theorem dX11_at_69 : decode cX11_at 69 = .ok (.ireturn, 1) := by decide +kernel
theorem dX11_at_70 : decode cX11_at 70 = .ok (.aload_n 0, 1) := by decide +kernel
theorem dX11_at_71 : decode cX11_at 71 = .ok (.getfield 42, 3) := by decide +kernel
theorem dX11_at_74 : decode cX11_at 74 = .ok (.aload_n 0, 1) := by decide +kernel
theorem dX11_at_75 : decode cX11_at 75 = .ok (.invokevirtual 162, 3) := by decide +kernel
theorem dX11_at_78 : decode cX11_at 78 = .ok (.aload_n 0, 1) := by decide +kernel
theorem dX11_at_79 : decode cX11_at 79 = .ok (.getfield 10, 3) := by decide +kernel
theorem dX11_at_82 : decode cX11_at 82 = .ok (.getfield 79, 3) := by decide +kernel
theorem dX11_at_85 : decode cX11_at 85 = .ok (.iload_n 1, 1) := by decide +kernel
theorem dX11_at_86 : decode cX11_at 86 = .ok (.iload_n 2, 1) := by decide +kernel
theorem dX11_at_87 : decode cX11_at 87 = .ok (.aload_n 0, 1) := by decide +kernel
theorem dX11_at_88 : decode cX11_at 88 = .ok (.getfield 10, 3) := by decide +kernel
theorem dX11_at_91 : decode cX11_at 91 = .ok (.getfield 79, 3) := by decide +kernel
theorem dX11_at_94 : decode cX11_at 94 = .ok (.iload_n 1, 1) := by decide +kernel
theorem dX11_at_95 : decode cX11_at 95 = .ok (.iload_n 2, 1) := by decide +kernel
theorem dX11_at_96 : decode cX11_at 96 = .ok (.invokevirtual 169, 3) := by decide +kernel
theorem dX11_at_99 : decode cX11_at 99 = .ok (.invokevirtual 243, 3) := by decide +kernel
theorem dX11_at_102 : decode cX11_at 102 = .ok (.ireturn, 1) := by decide +kernel
theorem dX11_at_103 : decode cX11_at 103 = .ok (.iconst (-1), 1) := by decide +kernel
theorem dX11_at_104 : decode cX11_at 104 = .ok (.ireturn, 1) := by decide +kernel
def m11_at : pMT := (yX11_at, cX11_at, 4, some .int)
theorem mo11_at : mOK m11_at 3 := ⟨tb_i 959 (by decide +kernel), wi_RX11, ⟨wn_RX11.1, wn_RX11.2, by decide +kernel⟩, by decide, plainFor_of_name wp_RX11⟩
theorem mv11_at : mV m11_at := ⟨tb_i 957 (by decide +kernel), tb_i 958 (by decide +kernel)⟩
def f11_at (n : Nat) (I : (Nat → Nat → Int32)) (O : (Nat → Nat → Option Nat)) (a0 : Nat) (x1 : Int32) (x2 : Int32) (x3 : Int32) : Option (Int32 × (Nat → Nat → Int32)) := (f10_hasPlace I O (rO O (rO O a0 0) 0) x1 x2).bind fun r3 => (if r3 = 0 then some (((-1) : Int32), I) else (if x3 = 0 then (f10_keyAt I O (rO O (rO O a0 0) 0) x1 x2).bind fun r7 => some (r7, I) else (if x3 = 1 then (f10_wearAt I O (rO O (rO O a0 0) 0) x1 x2).bind fun r10 => some (r10, I) else (if x3 = 2 then (f11_ruling I O a0).bind fun r14 => (f10_wearAt I O (rO O (rO O a0 0) 0) x1 x2).bind fun r16 => (f1_wears n I O (rO O a0 6) r14 (rO O (rO O a0 0) 0) x1 x2 r16).bind fun r18 => some (r18.1, r18.2) else some (((-1) : Int32), I)))))
set_option maxHeartbeats 4000000 in
set_option maxRecDepth 20000 in
theorem o11_at {g : pG} {Qx : Option Value → pW → Prop} {Z : pZ} {I : (Nat → Nat → Int32)} {L : (Nat → Nat → Int64)} {O : (Nat → Nat → Option Nat)} {n : Nat} {a0 : Nat} {x1 : Int32} {x2 : Int32} {x3 : Int32} {res : Int32 × (Nat → Nat → Int32)} (d : Nat) (hW : WT Z O) (hZ0 : Z[a0]? = some (11, 11)) (h : f11_at n I O a0 x1 x2 x3 = some res) (hQ : Qx (some (.int res.1)) (Z, res.2, L, O)) : Ok g (d + 6, RX11, cX11_at, 4, false, 0, 0, Z.length, pSl Z) Qx 0 [(0, .ref a0), (1, .int x1), (2, .int x2), (3, .int x3)] [] (Z, I, L, O) := by
  unfold f11_at at h
  refine ok_aload_n dX11_at_0 0 rfl ?_
  have hT1 : Z[(rO O a0 0)]? = some (9, 10) := (wt_f (ci := 11) (k := 0) hW hZ0 rfl).2
  refine ok_getR (ci := 11) (k := 0) dX11_at_1 flRX11_10 rfl hW hZ0 (by decide) ?_
  have hT2 : Z[(rO O (rO O a0 0) 0)]? = some (10, 5) := (wt_f (ci := 9) (k := 0) hW hT1 rfl).2
  refine ok_getR (ci := 9) (k := 0) dX11_at_4 flRX11_79 rfl hW hT1 (by decide) ?_
  refine ok_iload_n dX11_at_7 1 rfl ?_
  refine ok_iload_n dX11_at_8 2 rfl ?_
  obtain ⟨r3, hr4, h⟩ := bd h
  refine ok_callV (d := ((d + 3) + 2)) (mt := m10_hasPlace) (mc := 0) (ms := 0) (As := [.int x1, .int x2]) (r := []) dX11_at_9 mo10_hasPlace mv10_hasPlace lkRX11_86 rfl hT2 (q := (RX10, TX10, 5)) rfl rfl rfl (Nat.le_of_ble_eq_true rfl) (by show _ + 1 ≤ d + _; omega) (Nat.le_refl _) (Nat.le_refl _) (pRt_mono ?_)
  refine k10_hasPlace (d + 3) hW hT2 hr4 ?_
  intro hbr3
  show Ok g _ Qx 12 [(0, .ref a0), (1, .int x1), (2, .int x2), (3, .int x3)] [.int r3] (Z, I, L, O)
  refine ok_if_ne (t := 17) dX11_at_12 (by decide) (fun hc5 => ?_) (fun hc5 => ?_)
  · have h := (if_neg hc5).symm.trans h
    refine ok_iload_n dX11_at_17 3 rfl ?_
    by_cases hc6 : x3 = 0
    · have h := (if_pos hc6).symm.trans h
      refine ok_tabEq (t := 44) (off := 26) dX11_at_18 hc6 (by decide) (by decide) (by decide) (by decide) ?_
      refine ok_aload_n dX11_at_44 0 rfl ?_
      refine ok_getR (ci := 11) (k := 0) dX11_at_45 flRX11_10 rfl hW hZ0 (by decide) ?_
      refine ok_getR (ci := 9) (k := 0) dX11_at_48 flRX11_79 rfl hW hT1 (by decide) ?_
      refine ok_iload_n dX11_at_51 1 rfl ?_
      refine ok_iload_n dX11_at_52 2 rfl ?_
      obtain ⟨r7, hr8, h⟩ := bd h
      refine ok_callV (d := ((d + 2) + 3)) (mt := m10_keyAt) (mc := 0) (ms := 0) (As := [.int x1, .int x2]) (r := []) dX11_at_53 mo10_keyAt mv10_keyAt lkRX11_240 rfl hT2 (q := (RX10, TX10, 5)) rfl rfl rfl (Nat.le_of_ble_eq_true rfl) (by show _ + 1 ≤ d + _; omega) (Nat.le_refl _) (Nat.le_refl _) (pRt_mono ?_)
      refine k10_keyAt (d + 2) hW hT2 hr8 ?_
      intro _
      show Ok g _ Qx 56 [(0, .ref a0), (1, .int x1), (2, .int x2), (3, .int x3)] [.int r7] (Z, I, L, O)
      cases h
      exact ok_iret dX11_at_56 hQ
    · have h := (if_neg hc6).symm.trans h
      by_cases hc9 : x3 = 1
      · have h := (if_pos hc9).symm.trans h
        refine ok_tabEq (t := 57) (off := 39) dX11_at_18 hc9 (by decide) (by decide) (by decide) (by decide) ?_
        refine ok_aload_n dX11_at_57 0 rfl ?_
        refine ok_getR (ci := 11) (k := 0) dX11_at_58 flRX11_10 rfl hW hZ0 (by decide) ?_
        refine ok_getR (ci := 9) (k := 0) dX11_at_61 flRX11_79 rfl hW hT1 (by decide) ?_
        refine ok_iload_n dX11_at_64 1 rfl ?_
        refine ok_iload_n dX11_at_65 2 rfl ?_
        obtain ⟨r10, hr11, h⟩ := bd h
        refine ok_callV (d := ((d + 2) + 3)) (mt := m10_wearAt) (mc := 0) (ms := 0) (As := [.int x1, .int x2]) (r := []) dX11_at_66 mo10_wearAt mv10_wearAt lkRX11_169 rfl hT2 (q := (RX10, TX10, 5)) rfl rfl rfl (Nat.le_of_ble_eq_true rfl) (by show _ + 1 ≤ d + _; omega) (Nat.le_refl _) (Nat.le_refl _) (pRt_mono ?_)
        refine k10_wearAt (d + 2) hW hT2 hr11 ?_
        intro _
        show Ok g _ Qx 69 [(0, .ref a0), (1, .int x1), (2, .int x2), (3, .int x3)] [.int r10] (Z, I, L, O)
        cases h
        exact ok_iret dX11_at_69 hQ
      · have h := (if_neg hc9).symm.trans h
        by_cases hc12 : x3 = 2
        · have h := (if_pos hc12).symm.trans h
          refine ok_tabEq (t := 70) (off := 52) dX11_at_18 hc12 (by decide) (by decide) (by decide) (by decide) ?_
          refine ok_aload_n dX11_at_70 0 rfl ?_
          have hT13 : Z[(rO O a0 6)]? = some (1, 3) := (wt_f (ci := 11) (k := 6) hW hZ0 rfl).2
          refine ok_getR (ci := 11) (k := 6) dX11_at_71 flRX11_42 rfl hW hZ0 (by decide) ?_
          refine ok_aload_n dX11_at_74 0 rfl ?_
          obtain ⟨r14, hr15, h⟩ := bd h
          have hSr14 := t11_ruling hW hZ0 hr15
          refine ok_callV (d := ((d + 2) + 3)) (mt := m11_ruling) (mc := 0) (ms := 0) (As := []) (r := [.ref (rO O a0 6)]) dX11_at_75 mo11_ruling mv11_ruling lkRX11_162 rfl hZ0 (q := (RX11, TX11, 11)) rfl rfl rfl (Nat.le_of_ble_eq_true rfl) (by show _ + 1 ≤ d + _; omega) (Nat.le_refl _) (Nat.le_refl _) (pRt_mono ?_)
          refine k11_ruling (d + 2) hW hZ0 hr15 ?_
          intro _
          show Ok g _ Qx 78 [(0, .ref a0), (1, .int x1), (2, .int x2), (3, .int x3)] [va_rf r14, .ref (rO O a0 6)] (Z, I, L, O)
          refine ok_aload_n dX11_at_78 0 rfl ?_
          refine ok_getR (ci := 11) (k := 0) dX11_at_79 flRX11_10 rfl hW hZ0 (by decide) ?_
          refine ok_getR (ci := 9) (k := 0) dX11_at_82 flRX11_79 rfl hW hT1 (by decide) ?_
          refine ok_iload_n dX11_at_85 1 rfl ?_
          refine ok_iload_n dX11_at_86 2 rfl ?_
          refine ok_aload_n dX11_at_87 0 rfl ?_
          refine ok_getR (ci := 11) (k := 0) dX11_at_88 flRX11_10 rfl hW hZ0 (by decide) ?_
          refine ok_getR (ci := 9) (k := 0) dX11_at_91 flRX11_79 rfl hW hT1 (by decide) ?_
          refine ok_iload_n dX11_at_94 1 rfl ?_
          refine ok_iload_n dX11_at_95 2 rfl ?_
          obtain ⟨r16, hr17, h⟩ := bd h
          refine ok_callV (d := ((d + 2) + 3)) (mt := m10_wearAt) (mc := 0) (ms := 0) (As := [.int x1, .int x2]) (r := [.int x2, .int x1, .ref (rO O (rO O a0 0) 0), va_rf r14, .ref (rO O a0 6)]) dX11_at_96 mo10_wearAt mv10_wearAt lkRX11_169 rfl hT2 (q := (RX10, TX10, 5)) rfl rfl rfl (by cases r14 <;> exact (Nat.le_of_ble_eq_true rfl)) (by show _ + 1 ≤ d + _; omega) (Nat.le_refl _) (Nat.le_refl _) (pRt_mono ?_)
          refine k10_wearAt (d + 2) hW hT2 hr17 ?_
          intro _
          show Ok g _ Qx 99 [(0, .ref a0), (1, .int x1), (2, .int x2), (3, .int x3)] [.int r16, .int x2, .int x1, .ref (rO O (rO O a0 0) 0), va_rf r14, .ref (rO O a0 6)] (Z, I, L, O)
          obtain ⟨r18, hr19, h⟩ := bd h
          refine ok_callV (d := ((d + 0) + 5)) (mt := m1_wears) (mc := 0) (ms := 0) (As := [va_rf r14, .ref (rO O (rO O a0 0) 0), .int x1, .int x2, .int r16]) (r := []) dX11_at_99 mo1_wears mv1_wears lkRX11_243 rfl hT13 (q := (RX1, TX1, 3)) rfl rfl rfl (Nat.le_of_ble_eq_true rfl) (by show _ + 1 ≤ d + _; omega) (Nat.le_refl _) (Nat.le_refl _) (pRt_mono ?_)
          refine k1_wears (d + 0) hW hT13 hSr14 hT2 hr19 ?_
          intro _
          show Ok g _ Qx 102 [(0, .ref a0), (1, .int x1), (2, .int x2), (3, .int x3)] [.int r18.1] (Z, r18.2, L, O)
          cases h
          exact ok_iret dX11_at_102 hQ
        · have h := (if_neg hc12).symm.trans h
          refine ok_tabOut (t := 103) dX11_at_18 (by have n0 := neI hc6 (a := 0) (by decide); have n1 := neI hc9 (a := 1) (by decide); have n2 := neI hc12 (a := 2) (by decide); omega) (by decide) ?_
          refine ok_iconst (v := (-1)) dX11_at_103 (by decide) ?_
          cases h
          exact ok_iret dX11_at_104 hQ
  · have h := (if_pos hc5).symm.trans h
    refine ok_iconst (v := (-1)) dX11_at_15 (by decide) ?_
    cases h
    exact ok_iret dX11_at_16 hQ
theorem k11_at {g : pG} {Q : Option Value → pW → Prop} {Z : pZ} {I : (Nat → Nat → Int32)} {L : (Nat → Nat → Int64)} {O : (Nat → Nat → Option Nat)} {n : Nat} {a0 : Nat} {x1 : Int32} {x2 : Int32} {x3 : Int32} {res : Int32 × (Nat → Nat → Int32)} (d : Nat) (hW : WT Z O) (hZ0 : Z[a0]? = some (11, 11)) (h : f11_at n I O a0 x1 x2 x3 = some res) (hQ : Q (some (.int res.1)) (Z, res.2, L, O)) : CT g (d + 6) m11_at 0 0 [.ref a0, .int x1, .int x2, .int x3] (Z, I, L, O) Q :=
  ct_of_ok (mt := m11_at) (ini := false) mo11_at.2.2.2.2 (fun h => by cases h) (Nat.le_of_ble_eq_true rfl) (o11_at d hW hZ0 h ⟨trivial, hQ, rfl, rfl⟩)
theorem dX11_law_0 : decode cX11_law 0 = .ok (.aload_n 0, 1) := by decide +kernel
theorem dX11_law_1 : decode cX11_law 1 = .ok (.getfield 10, 3) := by decide +kernel
theorem dX11_law_4 : decode cX11_law 4 = .ok (.getfield 79, 3) := by decide +kernel
theorem dX11_law_7 : decode cX11_law 7 = .ok (.iload_n 1, 1) := by decide +kernel
theorem dX11_law_8 : decode cX11_law 8 = .ok (.iload_n 2, 1) := by decide +kernel
theorem dX11_law_9 : decode cX11_law 9 = .ok (.invokevirtual 86, 3) := by decide +kernel
theorem dX11_law_12 : decode cX11_law 12 = .ok (.ifCond .eq 17, 3) := by decide +kernel
theorem dX11_law_15 : decode cX11_law 15 = .ok (.aload_n 0, 1) := by decide +kernel
theorem dX11_law_16 : decode cX11_law 16 = .ok (.getfield 10, 3) := by decide +kernel
theorem dX11_law_19 : decode cX11_law 19 = .ok (.getfield 79, 3) := by decide +kernel
theorem dX11_law_22 : decode cX11_law 22 = .ok (.iload_n 3, 1) := by decide +kernel
theorem dX11_law_23 : decode cX11_law 23 = .ok (.invokevirtual 156, 3) := by decide +kernel
theorem dX11_law_26 : decode cX11_law 26 = .ok (.ifCond .ne 5, 3) := by decide +kernel
theorem dX11_law_29 : decode cX11_law 29 = .ok (.iconst (-1), 1) := by decide +kernel
theorem dX11_law_30 : decode cX11_law 30 = .ok (.ireturn, 1) := by decide +kernel
theorem dX11_law_31 : decode cX11_law 31 = .ok (.iload 4, 2) := by decide +kernel
theorem dX11_law_33 : decode cX11_law 33 = .ok (.ifCond .eq 25, 3) := by decide +kernel
theorem dX11_law_36 : decode cX11_law 36 = .ok (.aload_n 0, 1) := by decide +kernel
theorem dX11_law_37 : decode cX11_law 37 = .ok (.getfield 42, 3) := by decide +kernel
theorem dX11_law_40 : decode cX11_law 40 = .ok (.aload_n 0, 1) := by decide +kernel
theorem dX11_law_41 : decode cX11_law 41 = .ok (.invokevirtual 162, 3) := by decide +kernel
theorem dX11_law_44 : decode cX11_law 44 = .ok (.aload_n 0, 1) := by decide +kernel
theorem dX11_law_45 : decode cX11_law 45 = .ok (.getfield 10, 3) := by decide +kernel
theorem dX11_law_48 : decode cX11_law 48 = .ok (.getfield 79, 3) := by decide +kernel
theorem dX11_law_51 : decode cX11_law 51 = .ok (.iload_n 1, 1) := by decide +kernel
theorem dX11_law_52 : decode cX11_law 52 = .ok (.iload_n 2, 1) := by decide +kernel
theorem dX11_law_53 : decode cX11_law 53 = .ok (.iload_n 3, 1) := by decide +kernel
theorem dX11_law_54 : decode cX11_law 54 = .ok (.invokevirtual 247, 3) := by decide +kernel
theorem dX11_law_57 : decode cX11_law 57 = .ok (.ireturn, 1) := by decide +kernel
theorem dX11_law_58 : decode cX11_law 58 = .ok (.aload_n 0, 1) := by decide +kernel
theorem dX11_law_59 : decode cX11_law 59 = .ok (.getfield 10, 3) := by decide +kernel
theorem dX11_law_62 : decode cX11_law 62 = .ok (.getfield 79, 3) := by decide +kernel
theorem dX11_law_65 : decode cX11_law 65 = .ok (.iload_n 1, 1) := by decide +kernel
theorem dX11_law_66 : decode cX11_law 66 = .ok (.iload_n 2, 1) := by decide +kernel
theorem dX11_law_67 : decode cX11_law 67 = .ok (.invokevirtual 240, 3) := by decide +kernel
theorem dX11_law_70 : decode cX11_law 70 = .ok (.istore 5, 2) := by decide +kernel
theorem dX11_law_72 : decode cX11_law 72 = .ok (.aload_n 0, 1) := by decide +kernel
theorem dX11_law_73 : decode cX11_law 73 = .ok (.getfield 42, 3) := by decide +kernel
theorem dX11_law_76 : decode cX11_law 76 = .ok (.aload_n 0, 1) := by decide +kernel
theorem dX11_law_77 : decode cX11_law 77 = .ok (.invokevirtual 162, 3) := by decide +kernel
theorem dX11_law_80 : decode cX11_law 80 = .ok (.aload_n 0, 1) := by decide +kernel
theorem dX11_law_81 : decode cX11_law 81 = .ok (.getfield 10, 3) := by decide +kernel
theorem dX11_law_84 : decode cX11_law 84 = .ok (.getfield 79, 3) := by decide +kernel
theorem dX11_law_87 : decode cX11_law 87 = .ok (.iload_n 3, 1) := by decide +kernel
theorem dX11_law_88 : decode cX11_law 88 = .ok (.iload 5, 2) := by decide +kernel
theorem dX11_law_90 : decode cX11_law 90 = .ok (.aload_n 0, 1) := by decide +kernel
theorem dX11_law_91 : decode cX11_law 91 = .ok (.getfield 10, 3) := by decide +kernel
theorem dX11_law_94 : decode cX11_law 94 = .ok (.getfield 79, 3) := by decide +kernel
theorem dX11_law_97 : decode cX11_law 97 = .ok (.iload_n 3, 1) := by decide +kernel
theorem dX11_law_98 : decode cX11_law 98 = .ok (.iload 5, 2) := by decide +kernel
theorem dX11_law_100 : decode cX11_law 100 = .ok (.invokevirtual 250, 3) := by decide +kernel
theorem dX11_law_103 : decode cX11_law 103 = .ok (.invokevirtual 253, 3) := by decide +kernel
theorem dX11_law_106 : decode cX11_law 106 = .ok (.ireturn, 1) := by decide +kernel
def m11_law : pMT := (yX11_law, cX11_law, 6, some .int)
theorem mo11_law : mOK m11_law 4 := ⟨tb_i 965 (by decide +kernel), wi_RX11, ⟨wn_RX11.1, wn_RX11.2, by decide +kernel⟩, by decide, plainFor_of_name wp_RX11⟩
theorem mv11_law : mV m11_law := ⟨tb_i 963 (by decide +kernel), tb_i 964 (by decide +kernel)⟩
def f11_law (n : Nat) (I : (Nat → Nat → Int32)) (O : (Nat → Nat → Option Nat)) (a0 : Nat) (x1 : Int32) (x2 : Int32) (x3 : Int32) (x4 : Int32) : Option (Int32 × (Nat → Nat → Int32)) := (f10_hasPlace I O (rO O (rO O a0 0) 0) x1 x2).bind fun r3 => (if r3 = 0 then some (((-1) : Int32), I) else (f10_hasChild I (rO O (rO O a0 0) 0) x3).bind fun r6 => (if r6 = 0 then some (((-1) : Int32), I) else (if x4 = 0 then (f10_keyAt I O (rO O (rO O a0 0) 0) x1 x2).bind fun r10 => (f11_ruling I O a0).bind fun r13 => (f10_timesHeard I O (rO O (rO O a0 0) 0) x3 r10).bind fun r15 => (f1_learns n I O (rO O a0 6) r13 (rO O (rO O a0 0) 0) x3 r10 r15).bind fun r17 => some (r17.1, r17.2) else (f11_ruling I O a0).bind fun r20 => (f1_blurs n I O (rO O a0 6) r20 (rO O (rO O a0 0) 0) x1 x2 x3).bind fun r22 => some (r22.1, r22.2))))
set_option maxHeartbeats 4000000 in
set_option maxRecDepth 20000 in
theorem o11_law {g : pG} {Qx : Option Value → pW → Prop} {Z : pZ} {I : (Nat → Nat → Int32)} {L : (Nat → Nat → Int64)} {O : (Nat → Nat → Option Nat)} {n : Nat} {a0 : Nat} {x1 : Int32} {x2 : Int32} {x3 : Int32} {x4 : Int32} {res : Int32 × (Nat → Nat → Int32)} (d : Nat) (hW : WT Z O) (hZ0 : Z[a0]? = some (11, 11)) (h : f11_law n I O a0 x1 x2 x3 x4 = some res) (hQ : Qx (some (.int res.1)) (Z, res.2, L, O)) : Ok g (d + 6, RX11, cX11_law, 6, false, 0, 0, Z.length, pSl Z) Qx 0 [(0, .ref a0), (1, .int x1), (2, .int x2), (3, .int x3), (4, .int x4)] [] (Z, I, L, O) := by
  unfold f11_law at h
  refine ok_aload_n dX11_law_0 0 rfl ?_
  have hT1 : Z[(rO O a0 0)]? = some (9, 10) := (wt_f (ci := 11) (k := 0) hW hZ0 rfl).2
  refine ok_getR (ci := 11) (k := 0) dX11_law_1 flRX11_10 rfl hW hZ0 (by decide) ?_
  have hT2 : Z[(rO O (rO O a0 0) 0)]? = some (10, 5) := (wt_f (ci := 9) (k := 0) hW hT1 rfl).2
  refine ok_getR (ci := 9) (k := 0) dX11_law_4 flRX11_79 rfl hW hT1 (by decide) ?_
  refine ok_iload_n dX11_law_7 1 rfl ?_
  refine ok_iload_n dX11_law_8 2 rfl ?_
  obtain ⟨r3, hr4, h⟩ := bd h
  refine ok_callV (d := ((d + 3) + 2)) (mt := m10_hasPlace) (mc := 0) (ms := 0) (As := [.int x1, .int x2]) (r := []) dX11_law_9 mo10_hasPlace mv10_hasPlace lkRX11_86 rfl hT2 (q := (RX10, TX10, 5)) rfl rfl rfl (Nat.le_of_ble_eq_true rfl) (by show _ + 1 ≤ d + _; omega) (Nat.le_refl _) (Nat.le_refl _) (pRt_mono ?_)
  refine k10_hasPlace (d + 3) hW hT2 hr4 ?_
  intro hbr3
  show Ok g _ Qx 12 [(0, .ref a0), (1, .int x1), (2, .int x2), (3, .int x3), (4, .int x4)] [.int r3] (Z, I, L, O)
  refine ok_if_eq (t := 29) dX11_law_12 (by decide) (fun hc5 => ?_) (fun hc5 => ?_)
  · have h := (if_pos hc5).symm.trans h
    refine ok_iconst (v := (-1)) dX11_law_29 (by decide) ?_
    cases h
    exact ok_iret dX11_law_30 hQ
  · have h := (if_neg hc5).symm.trans h
    refine ok_aload_n dX11_law_15 0 rfl ?_
    refine ok_getR (ci := 11) (k := 0) dX11_law_16 flRX11_10 rfl hW hZ0 (by decide) ?_
    refine ok_getR (ci := 9) (k := 0) dX11_law_19 flRX11_79 rfl hW hT1 (by decide) ?_
    refine ok_iload_n dX11_law_22 3 rfl ?_
    obtain ⟨r6, hr7, h⟩ := bd h
    refine ok_callV (d := ((d + 3) + 2)) (mt := m10_hasChild) (mc := 0) (ms := 0) (As := [.int x3]) (r := []) dX11_law_23 mo10_hasChild mv10_hasChild lkRX11_156 rfl hT2 (q := (RX10, TX10, 5)) rfl rfl rfl (Nat.le_of_ble_eq_true rfl) (by show _ + 1 ≤ d + _; omega) (Nat.le_refl _) (Nat.le_refl _) (pRt_mono ?_)
    refine k10_hasChild (d + 3) hW hT2 hr7 ?_
    intro hbr6
    show Ok g _ Qx 26 [(0, .ref a0), (1, .int x1), (2, .int x2), (3, .int x3), (4, .int x4)] [.int r6] (Z, I, L, O)
    refine ok_if_ne (t := 31) dX11_law_26 (by decide) (fun hc8 => ?_) (fun hc8 => ?_)
    · have h := (if_neg hc8).symm.trans h
      refine ok_iload dX11_law_31 4 rfl ?_
      refine ok_if_eq (t := 58) dX11_law_33 (by decide) (fun hc9 => ?_) (fun hc9 => ?_)
      · have h := (if_pos hc9).symm.trans h
        refine ok_aload_n dX11_law_58 0 rfl ?_
        refine ok_getR (ci := 11) (k := 0) dX11_law_59 flRX11_10 rfl hW hZ0 (by decide) ?_
        refine ok_getR (ci := 9) (k := 0) dX11_law_62 flRX11_79 rfl hW hT1 (by decide) ?_
        refine ok_iload_n dX11_law_65 1 rfl ?_
        refine ok_iload_n dX11_law_66 2 rfl ?_
        obtain ⟨r10, hr11, h⟩ := bd h
        refine ok_callV (d := ((d + 2) + 3)) (mt := m10_keyAt) (mc := 0) (ms := 0) (As := [.int x1, .int x2]) (r := []) dX11_law_67 mo10_keyAt mv10_keyAt lkRX11_240 rfl hT2 (q := (RX10, TX10, 5)) rfl rfl rfl (Nat.le_of_ble_eq_true rfl) (by show _ + 1 ≤ d + _; omega) (Nat.le_refl _) (Nat.le_refl _) (pRt_mono ?_)
        refine k10_keyAt (d + 2) hW hT2 hr11 ?_
        intro _
        show Ok g _ Qx 70 [(0, .ref a0), (1, .int x1), (2, .int x2), (3, .int x3), (4, .int x4)] [.int r10] (Z, I, L, O)
        refine ok_istore (l' := [(5, .int r10), (0, .ref a0), (1, .int x1), (2, .int x2), (3, .int x3), (4, .int x4)]) dX11_law_70 (Nat.le_of_ble_eq_true rfl) rfl ?_
        refine ok_aload_n dX11_law_72 1 rfl ?_
        have hT12 : Z[(rO O a0 6)]? = some (1, 3) := (wt_f (ci := 11) (k := 6) hW hZ0 rfl).2
        refine ok_getR (ci := 11) (k := 6) dX11_law_73 flRX11_42 rfl hW hZ0 (by decide) ?_
        refine ok_aload_n dX11_law_76 1 rfl ?_
        obtain ⟨r13, hr14, h⟩ := bd h
        have hSr13 := t11_ruling hW hZ0 hr14
        refine ok_callV (d := ((d + 2) + 3)) (mt := m11_ruling) (mc := 0) (ms := 0) (As := []) (r := [.ref (rO O a0 6)]) dX11_law_77 mo11_ruling mv11_ruling lkRX11_162 rfl hZ0 (q := (RX11, TX11, 11)) rfl rfl rfl (Nat.le_of_ble_eq_true rfl) (by show _ + 1 ≤ d + _; omega) (Nat.le_refl _) (Nat.le_refl _) (pRt_mono ?_)
        refine k11_ruling (d + 2) hW hZ0 hr14 ?_
        intro _
        show Ok g _ Qx 80 [(5, .int r10), (0, .ref a0), (1, .int x1), (2, .int x2), (3, .int x3), (4, .int x4)] [va_rf r13, .ref (rO O a0 6)] (Z, I, L, O)
        refine ok_aload_n dX11_law_80 1 rfl ?_
        refine ok_getR (ci := 11) (k := 0) dX11_law_81 flRX11_10 rfl hW hZ0 (by decide) ?_
        refine ok_getR (ci := 9) (k := 0) dX11_law_84 flRX11_79 rfl hW hT1 (by decide) ?_
        refine ok_iload_n dX11_law_87 4 rfl ?_
        refine ok_iload dX11_law_88 0 rfl ?_
        refine ok_aload_n dX11_law_90 1 rfl ?_
        refine ok_getR (ci := 11) (k := 0) dX11_law_91 flRX11_10 rfl hW hZ0 (by decide) ?_
        refine ok_getR (ci := 9) (k := 0) dX11_law_94 flRX11_79 rfl hW hT1 (by decide) ?_
        refine ok_iload_n dX11_law_97 4 rfl ?_
        refine ok_iload dX11_law_98 0 rfl ?_
        obtain ⟨r15, hr16, h⟩ := bd h
        refine ok_callV (d := ((d + 2) + 3)) (mt := m10_timesHeard) (mc := 0) (ms := 0) (As := [.int x3, .int r10]) (r := [.int r10, .int x3, .ref (rO O (rO O a0 0) 0), va_rf r13, .ref (rO O a0 6)]) dX11_law_100 mo10_timesHeard mv10_timesHeard lkRX11_250 rfl hT2 (q := (RX10, TX10, 5)) rfl rfl rfl (by cases r13 <;> exact (Nat.le_of_ble_eq_true rfl)) (by show _ + 1 ≤ d + _; omega) (Nat.le_refl _) (Nat.le_refl _) (pRt_mono ?_)
        refine k10_timesHeard (d + 2) hW hT2 hr16 ?_
        intro _
        show Ok g _ Qx 103 [(5, .int r10), (0, .ref a0), (1, .int x1), (2, .int x2), (3, .int x3), (4, .int x4)] [.int r15, .int r10, .int x3, .ref (rO O (rO O a0 0) 0), va_rf r13, .ref (rO O a0 6)] (Z, I, L, O)
        obtain ⟨r17, hr18, h⟩ := bd h
        refine ok_callV (d := ((d + 0) + 5)) (mt := m1_learns) (mc := 0) (ms := 0) (As := [va_rf r13, .ref (rO O (rO O a0 0) 0), .int x3, .int r10, .int r15]) (r := []) dX11_law_103 mo1_learns mv1_learns lkRX11_253 rfl hT12 (q := (RX1, TX1, 3)) rfl rfl rfl (Nat.le_of_ble_eq_true rfl) (by show _ + 1 ≤ d + _; omega) (Nat.le_refl _) (Nat.le_refl _) (pRt_mono ?_)
        refine k1_learns (d + 0) hW hT12 hSr13 hT2 hr18 ?_
        intro _
        show Ok g _ Qx 106 [(5, .int r10), (0, .ref a0), (1, .int x1), (2, .int x2), (3, .int x3), (4, .int x4)] [.int r17.1] (Z, r17.2, L, O)
        cases h
        exact ok_iret dX11_law_106 hQ
      · have h := (if_neg hc9).symm.trans h
        refine ok_aload_n dX11_law_36 0 rfl ?_
        have hT19 : Z[(rO O a0 6)]? = some (1, 3) := (wt_f (ci := 11) (k := 6) hW hZ0 rfl).2
        refine ok_getR (ci := 11) (k := 6) dX11_law_37 flRX11_42 rfl hW hZ0 (by decide) ?_
        refine ok_aload_n dX11_law_40 0 rfl ?_
        obtain ⟨r20, hr21, h⟩ := bd h
        have hSr20 := t11_ruling hW hZ0 hr21
        refine ok_callV (d := ((d + 2) + 3)) (mt := m11_ruling) (mc := 0) (ms := 0) (As := []) (r := [.ref (rO O a0 6)]) dX11_law_41 mo11_ruling mv11_ruling lkRX11_162 rfl hZ0 (q := (RX11, TX11, 11)) rfl rfl rfl (Nat.le_of_ble_eq_true rfl) (by show _ + 1 ≤ d + _; omega) (Nat.le_refl _) (Nat.le_refl _) (pRt_mono ?_)
        refine k11_ruling (d + 2) hW hZ0 hr21 ?_
        intro _
        show Ok g _ Qx 44 [(0, .ref a0), (1, .int x1), (2, .int x2), (3, .int x3), (4, .int x4)] [va_rf r20, .ref (rO O a0 6)] (Z, I, L, O)
        refine ok_aload_n dX11_law_44 0 rfl ?_
        refine ok_getR (ci := 11) (k := 0) dX11_law_45 flRX11_10 rfl hW hZ0 (by decide) ?_
        refine ok_getR (ci := 9) (k := 0) dX11_law_48 flRX11_79 rfl hW hT1 (by decide) ?_
        refine ok_iload_n dX11_law_51 1 rfl ?_
        refine ok_iload_n dX11_law_52 2 rfl ?_
        refine ok_iload_n dX11_law_53 3 rfl ?_
        obtain ⟨r22, hr23, h⟩ := bd h
        refine ok_callV (d := ((d + 0) + 5)) (mt := m1_blurs) (mc := 0) (ms := 0) (As := [va_rf r20, .ref (rO O (rO O a0 0) 0), .int x1, .int x2, .int x3]) (r := []) dX11_law_54 mo1_blurs mv1_blurs lkRX11_247 rfl hT19 (q := (RX1, TX1, 3)) rfl rfl rfl (Nat.le_of_ble_eq_true rfl) (by show _ + 1 ≤ d + _; omega) (Nat.le_refl _) (Nat.le_refl _) (pRt_mono ?_)
        refine k1_blurs (d + 0) hW hT19 hSr20 hT2 hr23 ?_
        intro _
        show Ok g _ Qx 57 [(0, .ref a0), (1, .int x1), (2, .int x2), (3, .int x3), (4, .int x4)] [.int r22.1] (Z, r22.2, L, O)
        cases h
        exact ok_iret dX11_law_57 hQ
    · have h := (if_pos hc8).symm.trans h
      refine ok_iconst (v := (-1)) dX11_law_29 (by decide) ?_
      cases h
      exact ok_iret dX11_law_30 hQ
theorem k11_law {g : pG} {Q : Option Value → pW → Prop} {Z : pZ} {I : (Nat → Nat → Int32)} {L : (Nat → Nat → Int64)} {O : (Nat → Nat → Option Nat)} {n : Nat} {a0 : Nat} {x1 : Int32} {x2 : Int32} {x3 : Int32} {x4 : Int32} {res : Int32 × (Nat → Nat → Int32)} (d : Nat) (hW : WT Z O) (hZ0 : Z[a0]? = some (11, 11)) (h : f11_law n I O a0 x1 x2 x3 x4 = some res) (hQ : Q (some (.int res.1)) (Z, res.2, L, O)) : CT g (d + 6) m11_law 0 0 [.ref a0, .int x1, .int x2, .int x3, .int x4] (Z, I, L, O) Q :=
  ct_of_ok (mt := m11_law) (ini := false) mo11_law.2.2.2.2 (fun h => by cases h) (Nat.le_of_ble_eq_true rfl) (o11_law d hW hZ0 h ⟨trivial, hQ, rfl, rfl⟩)
theorem dX11_is_0 : decode cX11_is 0 = .ok (.iload_n 1, 1) := by decide +kernel
theorem dX11_is_1 : decode cX11_is 1 = .ok (.tableswitch 81 0 3 #[31, 45, 59, 70], 31) := by decide +kernel
theorem dX11_is_32 : decode cX11_is 32 = .ok (.aload_n 0, 1) := by decide +kernel
theorem dX11_is_33 : decode cX11_is 33 = .ok (.getfield 10, 3) := by decide +kernel
theorem dX11_is_36 : decode cX11_is 36 = .ok (.getfield 79, 3) := by decide +kernel
theorem dX11_is_39 : decode cX11_is 39 = .ok (.getfield 94, 3) := by decide +kernel
theorem dX11_is_42 : decode cX11_is 42 = .ok (.getfield 182, 3) := by decide +kernel
theorem dX11_is_45 : decode cX11_is 45 = .ok (.ireturn, 1) := by decide +kernel
theorem dX11_is_46 : decode cX11_is 46 = .ok (.aload_n 0, 1) := by decide +kernel
theorem dX11_is_47 : decode cX11_is 47 = .ok (.getfield 10, 3) := by decide +kernel
theorem dX11_is_50 : decode cX11_is 50 = .ok (.getfield 79, 3) := by decide +kernel
theorem dX11_is_53 : decode cX11_is 53 = .ok (.getfield 94, 3) := by decide +kernel
theorem dX11_is_56 : decode cX11_is 56 = .ok (.getfield 205, 3) := by decide +kernel
theorem dX11_is_59 : decode cX11_is 59 = .ok (.ireturn, 1) := by decide +kernel
theorem dX11_is_60 : decode cX11_is 60 = .ok (.aload_n 0, 1) := by decide +kernel
theorem dX11_is_61 : decode cX11_is 61 = .ok (.getfield 10, 3) := by decide +kernel
theorem dX11_is_64 : decode cX11_is 64 = .ok (.getfield 79, 3) := by decide +kernel
theorem dX11_is_67 : decode cX11_is 67 = .ok (.getfield 256, 3) := by decide +kernel
theorem dX11_is_70 : decode cX11_is 70 = .ok (.ireturn, 1) := by decide +kernel
theorem dX11_is_71 : decode cX11_is 71 = .ok (.aload_n 0, 1) := by decide +kernel
theorem dX11_is_72 : decode cX11_is 72 = .ok (.getfield 10, 3) := by decide +kernel
theorem dX11_is_75 : decode cX11_is 75 = .ok (.getfield 79, 3) := by decide +kernel
theorem dX11_is_78 : decode cX11_is 78 = .ok (.getfield 259, 3) := by decide +kernel
theorem dX11_is_81 : decode cX11_is 81 = .ok (.ireturn, 1) := by decide +kernel
theorem dX11_is_82 : decode cX11_is 82 = .ok (.bipush (-2), 2) := by decide +kernel
theorem dX11_is_84 : decode cX11_is 84 = .ok (.ireturn, 1) := by decide +kernel
def m11_is : pMT := (yX11_is, cX11_is, 2, some .int)
theorem mo11_is : mOK m11_is 1 := ⟨tb_i 972 (by decide +kernel), wi_RX11, ⟨wn_RX11.1, wn_RX11.2, by decide +kernel⟩, by decide, plainFor_of_name wp_RX11⟩
theorem mv11_is : mV m11_is := ⟨tb_i 970 (by decide +kernel), tb_i 971 (by decide +kernel)⟩
def f11_is (I : (Nat → Nat → Int32)) (O : (Nat → Nat → Option Nat)) (a0 : Nat) (x1 : Int32) : Option (Int32) := (if x1 = 0 then some ((I (rO O (rO O (rO O a0 0) 0) 2) 4)) else (if x1 = 1 then some ((I (rO O (rO O (rO O a0 0) 0) 2) 5)) else (if x1 = 2 then some ((I (rO O (rO O a0 0) 0) 3)) else (if x1 = 3 then some ((I (rO O (rO O a0 0) 0) 4)) else some (((-2) : Int32))))))
set_option maxHeartbeats 4000000 in
set_option maxRecDepth 20000 in
theorem o11_is {g : pG} {Qx : Option Value → pW → Prop} {Z : pZ} {I : (Nat → Nat → Int32)} {L : (Nat → Nat → Int64)} {O : (Nat → Nat → Option Nat)} {a0 : Nat} {x1 : Int32} {res : Int32} (d : Nat) (hW : WT Z O) (hZ0 : Z[a0]? = some (11, 11)) (h : f11_is I O a0 x1 = some res) (hQ : Qx (some (.int res)) (Z, I, L, O)) : Ok g (d + 2, RX11, cX11_is, 2, false, 0, 0, Z.length, pSl Z) Qx 0 [(0, .ref a0), (1, .int x1)] [] (Z, I, L, O) := by
  unfold f11_is at h
  refine ok_iload_n dX11_is_0 1 rfl ?_
  by_cases hc1 : x1 = 0
  · have h := (if_pos hc1).symm.trans h
    refine ok_tabEq (t := 32) (off := 31) dX11_is_1 hc1 (by decide) (by decide) (by decide) (by decide) ?_
    refine ok_aload_n dX11_is_32 0 rfl ?_
    have hT2 : Z[(rO O a0 0)]? = some (9, 10) := (wt_f (ci := 11) (k := 0) hW hZ0 rfl).2
    refine ok_getR (ci := 11) (k := 0) dX11_is_33 flRX11_10 rfl hW hZ0 (by decide) ?_
    have hT3 : Z[(rO O (rO O a0 0) 0)]? = some (10, 5) := (wt_f (ci := 9) (k := 0) hW hT2 rfl).2
    refine ok_getR (ci := 9) (k := 0) dX11_is_36 flRX11_79 rfl hW hT2 (by decide) ?_
    have hT4 : Z[(rO O (rO O (rO O a0 0) 0) 2)]? = some (3, 6) := (wt_f (ci := 10) (k := 2) hW hT3 rfl).2
    refine ok_getR (ci := 10) (k := 2) dX11_is_39 flRX11_94 rfl hW hT3 (by decide) ?_
    refine ok_getI (ci := 3) (k := 4) dX11_is_42 flRX11_182 rfl hT4 (by decide) ?_
    cases h
    exact ok_iret dX11_is_45 hQ
  · have h := (if_neg hc1).symm.trans h
    by_cases hc5 : x1 = 1
    · have h := (if_pos hc5).symm.trans h
      refine ok_tabEq (t := 46) (off := 45) dX11_is_1 hc5 (by decide) (by decide) (by decide) (by decide) ?_
      refine ok_aload_n dX11_is_46 0 rfl ?_
      have hT6 : Z[(rO O a0 0)]? = some (9, 10) := (wt_f (ci := 11) (k := 0) hW hZ0 rfl).2
      refine ok_getR (ci := 11) (k := 0) dX11_is_47 flRX11_10 rfl hW hZ0 (by decide) ?_
      have hT7 : Z[(rO O (rO O a0 0) 0)]? = some (10, 5) := (wt_f (ci := 9) (k := 0) hW hT6 rfl).2
      refine ok_getR (ci := 9) (k := 0) dX11_is_50 flRX11_79 rfl hW hT6 (by decide) ?_
      have hT8 : Z[(rO O (rO O (rO O a0 0) 0) 2)]? = some (3, 6) := (wt_f (ci := 10) (k := 2) hW hT7 rfl).2
      refine ok_getR (ci := 10) (k := 2) dX11_is_53 flRX11_94 rfl hW hT7 (by decide) ?_
      refine ok_getI (ci := 3) (k := 5) dX11_is_56 flRX11_205 rfl hT8 (by decide) ?_
      cases h
      exact ok_iret dX11_is_59 hQ
    · have h := (if_neg hc5).symm.trans h
      by_cases hc9 : x1 = 2
      · have h := (if_pos hc9).symm.trans h
        refine ok_tabEq (t := 60) (off := 59) dX11_is_1 hc9 (by decide) (by decide) (by decide) (by decide) ?_
        refine ok_aload_n dX11_is_60 0 rfl ?_
        have hT10 : Z[(rO O a0 0)]? = some (9, 10) := (wt_f (ci := 11) (k := 0) hW hZ0 rfl).2
        refine ok_getR (ci := 11) (k := 0) dX11_is_61 flRX11_10 rfl hW hZ0 (by decide) ?_
        have hT11 : Z[(rO O (rO O a0 0) 0)]? = some (10, 5) := (wt_f (ci := 9) (k := 0) hW hT10 rfl).2
        refine ok_getR (ci := 9) (k := 0) dX11_is_64 flRX11_79 rfl hW hT10 (by decide) ?_
        refine ok_getI (ci := 10) (k := 3) dX11_is_67 flRX11_256 rfl hT11 (by decide) ?_
        cases h
        exact ok_iret dX11_is_70 hQ
      · have h := (if_neg hc9).symm.trans h
        by_cases hc12 : x1 = 3
        · have h := (if_pos hc12).symm.trans h
          refine ok_tabEq (t := 71) (off := 70) dX11_is_1 hc12 (by decide) (by decide) (by decide) (by decide) ?_
          refine ok_aload_n dX11_is_71 0 rfl ?_
          have hT13 : Z[(rO O a0 0)]? = some (9, 10) := (wt_f (ci := 11) (k := 0) hW hZ0 rfl).2
          refine ok_getR (ci := 11) (k := 0) dX11_is_72 flRX11_10 rfl hW hZ0 (by decide) ?_
          have hT14 : Z[(rO O (rO O a0 0) 0)]? = some (10, 5) := (wt_f (ci := 9) (k := 0) hW hT13 rfl).2
          refine ok_getR (ci := 9) (k := 0) dX11_is_75 flRX11_79 rfl hW hT13 (by decide) ?_
          refine ok_getI (ci := 10) (k := 4) dX11_is_78 flRX11_259 rfl hT14 (by decide) ?_
          cases h
          exact ok_iret dX11_is_81 hQ
        · have h := (if_neg hc12).symm.trans h
          refine ok_tabOut (t := 82) dX11_is_1 (by have n0 := neI hc1 (a := 0) (by decide); have n1 := neI hc5 (a := 1) (by decide); have n2 := neI hc9 (a := 2) (by decide); have n3 := neI hc12 (a := 3) (by decide); omega) (by decide) ?_
          refine ok_bipush (v := (-2)) dX11_is_82 (by decide) ?_
          cases h
          exact ok_iret dX11_is_84 hQ
theorem k11_is {g : pG} {Q : Option Value → pW → Prop} {Z : pZ} {I : (Nat → Nat → Int32)} {L : (Nat → Nat → Int64)} {O : (Nat → Nat → Option Nat)} {a0 : Nat} {x1 : Int32} {res : Int32} (d : Nat) (hW : WT Z O) (hZ0 : Z[a0]? = some (11, 11)) (h : f11_is I O a0 x1 = some res) (hQ : Q (some (.int res)) (Z, I, L, O)) : CT g (d + 2) m11_is 0 0 [.ref a0, .int x1] (Z, I, L, O) Q :=
  ct_of_ok (mt := m11_is) (ini := false) mo11_is.2.2.2.2 (fun h => by cases h) (Nat.le_of_ble_eq_true rfl) (o11_is d hW hZ0 h ⟨trivial, hQ, rfl, rfl⟩)
theorem dX11_book_0 : decode cX11_book 0 = .ok (.iload_n 1, 1) := by decide +kernel
theorem dX11_book_1 : decode cX11_book 1 = .ok (.iconst (-1), 1) := by decide +kernel
theorem dX11_book_2 : decode cX11_book 2 = .ok (.if_icmp .ne 19, 3) := by decide +kernel
theorem dX11_book_5 : decode cX11_book 5 = .ok (.aload_n 0, 1) := by decide +kernel
theorem dX11_book_6 : decode cX11_book 6 = .ok (.getfield 10, 3) := by decide +kernel
theorem dX11_book_9 : decode cX11_book 9 = .ok (.getfield 79, 3) := by decide +kernel
theorem dX11_book_12 : decode cX11_book 12 = .ok (.getfield 94, 3) := by decide +kernel
theorem dX11_book_15 : decode cX11_book 15 = .ok (.getfield 262, 3) := by decide +kernel
theorem dX11_book_18 : decode cX11_book 18 = .ok (.goto 18, 3) := by decide +kernel
theorem dX11_book_21 : decode cX11_book 21 = .ok (.aload_n 0, 1) := by decide +kernel
theorem dX11_book_22 : decode cX11_book 22 = .ok (.getfield 10, 3) := by decide +kernel
theorem dX11_book_25 : decode cX11_book 25 = .ok (.getfield 79, 3) := by decide +kernel
theorem dX11_book_28 : decode cX11_book 28 = .ok (.getfield 94, 3) := by decide +kernel
theorem dX11_book_31 : decode cX11_book 31 = .ok (.iload_n 1, 1) := by decide +kernel
theorem dX11_book_32 : decode cX11_book 32 = .ok (.iload_n 2, 1) := by decide +kernel
theorem dX11_book_33 : decode cX11_book 33 = .ok (.invokevirtual 265, 3) := by decide +kernel
theorem dX11_book_36 : decode cX11_book 36 = .ok (.ireturn, 1) := by decide +kernel
def m11_book : pMT := (yX11_book, cX11_book, 3, some .int)
theorem mo11_book : mOK m11_book 2 := ⟨tb_i 976 (by decide +kernel), wi_RX11, ⟨wn_RX11.1, wn_RX11.2, by decide +kernel⟩, by decide, plainFor_of_name wp_RX11⟩
theorem mv11_book : mV m11_book := ⟨tb_i 974 (by decide +kernel), tb_i 975 (by decide +kernel)⟩
def f11_book (I : (Nat → Nat → Int32)) (O : (Nat → Nat → Option Nat)) (a0 : Nat) (x1 : Int32) (x2 : Int32) : Option (Int32) := (if x1 = (-1 : Int32) then some ((I (rO O (rO O (rO O a0 0) 0) 2) 3)) else (f3_written I O (rO O (rO O (rO O a0 0) 0) 2) x1 x2).bind fun r5 => some (r5))
set_option maxHeartbeats 4000000 in
set_option maxRecDepth 20000 in
theorem o11_book {g : pG} {Qx : Option Value → pW → Prop} {Z : pZ} {I : (Nat → Nat → Int32)} {L : (Nat → Nat → Int64)} {O : (Nat → Nat → Option Nat)} {a0 : Nat} {x1 : Int32} {x2 : Int32} {res : Int32} (d : Nat) (hW : WT Z O) (hZ0 : Z[a0]? = some (11, 11)) (h : f11_book I O a0 x1 x2 = some res) (hQ : Qx (some (.int res)) (Z, I, L, O)) : Ok g (d + 3, RX11, cX11_book, 3, false, 0, 0, Z.length, pSl Z) Qx 0 [(0, .ref a0), (1, .int x1), (2, .int x2)] [] (Z, I, L, O) := by
  unfold f11_book at h
  refine ok_iload_n dX11_book_0 1 rfl ?_
  refine ok_iconst (v := (-1)) dX11_book_1 (by decide) ?_
  refine ok_icmp_ne (t := 21) dX11_book_2 (by decide) (fun hc1 => ?_) (fun hc1 => ?_)
  · have h := (if_neg hc1).symm.trans h
    refine ok_aload_n dX11_book_21 0 rfl ?_
    have hT2 : Z[(rO O a0 0)]? = some (9, 10) := (wt_f (ci := 11) (k := 0) hW hZ0 rfl).2
    refine ok_getR (ci := 11) (k := 0) dX11_book_22 flRX11_10 rfl hW hZ0 (by decide) ?_
    have hT3 : Z[(rO O (rO O a0 0) 0)]? = some (10, 5) := (wt_f (ci := 9) (k := 0) hW hT2 rfl).2
    refine ok_getR (ci := 9) (k := 0) dX11_book_25 flRX11_79 rfl hW hT2 (by decide) ?_
    have hT4 : Z[(rO O (rO O (rO O a0 0) 0) 2)]? = some (3, 6) := (wt_f (ci := 10) (k := 2) hW hT3 rfl).2
    refine ok_getR (ci := 10) (k := 2) dX11_book_28 flRX11_94 rfl hW hT3 (by decide) ?_
    refine ok_iload_n dX11_book_31 1 rfl ?_
    refine ok_iload_n dX11_book_32 2 rfl ?_
    obtain ⟨r5, hr6, h⟩ := bd h
    refine ok_callV (d := ((d + 0) + 2)) (mt := m3_written) (mc := 0) (ms := 0) (As := [.int x1, .int x2]) (r := []) dX11_book_33 mo3_written mv3_written lkRX11_265 rfl hT4 (q := (RX3, TX3, 6)) rfl rfl rfl (Nat.le_of_ble_eq_true rfl) (by show _ + 1 ≤ d + _; omega) (Nat.le_refl _) (Nat.le_refl _) (pRt_mono ?_)
    refine k3_written (d + 0) hW hT4 hr6 ?_
    intro _
    show Ok g _ Qx 36 [(0, .ref a0), (1, .int x1), (2, .int x2)] [.int r5] (Z, I, L, O)
    cases h
    exact ok_iret dX11_book_36 hQ
  · have h := (if_pos hc1).symm.trans h
    refine ok_aload_n dX11_book_5 0 rfl ?_
    have hT7 : Z[(rO O a0 0)]? = some (9, 10) := (wt_f (ci := 11) (k := 0) hW hZ0 rfl).2
    refine ok_getR (ci := 11) (k := 0) dX11_book_6 flRX11_10 rfl hW hZ0 (by decide) ?_
    have hT8 : Z[(rO O (rO O a0 0) 0)]? = some (10, 5) := (wt_f (ci := 9) (k := 0) hW hT7 rfl).2
    refine ok_getR (ci := 9) (k := 0) dX11_book_9 flRX11_79 rfl hW hT7 (by decide) ?_
    have hT9 : Z[(rO O (rO O (rO O a0 0) 0) 2)]? = some (3, 6) := (wt_f (ci := 10) (k := 2) hW hT8 rfl).2
    refine ok_getR (ci := 10) (k := 2) dX11_book_12 flRX11_94 rfl hW hT8 (by decide) ?_
    refine ok_getI (ci := 3) (k := 3) dX11_book_15 flRX11_262 rfl hT9 (by decide) ?_
    refine ok_goto (t := 36) dX11_book_18 (by decide) ?_
    cases h
    exact ok_iret dX11_book_36 hQ
theorem k11_book {g : pG} {Q : Option Value → pW → Prop} {Z : pZ} {I : (Nat → Nat → Int32)} {L : (Nat → Nat → Int64)} {O : (Nat → Nat → Option Nat)} {a0 : Nat} {x1 : Int32} {x2 : Int32} {res : Int32} (d : Nat) (hW : WT Z O) (hZ0 : Z[a0]? = some (11, 11)) (h : f11_book I O a0 x1 x2 = some res) (hQ : Q (some (.int res)) (Z, I, L, O)) : CT g (d + 3) m11_book 0 0 [.ref a0, .int x1, .int x2] (Z, I, L, O) Q :=
  ct_of_ok (mt := m11_book) (ini := false) mo11_book.2.2.2.2 (fun h => by cases h) (Nat.le_of_ble_eq_true rfl) (o11_book d hW hZ0 h ⟨trivial, hQ, rfl, rfl⟩)
theorem dX11_foretold_0 : decode cX11_foretold 0 = .ok (.iload_n 1, 1) := by decide +kernel
theorem dX11_foretold_1 : decode cX11_foretold 1 = .ok (.iconst 1, 1) := by decide +kernel
theorem dX11_foretold_2 : decode cX11_foretold 2 = .ok (.if_icmp .lt 25, 3) := by decide +kernel
theorem dX11_foretold_5 : decode cX11_foretold 5 = .ok (.iload_n 1, 1) := by decide +kernel
theorem dX11_foretold_6 : decode cX11_foretold 6 = .ok (.bipush 60, 2) := by decide +kernel
theorem dX11_foretold_8 : decode cX11_foretold 8 = .ok (.if_icmp .gt 19, 3) := by decide +kernel
theorem dX11_foretold_11 : decode cX11_foretold 11 = .ok (.aload_n 0, 1) := by decide +kernel
theorem dX11_foretold_12 : decode cX11_foretold 12 = .ok (.getfield 10, 3) := by decide +kernel
theorem dX11_foretold_15 : decode cX11_foretold 15 = .ok (.getfield 79, 3) := by decide +kernel
theorem dX11_foretold_18 : decode cX11_foretold 18 = .ok (.iload_n 2, 1) := by decide +kernel
theorem dX11_foretold_19 : decode cX11_foretold 19 = .ok (.iload_n 3, 1) := by decide +kernel
theorem dX11_foretold_20 : decode cX11_foretold 20 = .ok (.invokevirtual 176, 3) := by decide +kernel
theorem dX11_foretold_23 : decode cX11_foretold 23 = .ok (.iconst (-1), 1) := by decide +kernel
theorem dX11_foretold_24 : decode cX11_foretold 24 = .ok (.if_icmp .ne 5, 3) := by decide +kernel
theorem dX11_foretold_27 : decode cX11_foretold 27 = .ok (.iconst (-1), 1) := by decide +kernel
theorem dX11_foretold_28 : decode cX11_foretold 28 = .ok (.ireturn, 1) := by decide +kernel
theorem dX11_foretold_29 : decode cX11_foretold 29 = .ok (.aload_n 0, 1) := by decide +kernel
theorem dX11_foretold_30 : decode cX11_foretold 30 = .ok (.getfield 22, 3) := by decide +kernel
theorem dX11_foretold_33 : decode cX11_foretold 33 = .ok (.aload_n 0, 1) := by decide +kernel
theorem dX11_foretold_34 : decode cX11_foretold 34 = .ok (.getfield 10, 3) := by decide +kernel
theorem dX11_foretold_37 : decode cX11_foretold 37 = .ok (.getfield 79, 3) := by decide +kernel
theorem dX11_foretold_40 : decode cX11_foretold 40 = .ok (.invokevirtual 268, 3) := by decide +kernel
theorem dX11_foretold_43 : decode cX11_foretold 43 = .ok (.iconst 0, 1) := by decide +kernel
theorem dX11_foretold_44 : decode cX11_foretold 44 = .ok (.istore 4, 2) := by decide +kernel
theorem dX11_foretold_46 : decode cX11_foretold 46 = .ok (.iload 4, 2) := by decide +kernel
theorem dX11_foretold_48 : decode cX11_foretold 48 = .ok (.iload_n 1, 1) := by decide +kernel
theorem dX11_foretold_49 : decode cX11_foretold 49 = .ok (.if_icmp .ge 41, 3) := by decide +kernel
theorem dX11_foretold_52 : decode cX11_foretold 52 = .ok (.aload_n 0, 1) := by decide +kernel
theorem dX11_foretold_53 : decode cX11_foretold 53 = .ok (.getfield 22, 3) := by decide +kernel
theorem dX11_foretold_56 : decode cX11_foretold 56 = .ok (.getfield 94, 3) := by decide +kernel
theorem dX11_foretold_59 : decode cX11_foretold 59 = .ok (.getfield 182, 3) := by decide +kernel
theorem dX11_foretold_62 : decode cX11_foretold 62 = .ok (.sipush 9999, 3) := by decide +kernel
theorem dX11_foretold_65 : decode cX11_foretold 65 = .ok (.if_icmp .ge 25, 3) := by decide +kernel
theorem dX11_foretold_68 : decode cX11_foretold 68 = .ok (.aload_n 0, 1) := by decide +kernel
theorem dX11_foretold_69 : decode cX11_foretold 69 = .ok (.getfield 51, 3) := by decide +kernel
theorem dX11_foretold_72 : decode cX11_foretold 72 = .ok (.aload_n 0, 1) := by decide +kernel
theorem dX11_foretold_73 : decode cX11_foretold 73 = .ok (.getfield 22, 3) := by decide +kernel
theorem dX11_foretold_76 : decode cX11_foretold 76 = .ok (.aload_n 0, 1) := by decide +kernel
theorem dX11_foretold_77 : decode cX11_foretold 77 = .ok (.invokevirtual 162, 3) := by decide +kernel
theorem dX11_foretold_80 : decode cX11_foretold 80 = .ok (.invokevirtual 185, 3) := by decide +kernel
theorem dX11_foretold_83 : decode cX11_foretold 83 = .ok (.pop, 1) := by decide +kernel
theorem dX11_foretold_84 : decode cX11_foretold 84 = .ok (.iinc 4 1, 3) := by decide +kernel
theorem dX11_foretold_87 : decode cX11_foretold 87 = .ok (.goto (-41), 3) := by decide +kernel
theorem dX11_foretold_90 : decode cX11_foretold 90 = .ok (.aload_n 0, 1) := by decide +kernel
theorem dX11_foretold_91 : decode cX11_foretold 91 = .ok (.getfield 22, 3) := by decide +kernel
theorem dX11_foretold_94 : decode cX11_foretold 94 = .ok (.iload_n 2, 1) := by decide +kernel
theorem dX11_foretold_95 : decode cX11_foretold 95 = .ok (.iload_n 3, 1) := by decide +kernel
theorem dX11_foretold_96 : decode cX11_foretold 96 = .ok (.invokevirtual 176, 3) := by decide +kernel
theorem dX11_foretold_99 : decode cX11_foretold 99 = .ok (.ireturn, 1) := by decide +kernel
def m11_foretold : pMT := (yX11_foretold, cX11_foretold, 5, some .int)
theorem mo11_foretold : mOK m11_foretold 3 := ⟨tb_i 984 (by decide +kernel), wi_RX11, ⟨wn_RX11.1, wn_RX11.2, by decide +kernel⟩, by decide, plainFor_of_name wp_RX11⟩
theorem mv11_foretold : mV m11_foretold := ⟨tb_i 982 (by decide +kernel), tb_i 983 (by decide +kernel)⟩
def f11_foretold_c46 (n : Nat) (O : (Nat → Nat → Option Nat)) : Nat → (Nat → Nat → Int32) → Nat → Int32 → Int32 → Int32 → Int32 → Option (Int32 × (Nat → Nat → Int32))
  | 0, _, _, _, _, _, _ => none
  | m + 1, I, b0, y1, y2, y3, y4 => (if y1 ≤ y4 then (f10_heardBy I O (rO O b0 2) y2 y3).bind fun r3 => some (r3, I) else (if (9999 : Int32) ≤ (I (rO O (rO O b0 2) 2) 4) then (f10_heardBy I O (rO O b0 2) y2 y3).bind fun r8 => some (r8, I) else (f11_ruling I O b0).bind fun r11 => (f4_passSunday n I O (rO O b0 7) (rO O b0 2) r11).bind fun r13 => f11_foretold_c46 n O m r13.2 b0 y1 y2 y3 (y4 + 1)))
set_option maxHeartbeats 4000000 in
set_option maxRecDepth 20000 in
theorem o11_foretold_c46 {g : pG} {Qx : Option Value → pW → Prop} {Z : pZ} {L : (Nat → Nat → Int64)} {O : (Nat → Nat → Option Nat)} {n : Nat} {res : Int32 × (Nat → Nat → Int32)} (d : Nat) (hW : WT Z O) (hQ : Qx (some (.int res.1)) (Z, res.2, L, O)) : ∀ (m : Nat) (I : (Nat → Nat → Int32)) (b0 : Nat) (y1 : Int32) (y2 : Int32) (y3 : Int32) (y4 : Int32), (Z[b0]? = some (11, 11)) → f11_foretold_c46 n O m I b0 y1 y2 y3 y4 = some res → Ok g (d + 8, RX11, cX11_foretold, 5, false, 0, 0, Z.length, pSl Z) Qx 46 [(0, .ref b0), (1, .int y1), (2, .int y2), (3, .int y3), (4, .int y4)] [] (Z, I, L, O) := by
  intro m
  induction m with
  | zero => intro I b0 y1 y2 y3 y4 hZ_b0 h; rw [f11_foretold_c46] at h; cases h
  | succ m ih =>
    intro I b0 y1 y2 y3 y4 hZ_b0 h
    rw [f11_foretold_c46] at h
    refine ok_iload dX11_foretold_46 4 rfl ?_
    refine ok_iload_n dX11_foretold_48 1 rfl ?_
    refine ok_icmp_ge (t := 90) dX11_foretold_49 (by decide) (fun hc1 => ?_) (fun hc1 => ?_)
    · have h := (if_pos hc1).symm.trans h
      refine ok_aload_n dX11_foretold_90 0 rfl ?_
      have hT2 : Z[(rO O b0 2)]? = some (10, 5) := (wt_f (ci := 11) (k := 2) hW hZ_b0 rfl).2
      refine ok_getR (ci := 11) (k := 2) dX11_foretold_91 flRX11_22 rfl hW hZ_b0 (by decide) ?_
      refine ok_iload_n dX11_foretold_94 2 rfl ?_
      refine ok_iload_n dX11_foretold_95 3 rfl ?_
      obtain ⟨r3, hr4, h⟩ := bd h
      refine ok_callV (d := ((d + 4) + 3)) (mt := m10_heardBy) (mc := 0) (ms := 0) (As := [.int y2, .int y3]) (r := []) dX11_foretold_96 mo10_heardBy mv10_heardBy lkRX11_176 rfl hT2 (q := (RX10, TX10, 5)) rfl rfl rfl (Nat.le_of_ble_eq_true rfl) (by show _ + 1 ≤ d + _; omega) (Nat.le_refl _) (Nat.le_refl _) (pRt_mono ?_)
      refine k10_heardBy (d + 4) hW hT2 hr4 ?_
      intro _
      show Ok g _ Qx 99 [(0, .ref b0), (1, .int y1), (2, .int y2), (3, .int y3), (4, .int y4)] [.int r3] (Z, I, L, O)
      cases h
      exact ok_iret dX11_foretold_99 hQ
    · have h := (if_neg hc1).symm.trans h
      refine ok_aload_n dX11_foretold_52 0 rfl ?_
      have hT5 : Z[(rO O b0 2)]? = some (10, 5) := (wt_f (ci := 11) (k := 2) hW hZ_b0 rfl).2
      refine ok_getR (ci := 11) (k := 2) dX11_foretold_53 flRX11_22 rfl hW hZ_b0 (by decide) ?_
      have hT6 : Z[(rO O (rO O b0 2) 2)]? = some (3, 6) := (wt_f (ci := 10) (k := 2) hW hT5 rfl).2
      refine ok_getR (ci := 10) (k := 2) dX11_foretold_56 flRX11_94 rfl hW hT5 (by decide) ?_
      refine ok_getI (ci := 3) (k := 4) dX11_foretold_59 flRX11_182 rfl hT6 (by decide) ?_
      refine ok_sipush (v := 9999) dX11_foretold_62 (by decide) ?_
      refine ok_icmp_ge (t := 90) dX11_foretold_65 (by decide) (fun hc7 => ?_) (fun hc7 => ?_)
      · have h := (if_pos hc7).symm.trans h
        refine ok_aload_n dX11_foretold_90 0 rfl ?_
        refine ok_getR (ci := 11) (k := 2) dX11_foretold_91 flRX11_22 rfl hW hZ_b0 (by decide) ?_
        refine ok_iload_n dX11_foretold_94 2 rfl ?_
        refine ok_iload_n dX11_foretold_95 3 rfl ?_
        obtain ⟨r8, hr9, h⟩ := bd h
        refine ok_callV (d := ((d + 4) + 3)) (mt := m10_heardBy) (mc := 0) (ms := 0) (As := [.int y2, .int y3]) (r := []) dX11_foretold_96 mo10_heardBy mv10_heardBy lkRX11_176 rfl hT5 (q := (RX10, TX10, 5)) rfl rfl rfl (Nat.le_of_ble_eq_true rfl) (by show _ + 1 ≤ d + _; omega) (Nat.le_refl _) (Nat.le_refl _) (pRt_mono ?_)
        refine k10_heardBy (d + 4) hW hT5 hr9 ?_
        intro _
        show Ok g _ Qx 99 [(0, .ref b0), (1, .int y1), (2, .int y2), (3, .int y3), (4, .int y4)] [.int r8] (Z, I, L, O)
        cases h
        exact ok_iret dX11_foretold_99 hQ
      · have h := (if_neg hc7).symm.trans h
        refine ok_aload_n dX11_foretold_68 0 rfl ?_
        have hT10 : Z[(rO O b0 7)]? = some (4, 1) := (wt_f (ci := 11) (k := 7) hW hZ_b0 rfl).2
        refine ok_getR (ci := 11) (k := 7) dX11_foretold_69 flRX11_51 rfl hW hZ_b0 (by decide) ?_
        refine ok_aload_n dX11_foretold_72 0 rfl ?_
        refine ok_getR (ci := 11) (k := 2) dX11_foretold_73 flRX11_22 rfl hW hZ_b0 (by decide) ?_
        refine ok_aload_n dX11_foretold_76 0 rfl ?_
        obtain ⟨r11, hr12, h⟩ := bd h
        have hSr11 := t11_ruling hW hZ_b0 hr12
        refine ok_callV (d := ((d + 4) + 3)) (mt := m11_ruling) (mc := 0) (ms := 0) (As := []) (r := [.ref (rO O b0 2), .ref (rO O b0 7)]) dX11_foretold_77 mo11_ruling mv11_ruling lkRX11_162 rfl hZ_b0 (q := (RX11, TX11, 11)) rfl rfl rfl (Nat.le_of_ble_eq_true rfl) (by show _ + 1 ≤ d + _; omega) (Nat.le_refl _) (Nat.le_refl _) (pRt_mono ?_)
        refine k11_ruling (d + 4) hW hZ_b0 hr12 ?_
        intro _
        show Ok g _ Qx 80 [(0, .ref b0), (1, .int y1), (2, .int y2), (3, .int y3), (4, .int y4)] [va_rf r11, .ref (rO O b0 2), .ref (rO O b0 7)] (Z, I, L, O)
        obtain ⟨r13, hr14, h⟩ := bd h
        refine ok_callV (d := ((d + 0) + 7)) (mt := m4_passSunday) (mc := 0) (ms := 0) (As := [.ref (rO O b0 2), va_rf r11]) (r := []) dX11_foretold_80 mo4_passSunday mv4_passSunday lkRX11_185 rfl hT10 (q := (RX4, TX4, 1)) rfl rfl rfl (Nat.le_of_ble_eq_true rfl) (by show _ + 1 ≤ d + _; omega) (Nat.le_refl _) (Nat.le_refl _) (pRt_mono ?_)
        refine k4_passSunday (d + 0) hW hT10 hT5 hSr11 hr14 ?_
        intro _
        show Ok g _ Qx 83 [(0, .ref b0), (1, .int y1), (2, .int y2), (3, .int y3), (4, .int y4)] [.int r13.1] (Z, r13.2, L, O)
        refine ok_pop dX11_foretold_83 rfl ?_
        refine ok_iinc (u := (y4 + 1)) (l' := [(4, .int (y4 + 1)), (0, .ref b0), (1, .int y1), (2, .int y2), (3, .int y3)]) dX11_foretold_84 4 rfl rfl (Nat.le_of_ble_eq_true rfl) rfl ?_
        refine ok_goto (t := 46) dX11_foretold_87 (by decide) ?_
        refine ok_sub [1, 2, 3, 4, 0] rfl ?_
        exact ih r13.2 b0 y1 y2 y3 (y4 + 1) hZ_b0 h
def f11_foretold (n : Nat) (I : (Nat → Nat → Int32)) (O : (Nat → Nat → Option Nat)) (a0 : Nat) (x1 : Int32) (x2 : Int32) (x3 : Int32) : Option (Int32 × (Nat → Nat → Int32)) := (if x1 < (1 : Int32) then some (((-1) : Int32), I) else (if (60 : Int32) < x1 then some (((-1) : Int32), I) else (f10_heardBy I O (rO O (rO O a0 0) 0) x2 x3).bind fun r5 => (if r5 = (-1 : Int32) then some (((-1) : Int32), I) else (f10_take I O (rO O a0 2) (rO O (rO O a0 0) 0)).bind fun r9 => f11_foretold_c46 n O n r9 a0 x1 x2 x3 (0 : Int32))))
set_option maxHeartbeats 4000000 in
set_option maxRecDepth 20000 in
theorem o11_foretold {g : pG} {Qx : Option Value → pW → Prop} {Z : pZ} {I : (Nat → Nat → Int32)} {L : (Nat → Nat → Int64)} {O : (Nat → Nat → Option Nat)} {n : Nat} {a0 : Nat} {x1 : Int32} {x2 : Int32} {x3 : Int32} {res : Int32 × (Nat → Nat → Int32)} (d : Nat) (hW : WT Z O) (hZ0 : Z[a0]? = some (11, 11)) (h : f11_foretold n I O a0 x1 x2 x3 = some res) (hQ : Qx (some (.int res.1)) (Z, res.2, L, O)) : Ok g (d + 8, RX11, cX11_foretold, 5, false, 0, 0, Z.length, pSl Z) Qx 0 [(0, .ref a0), (1, .int x1), (2, .int x2), (3, .int x3)] [] (Z, I, L, O) := by
  unfold f11_foretold at h
  refine ok_iload_n dX11_foretold_0 1 rfl ?_
  refine ok_iconst (v := 1) dX11_foretold_1 (by decide) ?_
  refine ok_icmp_lt (t := 27) dX11_foretold_2 (by decide) (fun hc1 => ?_) (fun hc1 => ?_)
  · have h := (if_pos hc1).symm.trans h
    refine ok_iconst (v := (-1)) dX11_foretold_27 (by decide) ?_
    cases h
    exact ok_iret dX11_foretold_28 hQ
  · have h := (if_neg hc1).symm.trans h
    refine ok_iload_n dX11_foretold_5 1 rfl ?_
    refine ok_bipush (v := 60) dX11_foretold_6 (by decide) ?_
    refine ok_icmp_gt (t := 27) dX11_foretold_8 (by decide) (fun hc2 => ?_) (fun hc2 => ?_)
    · have h := (if_pos hc2).symm.trans h
      refine ok_iconst (v := (-1)) dX11_foretold_27 (by decide) ?_
      cases h
      exact ok_iret dX11_foretold_28 hQ
    · have h := (if_neg hc2).symm.trans h
      refine ok_aload_n dX11_foretold_11 0 rfl ?_
      have hT3 : Z[(rO O a0 0)]? = some (9, 10) := (wt_f (ci := 11) (k := 0) hW hZ0 rfl).2
      refine ok_getR (ci := 11) (k := 0) dX11_foretold_12 flRX11_10 rfl hW hZ0 (by decide) ?_
      have hT4 : Z[(rO O (rO O a0 0) 0)]? = some (10, 5) := (wt_f (ci := 9) (k := 0) hW hT3 rfl).2
      refine ok_getR (ci := 9) (k := 0) dX11_foretold_15 flRX11_79 rfl hW hT3 (by decide) ?_
      refine ok_iload_n dX11_foretold_18 2 rfl ?_
      refine ok_iload_n dX11_foretold_19 3 rfl ?_
      obtain ⟨r5, hr6, h⟩ := bd h
      refine ok_callV (d := ((d + 4) + 3)) (mt := m10_heardBy) (mc := 0) (ms := 0) (As := [.int x2, .int x3]) (r := []) dX11_foretold_20 mo10_heardBy mv10_heardBy lkRX11_176 rfl hT4 (q := (RX10, TX10, 5)) rfl rfl rfl (Nat.le_of_ble_eq_true rfl) (by show _ + 1 ≤ d + _; omega) (Nat.le_refl _) (Nat.le_refl _) (pRt_mono ?_)
      refine k10_heardBy (d + 4) hW hT4 hr6 ?_
      intro _
      show Ok g _ Qx 23 [(0, .ref a0), (1, .int x1), (2, .int x2), (3, .int x3)] [.int r5] (Z, I, L, O)
      refine ok_iconst (v := (-1)) dX11_foretold_23 (by decide) ?_
      refine ok_icmp_ne (t := 29) dX11_foretold_24 (by decide) (fun hc7 => ?_) (fun hc7 => ?_)
      · have h := (if_neg hc7).symm.trans h
        refine ok_aload_n dX11_foretold_29 0 rfl ?_
        have hT8 : Z[(rO O a0 2)]? = some (10, 5) := (wt_f (ci := 11) (k := 2) hW hZ0 rfl).2
        refine ok_getR (ci := 11) (k := 2) dX11_foretold_30 flRX11_22 rfl hW hZ0 (by decide) ?_
        refine ok_aload_n dX11_foretold_33 0 rfl ?_
        refine ok_getR (ci := 11) (k := 0) dX11_foretold_34 flRX11_10 rfl hW hZ0 (by decide) ?_
        refine ok_getR (ci := 9) (k := 0) dX11_foretold_37 flRX11_79 rfl hW hT3 (by decide) ?_
        obtain ⟨r9, hr10, h⟩ := bd h
        refine ok_callV (d := ((d + 4) + 3)) (mt := m10_take) (mc := 0) (ms := 0) (As := [.ref (rO O (rO O a0 0) 0)]) (r := []) dX11_foretold_40 mo10_take mv10_take lkRX11_268 rfl hT8 (q := (RX10, TX10, 5)) rfl rfl rfl (Nat.le_of_ble_eq_true rfl) (by show _ + 1 ≤ d + _; omega) (Nat.le_refl _) (Nat.le_refl _) (pRt_mono ?_)
        refine k10_take (d + 4) hW hT8 hT4 hr10 ?_
        intro _
        show Ok g _ Qx 43 [(0, .ref a0), (1, .int x1), (2, .int x2), (3, .int x3)] [] (Z, r9, L, O)
        refine ok_iconst (v := 0) dX11_foretold_43 (by decide) ?_
        refine ok_istore (l' := [(4, .int 0), (0, .ref a0), (1, .int x1), (2, .int x2), (3, .int x3)]) dX11_foretold_44 (Nat.le_of_ble_eq_true rfl) rfl ?_
        refine ok_sub [1, 2, 3, 4, 0] rfl ?_
        exact o11_foretold_c46 d hW hQ  n r9 a0 x1 x2 x3 (0 : Int32) hZ0 h
      · have h := (if_pos hc7).symm.trans h
        refine ok_iconst (v := (-1)) dX11_foretold_27 (by decide) ?_
        cases h
        exact ok_iret dX11_foretold_28 hQ
theorem k11_foretold {g : pG} {Q : Option Value → pW → Prop} {Z : pZ} {I : (Nat → Nat → Int32)} {L : (Nat → Nat → Int64)} {O : (Nat → Nat → Option Nat)} {n : Nat} {a0 : Nat} {x1 : Int32} {x2 : Int32} {x3 : Int32} {res : Int32 × (Nat → Nat → Int32)} (d : Nat) (hW : WT Z O) (hZ0 : Z[a0]? = some (11, 11)) (h : f11_foretold n I O a0 x1 x2 x3 = some res) (hQ : Q (some (.int res.1)) (Z, res.2, L, O)) : CT g (d + 8) m11_foretold 0 0 [.ref a0, .int x1, .int x2, .int x3] (Z, I, L, O) Q :=
  ct_of_ok (mt := m11_foretold) (ini := false) mo11_foretold.2.2.2.2 (fun h => by cases h) (Nat.le_of_ble_eq_true rfl) (o11_foretold d hW hZ0 h ⟨trivial, hQ, rfl, rfl⟩)
theorem dX11_edit_0 : decode cX11_edit 0 = .ok (.aload_n 0, 1) := by decide +kernel
theorem dX11_edit_1 : decode cX11_edit 1 = .ok (.getfield 10, 3) := by decide +kernel
theorem dX11_edit_4 : decode cX11_edit 4 = .ok (.getfield 79, 3) := by decide +kernel
theorem dX11_edit_7 : decode cX11_edit 7 = .ok (.iload_n 1, 1) := by decide +kernel
theorem dX11_edit_8 : decode cX11_edit 8 = .ok (.invokevirtual 152, 3) := by decide +kernel
theorem dX11_edit_11 : decode cX11_edit 11 = .ok (.ifCond .eq 17, 3) := by decide +kernel
theorem dX11_edit_14 : decode cX11_edit 14 = .ok (.aload_n 0, 1) := by decide +kernel
theorem dX11_edit_15 : decode cX11_edit 15 = .ok (.getfield 10, 3) := by decide +kernel
theorem dX11_edit_18 : decode cX11_edit 18 = .ok (.getfield 79, 3) := by decide +kernel
theorem dX11_edit_21 : decode cX11_edit 21 = .ok (.iload_n 2, 1) := by decide +kernel
theorem dX11_edit_22 : decode cX11_edit 22 = .ok (.invokevirtual 152, 3) := by decide +kernel
theorem dX11_edit_25 : decode cX11_edit 25 = .ok (.ifCond .ne 5, 3) := by decide +kernel
theorem dX11_edit_28 : decode cX11_edit 28 = .ok (.iconst (-1), 1) := by decide +kernel
theorem dX11_edit_29 : decode cX11_edit 29 = .ok (.ireturn, 1) := by decide +kernel
theorem dX11_edit_30 : decode cX11_edit 30 = .ok (.aload_n 0, 1) := by decide +kernel
theorem dX11_edit_31 : decode cX11_edit 31 = .ok (.getfield 58, 3) := by decide +kernel
theorem dX11_edit_34 : decode cX11_edit 34 = .ok (.aload_n 0, 1) := by decide +kernel
theorem dX11_edit_35 : decode cX11_edit 35 = .ok (.getfield 10, 3) := by decide +kernel
theorem dX11_edit_38 : decode cX11_edit 38 = .ok (.getfield 79, 3) := by decide +kernel
theorem dX11_edit_41 : decode cX11_edit 41 = .ok (.iload_n 1, 1) := by decide +kernel
theorem dX11_edit_42 : decode cX11_edit 42 = .ok (.iload_n 2, 1) := by decide +kernel
theorem dX11_edit_43 : decode cX11_edit 43 = .ok (.invokevirtual 272, 3) := by decide +kernel
theorem dX11_edit_46 : decode cX11_edit 46 = .ok (.ireturn, 1) := by decide +kernel
def m11_edit : pMT := (yX11_edit, cX11_edit, 3, some .int)
theorem mo11_edit : mOK m11_edit 2 := ⟨tb_i 994 (by decide +kernel), wi_RX11, ⟨wn_RX11.1, wn_RX11.2, by decide +kernel⟩, by decide, plainFor_of_name wp_RX11⟩
theorem mv11_edit : mV m11_edit := ⟨tb_i 992 (by decide +kernel), tb_i 993 (by decide +kernel)⟩
def f11_edit (n : Nat) (I : (Nat → Nat → Int32)) (O : (Nat → Nat → Option Nat)) (a0 : Nat) (x1 : Int32) (x2 : Int32) : Option (Int32 × (Nat → Nat → Int32)) := (f10_hasRoll I (rO O (rO O a0 0) 0) x1).bind fun r3 => (if r3 = 0 then some (((-1) : Int32), I) else (f10_hasRoll I (rO O (rO O a0 0) 0) x2).bind fun r6 => (if r6 = 0 then some (((-1) : Int32), I) else (f2_changes n I O (rO O a0 8) (rO O (rO O a0 0) 0) x1 x2).bind fun r10 => some (r10.1, r10.2)))
set_option maxHeartbeats 4000000 in
set_option maxRecDepth 20000 in
theorem o11_edit {g : pG} {Qx : Option Value → pW → Prop} {Z : pZ} {I : (Nat → Nat → Int32)} {L : (Nat → Nat → Int64)} {O : (Nat → Nat → Option Nat)} {n : Nat} {a0 : Nat} {x1 : Int32} {x2 : Int32} {res : Int32 × (Nat → Nat → Int32)} (d : Nat) (hW : WT Z O) (hZ0 : Z[a0]? = some (11, 11)) (h : f11_edit n I O a0 x1 x2 = some res) (hQ : Qx (some (.int res.1)) (Z, res.2, L, O)) : Ok g (d + 6, RX11, cX11_edit, 3, false, 0, 0, Z.length, pSl Z) Qx 0 [(0, .ref a0), (1, .int x1), (2, .int x2)] [] (Z, I, L, O) := by
  unfold f11_edit at h
  refine ok_aload_n dX11_edit_0 0 rfl ?_
  have hT1 : Z[(rO O a0 0)]? = some (9, 10) := (wt_f (ci := 11) (k := 0) hW hZ0 rfl).2
  refine ok_getR (ci := 11) (k := 0) dX11_edit_1 flRX11_10 rfl hW hZ0 (by decide) ?_
  have hT2 : Z[(rO O (rO O a0 0) 0)]? = some (10, 5) := (wt_f (ci := 9) (k := 0) hW hT1 rfl).2
  refine ok_getR (ci := 9) (k := 0) dX11_edit_4 flRX11_79 rfl hW hT1 (by decide) ?_
  refine ok_iload_n dX11_edit_7 1 rfl ?_
  obtain ⟨r3, hr4, h⟩ := bd h
  refine ok_callV (d := ((d + 3) + 2)) (mt := m10_hasRoll) (mc := 0) (ms := 0) (As := [.int x1]) (r := []) dX11_edit_8 mo10_hasRoll mv10_hasRoll lkRX11_152 rfl hT2 (q := (RX10, TX10, 5)) rfl rfl rfl (Nat.le_of_ble_eq_true rfl) (by show _ + 1 ≤ d + _; omega) (Nat.le_refl _) (Nat.le_refl _) (pRt_mono ?_)
  refine k10_hasRoll (d + 3) hW hT2 hr4 ?_
  intro hbr3
  show Ok g _ Qx 11 [(0, .ref a0), (1, .int x1), (2, .int x2)] [.int r3] (Z, I, L, O)
  refine ok_if_eq (t := 28) dX11_edit_11 (by decide) (fun hc5 => ?_) (fun hc5 => ?_)
  · have h := (if_pos hc5).symm.trans h
    refine ok_iconst (v := (-1)) dX11_edit_28 (by decide) ?_
    cases h
    exact ok_iret dX11_edit_29 hQ
  · have h := (if_neg hc5).symm.trans h
    refine ok_aload_n dX11_edit_14 0 rfl ?_
    refine ok_getR (ci := 11) (k := 0) dX11_edit_15 flRX11_10 rfl hW hZ0 (by decide) ?_
    refine ok_getR (ci := 9) (k := 0) dX11_edit_18 flRX11_79 rfl hW hT1 (by decide) ?_
    refine ok_iload_n dX11_edit_21 2 rfl ?_
    obtain ⟨r6, hr7, h⟩ := bd h
    refine ok_callV (d := ((d + 3) + 2)) (mt := m10_hasRoll) (mc := 0) (ms := 0) (As := [.int x2]) (r := []) dX11_edit_22 mo10_hasRoll mv10_hasRoll lkRX11_152 rfl hT2 (q := (RX10, TX10, 5)) rfl rfl rfl (Nat.le_of_ble_eq_true rfl) (by show _ + 1 ≤ d + _; omega) (Nat.le_refl _) (Nat.le_refl _) (pRt_mono ?_)
    refine k10_hasRoll (d + 3) hW hT2 hr7 ?_
    intro hbr6
    show Ok g _ Qx 25 [(0, .ref a0), (1, .int x1), (2, .int x2)] [.int r6] (Z, I, L, O)
    refine ok_if_ne (t := 30) dX11_edit_25 (by decide) (fun hc8 => ?_) (fun hc8 => ?_)
    · have h := (if_neg hc8).symm.trans h
      refine ok_aload_n dX11_edit_30 0 rfl ?_
      have hT9 : Z[(rO O a0 8)]? = some (2, 10) := (wt_f (ci := 11) (k := 8) hW hZ0 rfl).2
      refine ok_getR (ci := 11) (k := 8) dX11_edit_31 flRX11_58 rfl hW hZ0 (by decide) ?_
      refine ok_aload_n dX11_edit_34 0 rfl ?_
      refine ok_getR (ci := 11) (k := 0) dX11_edit_35 flRX11_10 rfl hW hZ0 (by decide) ?_
      refine ok_getR (ci := 9) (k := 0) dX11_edit_38 flRX11_79 rfl hW hT1 (by decide) ?_
      refine ok_iload_n dX11_edit_41 1 rfl ?_
      refine ok_iload_n dX11_edit_42 2 rfl ?_
      obtain ⟨r10, hr11, h⟩ := bd h
      refine ok_callV (d := ((d + 0) + 5)) (mt := m2_changes) (mc := 0) (ms := 0) (As := [.ref (rO O (rO O a0 0) 0), .int x1, .int x2]) (r := []) dX11_edit_43 mo2_changes mv2_changes lkRX11_272 rfl hT9 (q := (RX2, TX2, 10)) rfl rfl rfl (Nat.le_of_ble_eq_true rfl) (by show _ + 1 ≤ d + _; omega) (Nat.le_refl _) (Nat.le_refl _) (pRt_mono ?_)
      refine k2_changes (d + 0) hW hT9 hT2 hr11 ?_
      intro _
      show Ok g _ Qx 46 [(0, .ref a0), (1, .int x1), (2, .int x2)] [.int r10.1] (Z, r10.2, L, O)
      cases h
      exact ok_iret dX11_edit_46 hQ
    · have h := (if_pos hc8).symm.trans h
      refine ok_iconst (v := (-1)) dX11_edit_28 (by decide) ?_
      cases h
      exact ok_iret dX11_edit_29 hQ
theorem k11_edit {g : pG} {Q : Option Value → pW → Prop} {Z : pZ} {I : (Nat → Nat → Int32)} {L : (Nat → Nat → Int64)} {O : (Nat → Nat → Option Nat)} {n : Nat} {a0 : Nat} {x1 : Int32} {x2 : Int32} {res : Int32 × (Nat → Nat → Int32)} (d : Nat) (hW : WT Z O) (hZ0 : Z[a0]? = some (11, 11)) (h : f11_edit n I O a0 x1 x2 = some res) (hQ : Q (some (.int res.1)) (Z, res.2, L, O)) : CT g (d + 6) m11_edit 0 0 [.ref a0, .int x1, .int x2] (Z, I, L, O) Q :=
  ct_of_ok (mt := m11_edit) (ini := false) mo11_edit.2.2.2.2 (fun h => by cases h) (Nat.le_of_ble_eq_true rfl) (o11_edit d hW hZ0 h ⟨trivial, hQ, rfl, rfl⟩)
theorem dX11_common_0 : decode cX11_common 0 = .ok (.aload_n 0, 1) := by decide +kernel
theorem dX11_common_1 : decode cX11_common 1 = .ok (.getfield 10, 3) := by decide +kernel
theorem dX11_common_4 : decode cX11_common 4 = .ok (.getfield 79, 3) := by decide +kernel
theorem dX11_common_7 : decode cX11_common 7 = .ok (.iload_n 1, 1) := by decide +kernel
theorem dX11_common_8 : decode cX11_common 8 = .ok (.invokevirtual 152, 3) := by decide +kernel
theorem dX11_common_11 : decode cX11_common 11 = .ok (.ifCond .eq 17, 3) := by decide +kernel
theorem dX11_common_14 : decode cX11_common 14 = .ok (.aload_n 0, 1) := by decide +kernel
theorem dX11_common_15 : decode cX11_common 15 = .ok (.getfield 10, 3) := by decide +kernel
theorem dX11_common_18 : decode cX11_common 18 = .ok (.getfield 79, 3) := by decide +kernel
theorem dX11_common_21 : decode cX11_common 21 = .ok (.iload_n 2, 1) := by decide +kernel
theorem dX11_common_22 : decode cX11_common 22 = .ok (.invokevirtual 152, 3) := by decide +kernel
theorem dX11_common_25 : decode cX11_common 25 = .ok (.ifCond .ne 6, 3) := by decide +kernel
theorem dX11_common_28 : decode cX11_common 28 = .ok (.bipush (-2), 2) := by decide +kernel
theorem dX11_common_30 : decode cX11_common 30 = .ok (.ireturn, 1) := by decide +kernel
theorem dX11_common_31 : decode cX11_common 31 = .ok (.aload_n 0, 1) := by decide +kernel
theorem dX11_common_32 : decode cX11_common 32 = .ok (.getfield 58, 3) := by decide +kernel
theorem dX11_common_35 : decode cX11_common 35 = .ok (.aload_n 0, 1) := by decide +kernel
theorem dX11_common_36 : decode cX11_common 36 = .ok (.getfield 10, 3) := by decide +kernel
theorem dX11_common_39 : decode cX11_common 39 = .ok (.getfield 79, 3) := by decide +kernel
theorem dX11_common_42 : decode cX11_common 42 = .ok (.iload_n 1, 1) := by decide +kernel
theorem dX11_common_43 : decode cX11_common 43 = .ok (.iload_n 2, 1) := by decide +kernel
theorem dX11_common_44 : decode cX11_common 44 = .ok (.invokevirtual 276, 3) := by decide +kernel
theorem dX11_common_47 : decode cX11_common 47 = .ok (.istore 4, 2) := by decide +kernel
theorem dX11_common_49 : decode cX11_common 49 = .ok (.iload_n 3, 1) := by decide +kernel
theorem dX11_common_50 : decode cX11_common 50 = .ok (.iconst (-1), 1) := by decide +kernel
theorem dX11_common_51 : decode cX11_common 51 = .ok (.if_icmp .ne 6, 3) := by decide +kernel
theorem dX11_common_54 : decode cX11_common 54 = .ok (.iload 4, 2) := by decide +kernel
theorem dX11_common_56 : decode cX11_common 56 = .ok (.ireturn, 1) := by decide +kernel
theorem dX11_common_57 : decode cX11_common 57 = .ok (.iload_n 3, 1) := by decide +kernel
theorem dX11_common_58 : decode cX11_common 58 = .ok (.ifCond .lt 20, 3) := by decide +kernel
theorem dX11_common_61 : decode cX11_common 61 = .ok (.iload_n 3, 1) := by decide +kernel
theorem dX11_common_62 : decode cX11_common 62 = .ok (.iload 4, 2) := by decide +kernel
theorem dX11_common_64 : decode cX11_common 64 = .ok (.if_icmp .ge 14, 3) := by decide +kernel
theorem dX11_common_67 : decode cX11_common 67 = .ok (.aload_n 0, 1) := by decide +kernel
theorem dX11_common_68 : decode cX11_common 68 = .ok (.getfield 58, 3) := by decide +kernel
theorem dX11_common_71 : decode cX11_common 71 = .ok (.iload_n 3, 1) := by decide +kernel
theorem dX11_common_72 : decode cX11_common 72 = .ok (.invokevirtual 279, 3) := by decide +kernel
theorem dX11_common_75 : decode cX11_common 75 = .ok (.goto 5, 3) := by decide +kernel
theorem dX11_common_78 : decode cX11_common 78 = .ok (.bipush (-2), 2) := by decide +kernel
theorem dX11_common_80 : decode cX11_common 80 = .ok (.ireturn, 1) := by decide +kernel
def m11_common : pMT := (yX11_common, cX11_common, 5, some .int)
theorem mo11_common : mOK m11_common 3 := ⟨tb_i 1016 (by decide +kernel), wi_RX11, ⟨wn_RX11.1, wn_RX11.2, by decide +kernel⟩, by decide, plainFor_of_name wp_RX11⟩
theorem mv11_common : mV m11_common := ⟨tb_i 1014 (by decide +kernel), tb_i 1015 (by decide +kernel)⟩
def f11_common (n : Nat) (I : (Nat → Nat → Int32)) (O : (Nat → Nat → Option Nat)) (a0 : Nat) (x1 : Int32) (x2 : Int32) (x3 : Int32) : Option (Int32 × (Nat → Nat → Int32)) := (f10_hasRoll I (rO O (rO O a0 0) 0) x1).bind fun r3 => (if r3 = 0 then some (((-2) : Int32), I) else (f10_hasRoll I (rO O (rO O a0 0) 0) x2).bind fun r6 => (if r6 = 0 then some (((-2) : Int32), I) else (f2_findShared n I O (rO O a0 8) (rO O (rO O a0 0) 0) x1 x2).bind fun r10 => (if x3 = (-1 : Int32) then some (r10.1, r10.2) else (if x3 < 0 then some (((-2) : Int32), r10.2) else (if r10.1 ≤ x3 then some (((-2) : Int32), r10.2) else (f2_sharedPlace r10.2 O (rO O a0 8) x3).bind fun r15 => some (r15, r10.2))))))
set_option maxHeartbeats 4000000 in
set_option maxRecDepth 20000 in
theorem o11_common {g : pG} {Qx : Option Value → pW → Prop} {Z : pZ} {I : (Nat → Nat → Int32)} {L : (Nat → Nat → Int64)} {O : (Nat → Nat → Option Nat)} {n : Nat} {a0 : Nat} {x1 : Int32} {x2 : Int32} {x3 : Int32} {res : Int32 × (Nat → Nat → Int32)} (d : Nat) (hW : WT Z O) (hZ0 : Z[a0]? = some (11, 11)) (h : f11_common n I O a0 x1 x2 x3 = some res) (hQ : Qx (some (.int res.1)) (Z, res.2, L, O)) : Ok g (d + 7, RX11, cX11_common, 5, false, 0, 0, Z.length, pSl Z) Qx 0 [(0, .ref a0), (1, .int x1), (2, .int x2), (3, .int x3)] [] (Z, I, L, O) := by
  unfold f11_common at h
  refine ok_aload_n dX11_common_0 0 rfl ?_
  have hT1 : Z[(rO O a0 0)]? = some (9, 10) := (wt_f (ci := 11) (k := 0) hW hZ0 rfl).2
  refine ok_getR (ci := 11) (k := 0) dX11_common_1 flRX11_10 rfl hW hZ0 (by decide) ?_
  have hT2 : Z[(rO O (rO O a0 0) 0)]? = some (10, 5) := (wt_f (ci := 9) (k := 0) hW hT1 rfl).2
  refine ok_getR (ci := 9) (k := 0) dX11_common_4 flRX11_79 rfl hW hT1 (by decide) ?_
  refine ok_iload_n dX11_common_7 1 rfl ?_
  obtain ⟨r3, hr4, h⟩ := bd h
  refine ok_callV (d := ((d + 4) + 2)) (mt := m10_hasRoll) (mc := 0) (ms := 0) (As := [.int x1]) (r := []) dX11_common_8 mo10_hasRoll mv10_hasRoll lkRX11_152 rfl hT2 (q := (RX10, TX10, 5)) rfl rfl rfl (Nat.le_of_ble_eq_true rfl) (by show _ + 1 ≤ d + _; omega) (Nat.le_refl _) (Nat.le_refl _) (pRt_mono ?_)
  refine k10_hasRoll (d + 4) hW hT2 hr4 ?_
  intro hbr3
  show Ok g _ Qx 11 [(0, .ref a0), (1, .int x1), (2, .int x2), (3, .int x3)] [.int r3] (Z, I, L, O)
  refine ok_if_eq (t := 28) dX11_common_11 (by decide) (fun hc5 => ?_) (fun hc5 => ?_)
  · have h := (if_pos hc5).symm.trans h
    refine ok_bipush (v := (-2)) dX11_common_28 (by decide) ?_
    cases h
    exact ok_iret dX11_common_30 hQ
  · have h := (if_neg hc5).symm.trans h
    refine ok_aload_n dX11_common_14 0 rfl ?_
    refine ok_getR (ci := 11) (k := 0) dX11_common_15 flRX11_10 rfl hW hZ0 (by decide) ?_
    refine ok_getR (ci := 9) (k := 0) dX11_common_18 flRX11_79 rfl hW hT1 (by decide) ?_
    refine ok_iload_n dX11_common_21 2 rfl ?_
    obtain ⟨r6, hr7, h⟩ := bd h
    refine ok_callV (d := ((d + 4) + 2)) (mt := m10_hasRoll) (mc := 0) (ms := 0) (As := [.int x2]) (r := []) dX11_common_22 mo10_hasRoll mv10_hasRoll lkRX11_152 rfl hT2 (q := (RX10, TX10, 5)) rfl rfl rfl (Nat.le_of_ble_eq_true rfl) (by show _ + 1 ≤ d + _; omega) (Nat.le_refl _) (Nat.le_refl _) (pRt_mono ?_)
    refine k10_hasRoll (d + 4) hW hT2 hr7 ?_
    intro hbr6
    show Ok g _ Qx 25 [(0, .ref a0), (1, .int x1), (2, .int x2), (3, .int x3)] [.int r6] (Z, I, L, O)
    refine ok_if_ne (t := 31) dX11_common_25 (by decide) (fun hc8 => ?_) (fun hc8 => ?_)
    · have h := (if_neg hc8).symm.trans h
      refine ok_aload_n dX11_common_31 0 rfl ?_
      have hT9 : Z[(rO O a0 8)]? = some (2, 10) := (wt_f (ci := 11) (k := 8) hW hZ0 rfl).2
      refine ok_getR (ci := 11) (k := 8) dX11_common_32 flRX11_58 rfl hW hZ0 (by decide) ?_
      refine ok_aload_n dX11_common_35 0 rfl ?_
      refine ok_getR (ci := 11) (k := 0) dX11_common_36 flRX11_10 rfl hW hZ0 (by decide) ?_
      refine ok_getR (ci := 9) (k := 0) dX11_common_39 flRX11_79 rfl hW hT1 (by decide) ?_
      refine ok_iload_n dX11_common_42 1 rfl ?_
      refine ok_iload_n dX11_common_43 2 rfl ?_
      obtain ⟨r10, hr11, h⟩ := bd h
      refine ok_callV (d := ((d + 0) + 6)) (mt := m2_findShared) (mc := 0) (ms := 0) (As := [.ref (rO O (rO O a0 0) 0), .int x1, .int x2]) (r := []) dX11_common_44 mo2_findShared mv2_findShared lkRX11_276 rfl hT9 (q := (RX2, TX2, 10)) rfl rfl rfl (Nat.le_of_ble_eq_true rfl) (by show _ + 1 ≤ d + _; omega) (Nat.le_refl _) (Nat.le_refl _) (pRt_mono ?_)
      refine k2_findShared (d + 0) hW hT9 hT2 hr11 ?_
      intro _
      show Ok g _ Qx 47 [(0, .ref a0), (1, .int x1), (2, .int x2), (3, .int x3)] [.int r10.1] (Z, r10.2, L, O)
      refine ok_istore (l' := [(4, .int r10.1), (0, .ref a0), (1, .int x1), (2, .int x2), (3, .int x3)]) dX11_common_47 (Nat.le_of_ble_eq_true rfl) rfl ?_
      refine ok_iload_n dX11_common_49 4 rfl ?_
      refine ok_iconst (v := (-1)) dX11_common_50 (by decide) ?_
      refine ok_icmp_ne (t := 57) dX11_common_51 (by decide) (fun hc12 => ?_) (fun hc12 => ?_)
      · have h := (if_neg hc12).symm.trans h
        refine ok_iload_n dX11_common_57 4 rfl ?_
        refine ok_if_lt (t := 78) dX11_common_58 (by decide) (fun hc13 => ?_) (fun hc13 => ?_)
        · have h := (if_pos hc13).symm.trans h
          refine ok_bipush (v := (-2)) dX11_common_78 (by decide) ?_
          cases h
          exact ok_iret dX11_common_80 hQ
        · have h := (if_neg hc13).symm.trans h
          refine ok_iload_n dX11_common_61 4 rfl ?_
          refine ok_iload dX11_common_62 0 rfl ?_
          refine ok_icmp_ge (t := 78) dX11_common_64 (by decide) (fun hc14 => ?_) (fun hc14 => ?_)
          · have h := (if_pos hc14).symm.trans h
            refine ok_bipush (v := (-2)) dX11_common_78 (by decide) ?_
            cases h
            exact ok_iret dX11_common_80 hQ
          · have h := (if_neg hc14).symm.trans h
            refine ok_aload_n dX11_common_67 1 rfl ?_
            refine ok_getR (ci := 11) (k := 8) dX11_common_68 flRX11_58 rfl hW hZ0 (by decide) ?_
            refine ok_iload_n dX11_common_71 4 rfl ?_
            obtain ⟨r15, hr16, h⟩ := bd h
            refine ok_callV (d := ((d + 4) + 2)) (mt := m2_sharedPlace) (mc := 0) (ms := 0) (As := [.int x3]) (r := []) dX11_common_72 mo2_sharedPlace mv2_sharedPlace lkRX11_279 rfl hT9 (q := (RX2, TX2, 10)) rfl rfl rfl (Nat.le_of_ble_eq_true rfl) (by show _ + 1 ≤ d + _; omega) (Nat.le_refl _) (Nat.le_refl _) (pRt_mono ?_)
            refine k2_sharedPlace (d + 4) hW hT9 hr16 ?_
            intro _
            show Ok g _ Qx 75 [(4, .int r10.1), (0, .ref a0), (1, .int x1), (2, .int x2), (3, .int x3)] [.int r15] (Z, r10.2, L, O)
            refine ok_goto (t := 80) dX11_common_75 (by decide) ?_
            cases h
            exact ok_iret dX11_common_80 hQ
      · have h := (if_pos hc12).symm.trans h
        refine ok_iload dX11_common_54 0 rfl ?_
        cases h
        exact ok_iret dX11_common_56 hQ
    · have h := (if_pos hc8).symm.trans h
      refine ok_bipush (v := (-2)) dX11_common_28 (by decide) ?_
      cases h
      exact ok_iret dX11_common_30 hQ
theorem k11_common {g : pG} {Q : Option Value → pW → Prop} {Z : pZ} {I : (Nat → Nat → Int32)} {L : (Nat → Nat → Int64)} {O : (Nat → Nat → Option Nat)} {n : Nat} {a0 : Nat} {x1 : Int32} {x2 : Int32} {x3 : Int32} {res : Int32 × (Nat → Nat → Int32)} (d : Nat) (hW : WT Z O) (hZ0 : Z[a0]? = some (11, 11)) (h : f11_common n I O a0 x1 x2 x3 = some res) (hQ : Q (some (.int res.1)) (Z, res.2, L, O)) : CT g (d + 7) m11_common 0 0 [.ref a0, .int x1, .int x2, .int x3] (Z, I, L, O) Q :=
  ct_of_ok (mt := m11_common) (ini := false) mo11_common.2.2.2.2 (fun h => by cases h) (Nat.le_of_ble_eq_true rfl) (o11_common d hW hZ0 h ⟨trivial, hQ, rfl, rfl⟩)
