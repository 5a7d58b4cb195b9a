theorem flRX4_9 : FL RX4 9 4 0 := ⟨(RX4, TX4, 1), rfl, by decide, tb_i 225 (by decide +kernel)⟩
theorem flRX4_31 : FL RX4 31 10 2 := ⟨(RX10, TX10, 5), rfl, by decide, tb_i 82 (by decide +kernel)⟩
theorem flRX4_61 : FL RX4 61 10 3 := ⟨(RX10, TX10, 5), rfl, by decide, tb_i 87 (by decide +kernel)⟩
theorem flRX4_65 : FL RX4 65 10 4 := ⟨(RX10, TX10, 5), rfl, by decide, tb_i 91 (by decide +kernel)⟩
theorem flRX4_72 : FL RX4 72 3 4 := ⟨(RX3, TX3, 6), rfl, by decide, tb_i 58 (by decide +kernel)⟩
theorem flRX4_75 : FL RX4 75 3 5 := ⟨(RX3, TX3, 6), rfl, by decide, tb_i 62 (by decide +kernel)⟩
theorem lkRX4_15 : Cond.methodLink RX4 15 yX10_size ∈ lw_tbl := tb_i 699 (by decide +kernel)
theorem lkRX4_21 : Cond.methodLink RX4 21 yX10_sounds ∈ lw_tbl := tb_i 704 (by decide +kernel)
theorem lkRX4_25 : Cond.methodLink RX4 25 yX1_blurs ∈ lw_tbl := tb_i 709 (by decide +kernel)
theorem lkRX4_35 : Cond.methodLink RX4 35 yX3_draw ∈ lw_tbl := tb_i 793 (by decide +kernel)
theorem lkRX4_40 : Cond.methodLink RX4 40 yX10_keyAt ∈ lw_tbl := tb_i 801 (by decide +kernel)
theorem lkRX4_44 : Cond.methodLink RX4 44 yX10_hear ∈ lw_tbl := tb_i 802 (by decide +kernel)
theorem lkRX4_48 : Cond.methodLink RX4 48 yX10_wearAt ∈ lw_tbl := tb_i 807 (by decide +kernel)
theorem lkRX4_51 : Cond.methodLink RX4 51 yX1_wears ∈ lw_tbl := tb_i 808 (by decide +kernel)
theorem lkRX4_54 : Cond.methodLink RX4 54 yX10_wearMore ∈ lw_tbl := tb_i 812 (by decide +kernel)
theorem lkRX4_58 : Cond.methodLink RX4 58 yX3_write ∈ lw_tbl := tb_i 816 (by decide +kernel)
theorem lkRX4_68 : Cond.methodLink RX4 68 yX4_playRoll ∈ lw_tbl := tb_i 849 (by decide +kernel)
theorem lkRX4_78 : Cond.methodLink RX4 78 yX3_drawAnew ∈ lw_tbl := tb_i 887 (by decide +kernel)
theorem lkRX4_81 : Cond.methodLink RX4 81 yX10_hasRoll ∈ lw_tbl := tb_i 888 (by decide +kernel)
theorem lkRX4_85 : Cond.methodLink RX4 85 yX10_hasChild ∈ lw_tbl := tb_i 889 (by decide +kernel)
theorem lkRX4_88 : Cond.methodLink RX4 88 yX10_mend ∈ lw_tbl := tb_i 890 (by decide +kernel)
theorem lkRX4_91 : Cond.methodLink RX4 91 yX10_unhear ∈ lw_tbl := tb_i 891 (by decide +kernel)
theorem lkRX4_94 : Cond.methodLink RX4 94 yX4_passSunday ∈ lw_tbl := tb_i 892 (by decide +kernel)
theorem lkRX4_98 : Cond.methodLink RX4 98 yX4_playingsToTearPlace ∈ lw_tbl := tb_i 951 (by decide +kernel)
theorem lkRX4_101 : Cond.methodLink RX4 101 yJ9_min_7cf53 ∈ lw_tbl := tb_i 955 (by decide +kernel)
theorem dX4_playRoll_0 : decode cX4_playRoll 0 = .ok (.iconst 0, 1) := by decide +kernel
theorem dX4_playRoll_1 : decode cX4_playRoll 1 = .ok (.istore 5, 2) := by decide +kernel
theorem dX4_playRoll_3 : decode cX4_playRoll 3 = .ok (.iconst 0, 1) := by decide +kernel
theorem dX4_playRoll_4 : decode cX4_playRoll 4 = .ok (.istore 6, 2) := by decide +kernel
theorem dX4_playRoll_6 : decode cX4_playRoll 6 = .ok (.iload 6, 2) := by decide +kernel
theorem dX4_playRoll_8 : decode cX4_playRoll 8 = .ok (.aload_n 1, 1) := by decide +kernel
theorem dX4_playRoll_9 : decode cX4_playRoll 9 = .ok (.iload_n 3, 1) := by decide +kernel
theorem dX4_playRoll_10 : decode cX4_playRoll 10 = .ok (.invokevirtual 15, 3) := by decide +kernel
theorem dX4_playRoll_13 : decode cX4_playRoll 13 = .ok (.if_icmp .ge 91, 3) := by decide +kernel
theorem dX4_playRoll_16 : decode cX4_playRoll 16 = .ok (.aload_n 1, 1) := by decide +kernel
theorem dX4_playRoll_17 : decode cX4_playRoll 17 = .ok (.iload_n 3, 1) := by decide +kernel
theorem dX4_playRoll_18 : decode cX4_playRoll 18 = .ok (.iload 6, 2) := by decide +kernel
theorem dX4_playRoll_20 : decode cX4_playRoll 20 = .ok (.invokevirtual 21, 3) := by decide +kernel
theorem dX4_playRoll_23 : decode cX4_playRoll 23 = .ok (.ifCond .eq 75, 3) := by decide +kernel
theorem dX4_playRoll_26 : decode cX4_playRoll 26 = .ok (.aload_n 0, 1) := by decide +kernel
theorem dX4_playRoll_27 : decode cX4_playRoll 27 = .ok (.getfield 9, 3) := by decide +kernel
theorem dX4_playRoll_30 : decode cX4_playRoll 30 = .ok (.aload_n 2, 1) := by decide +kernel
theorem dX4_playRoll_31 : decode cX4_playRoll 31 = .ok (.aload_n 1, 1) := by decide +kernel
theorem dX4_playRoll_32 : decode cX4_playRoll 32 = .ok (.iload_n 3, 1) := by decide +kernel
theorem dX4_playRoll_33 : decode cX4_playRoll 33 = .ok (.iload 6, 2) := by decide +kernel
theorem dX4_playRoll_35 : decode cX4_playRoll 35 = .ok (.iload 4, 2) := by decide +kernel
theorem dX4_playRoll_37 : decode cX4_playRoll 37 = .ok (.invokevirtual 25, 3) := by decide +kernel
theorem dX4_playRoll_40 : decode cX4_playRoll 40 = .ok (.istore 7, 2) := by decide +kernel
theorem dX4_playRoll_42 : decode cX4_playRoll 42 = .ok (.aload_n 1, 1) := by decide +kernel
theorem dX4_playRoll_43 : decode cX4_playRoll 43 = .ok (.getfield 31, 3) := by decide +kernel
theorem dX4_playRoll_46 : decode cX4_playRoll 46 = .ok (.bipush 10, 2) := by decide +kernel
theorem dX4_playRoll_48 : decode cX4_playRoll 48 = .ok (.invokevirtual 35, 3) := by decide +kernel
theorem dX4_playRoll_51 : decode cX4_playRoll 51 = .ok (.iload 7, 2) := by decide +kernel
theorem dX4_playRoll_53 : decode cX4_playRoll 53 = .ok (.if_icmp .lt 19, 3) := by decide +kernel
theorem dX4_playRoll_56 : decode cX4_playRoll 56 = .ok (.aload_n 1, 1) := by decide +kernel
theorem dX4_playRoll_57 : decode cX4_playRoll 57 = .ok (.iload 4, 2) := by decide +kernel
theorem dX4_playRoll_59 : decode cX4_playRoll 59 = .ok (.aload_n 1, 1) := by decide +kernel
theorem dX4_playRoll_60 : decode cX4_playRoll 60 = .ok (.iload_n 3, 1) := by decide +kernel
theorem dX4_playRoll_61 : decode cX4_playRoll 61 = .ok (.iload 6, 2) := by decide +kernel
theorem dX4_playRoll_63 : decode cX4_playRoll 63 = .ok (.invokevirtual 40, 3) := by decide +kernel
theorem dX4_playRoll_66 : decode cX4_playRoll 66 = .ok (.invokevirtual 44, 3) := by decide +kernel
theorem dX4_playRoll_69 : decode cX4_playRoll 69 = .ok (.iinc 5 1, 3) := by decide +kernel
theorem dX4_playRoll_72 : decode cX4_playRoll 72 = .ok (.aload_n 1, 1) := by decide +kernel
theorem dX4_playRoll_73 : decode cX4_playRoll 73 = .ok (.iload_n 3, 1) := by decide +kernel
theorem dX4_playRoll_74 : decode cX4_playRoll 74 = .ok (.iload 6, 2) := by decide +kernel
theorem dX4_playRoll_76 : decode cX4_playRoll 76 = .ok (.aload_n 0, 1) := by decide +kernel
theorem dX4_playRoll_77 : decode cX4_playRoll 77 = .ok (.getfield 9, 3) := by decide +kernel
theorem dX4_playRoll_80 : decode cX4_playRoll 80 = .ok (.aload_n 2, 1) := by decide +kernel
theorem dX4_playRoll_81 : decode cX4_playRoll 81 = .ok (.aload_n 1, 1) := by decide +kernel
theorem dX4_playRoll_82 : decode cX4_playRoll 82 = .ok (.iload_n 3, 1) := by decide +kernel
theorem dX4_playRoll_83 : decode cX4_playRoll 83 = .ok (.iload 6, 2) := by decide +kernel
theorem dX4_playRoll_85 : decode cX4_playRoll 85 = .ok (.aload_n 1, 1) := by decide +kernel
theorem dX4_playRoll_86 : decode cX4_playRoll 86 = .ok (.iload_n 3, 1) := by decide +kernel
theorem dX4_playRoll_87 : decode cX4_playRoll 87 = .ok (.iload 6, 2) := by decide +kernel
theorem dX4_playRoll_89 : decode cX4_playRoll 89 = .ok (.invokevirtual 48, 3) := by decide +kernel
theorem dX4_playRoll_92 : decode cX4_playRoll 92 = .ok (.invokevirtual 51, 3) := by decide +kernel
theorem dX4_playRoll_95 : decode cX4_playRoll 95 = .ok (.invokevirtual 54, 3) := by decide +kernel
theorem dX4_playRoll_98 : decode cX4_playRoll 98 = .ok (.iinc 6 1, 3) := by decide +kernel
theorem dX4_playRoll_101 : decode cX4_playRoll 101 = .ok (.goto (-95), 3) := by decide +kernel
theorem dX4_playRoll_104 : decode cX4_playRoll 104 = .ok (.aload_n 1, 1) := by decide +kernel
theorem dX4_playRoll_105 : decode cX4_playRoll 105 = .ok (.getfield 31, 3) := by decide +kernel
theorem dX4_playRoll_108 : decode cX4_playRoll 108 = .ok (.iload_n 3, 1) := by decide +kernel
theorem dX4_playRoll_109 : decode cX4_playRoll 109 = .ok (.iload 4, 2) := by decide +kernel
theorem dX4_playRoll_111 : decode cX4_playRoll 111 = .ok (.iload 5, 2) := by decide +kernel
theorem dX4_playRoll_113 : decode cX4_playRoll 113 = .ok (.invokevirtual 58, 3) := by decide +kernel
theorem dX4_playRoll_116 : decode cX4_playRoll 116 = .ok (.iload 5, 2) := by decide +kernel
theorem dX4_playRoll_118 : decode cX4_playRoll 118 = .ok (.ireturn, 1) := by decide +kernel
theorem wi_RX4 : Cond.initialized RX4 ∈ lw_tbl := tb_i 8 (by decide +kernel)
theorem wn_RX4 : RX4 ≠ "java/lang/invoke/MethodHandle" ∧ RX4 ≠ "java/lang/invoke/VarHandle" := ⟨by decide +kernel, by decide +kernel⟩
theorem wp_RX4 : plainName RX4 = true := by decide +kernel
def m4_playRoll : pMT := (yX4_playRoll, cX4_playRoll, 8, some .int)
theorem mo4_playRoll : mOK m4_playRoll 4 := ⟨tb_i 698 (by decide +kernel), wi_RX4, ⟨wn_RX4.1, wn_RX4.2, by decide +kernel⟩, by decide, plainFor_of_name wp_RX4⟩
theorem mv4_playRoll : mV m4_playRoll := ⟨tb_i 696 (by decide +kernel), tb_i 697 (by decide +kernel)⟩
def f4_playRoll_c72 (n : Nat) (O : (Nat → Nat → Option Nat)) (k6 : ((Nat → Nat → Int32) → Nat → Nat → Option Nat → Int32 → Int32 → Int32 → Int32 → Option (Int32 × (Nat → Nat → Int32)))) (I : (Nat → Nat → Int32)) (b0 : Nat) (b1 : Nat) (s2 : Option Nat) (y3 : Int32) (y4 : Int32) (y5 : Int32) (y6 : Int32) : Option (Int32 × (Nat → Nat → Int32)) := (f10_wearAt I O b1 y3 y6).bind fun r2 => (f1_wears n I O (rO O b0 0) s2 b1 y3 y6 r2).bind fun r4 => (f10_wearMore r4.2 O b1 y3 y6 r4.1).bind fun r6 => k6 r6 b0 b1 s2 y3 y4 y5 (y6 + 1)
set_option maxHeartbeats 4000000 in
set_option maxRecDepth 20000 in
theorem o4_playRoll_c72 {g : pG} {Qx : Option Value → pW → Prop} {Z : pZ} {L : (Nat → Nat → Int64)} {O : (Nat → Nat → Option Nat)} {n : Nat} {k6 : ((Nat → Nat → Int32) → Nat → Nat → Option Nat → Int32 → Int32 → Int32 → Int32 → Option (Int32 × (Nat → Nat → Int32)))} {res : Int32 × (Nat → Nat → Int32)} (d : Nat) (hW : WT Z O) (hQ : Qx (some (.int res.1)) (Z, res.2, L, O)) (hk6 : ∀ (I : (Nat → Nat → Int32)) (b0 : Nat) (b1 : Nat) (s2 : Option Nat) (y3 : Int32) (y4 : Int32) (y5 : Int32) (y6 : Int32), (Z[b0]? = some (4, 1)) → (Z[b1]? = some (10, 5)) → (∀ b, s2 = some b → Z[b]? = some (7, 7)) → k6 I b0 b1 s2 y3 y4 y5 y6 = some res → Ok g (d + 6, RX4, cX4_playRoll, 8, false, 0, 0, Z.length, pSl Z) Qx 6 [(0, .ref b0), (1, .ref b1), (2, va_rf s2), (3, .int y3), (4, .int y4), (5, .int y5), (6, .int y6)] [] (Z, I, L, O)) (I : (Nat → Nat → Int32)) (b0 : Nat) (b1 : Nat) (s2 : Option Nat) (y3 : Int32) (y4 : Int32) (y5 : Int32) (y6 : Int32) (hZ_b0 : Z[b0]? = some (4, 1)) (hZ_b1 : Z[b1]? = some (10, 5)) (hS_s2 : ∀ b, s2 = some b → Z[b]? = some (7, 7)) (h : f4_playRoll_c72 n O k6 I b0 b1 s2 y3 y4 y5 y6 = some res) : Ok g (d + 6, RX4, cX4_playRoll, 8, false, 0, 0, Z.length, pSl Z) Qx 72 [(0, .ref b0), (1, .ref b1), (2, va_rf s2), (3, .int y3), (4, .int y4), (5, .int y5), (6, .int y6)] [] (Z, I, L, O) := by
  unfold f4_playRoll_c72 at h
  refine ok_aload_n dX4_playRoll_72 1 rfl ?_
  refine ok_iload_n dX4_playRoll_73 3 rfl ?_
  refine ok_iload dX4_playRoll_74 6 rfl ?_
  refine ok_aload_n dX4_playRoll_76 0 rfl ?_
  have hT1 : Z[(rO O b0 0)]? = some (1, 3) := (wt_f (ci := 4) (k := 0) hW hZ_b0 rfl).2
  refine ok_getR (ci := 4) (k := 0) dX4_playRoll_77 flRX4_9 rfl hW hZ_b0 (by decide) ?_
  refine ok_aloadQ_n dX4_playRoll_80 2 rfl ?_
  refine ok_aload_n dX4_playRoll_81 1 rfl ?_
  refine ok_iload_n dX4_playRoll_82 3 rfl ?_
  refine ok_iload dX4_playRoll_83 6 rfl ?_
  refine ok_aload_n dX4_playRoll_85 1 rfl ?_
  refine ok_iload_n dX4_playRoll_86 3 rfl ?_
  refine ok_iload dX4_playRoll_87 6 rfl ?_
  obtain ⟨r2, hr3, h⟩ := bd h
  refine ok_callV (d := ((d + 2) + 3)) (mt := m10_wearAt) (mc := 0) (ms := 0) (As := [.int y3, .int y6]) (r := [.int y6, .int y3, .ref b1, va_rf s2, .ref (rO O b0 0), .int y6, .int y3, .ref b1]) dX4_playRoll_89 mo10_wearAt mv10_wearAt lkRX4_48 rfl hZ_b1 (q := (RX10, TX10, 5)) rfl rfl rfl (by cases s2 <;> exact (Nat.le_of_ble_eq_true rfl)) (by show _ + 1 ≤ d + _; omega) (Nat.le_refl _) (Nat.le_refl _) (pRt_mono ?_)
  refine k10_wearAt (d + 2) hW hZ_b1 hr3 ?_
  intro _
  show Ok g _ Qx 92 [(0, .ref b0), (1, .ref b1), (2, va_rf s2), (3, .int y3), (4, .int y4), (5, .int y5), (6, .int y6)] [.int r2, .int y6, .int y3, .ref b1, va_rf s2, .ref (rO O b0 0), .int y6, .int y3, .ref b1] (Z, I, L, O)
  obtain ⟨r4, hr5, h⟩ := bd h
  refine ok_callV (d := ((d + 0) + 5)) (mt := m1_wears) (mc := 0) (ms := 0) (As := [va_rf s2, .ref b1, .int y3, .int y6, .int r2]) (r := [.int y6, .int y3, .ref b1]) dX4_playRoll_92 mo1_wears mv1_wears lkRX4_51 rfl hT1 (q := (RX1, TX1, 3)) rfl rfl rfl (Nat.le_of_ble_eq_true rfl) (by show _ + 1 ≤ d + _; omega) (Nat.le_refl _) (Nat.le_refl _) (pRt_mono ?_)
  refine k1_wears (d + 0) hW hT1 hS_s2 hZ_b1 hr5 ?_
  intro _
  show Ok g _ Qx 95 [(0, .ref b0), (1, .ref b1), (2, va_rf s2), (3, .int y3), (4, .int y4), (5, .int y5), (6, .int y6)] [.int r4.1, .int y6, .int y3, .ref b1] (Z, r4.2, L, O)
  obtain ⟨r6, hr7, h⟩ := bd h
  refine ok_callV (d := ((d + 2) + 3)) (mt := m10_wearMore) (mc := 0) (ms := 0) (As := [.int y3, .int y6, .int r4.1]) (r := []) dX4_playRoll_95 mo10_wearMore mv10_wearMore lkRX4_54 rfl hZ_b1 (q := (RX10, TX10, 5)) rfl rfl rfl (Nat.le_of_ble_eq_true rfl) (by show _ + 1 ≤ d + _; omega) (Nat.le_refl _) (Nat.le_refl _) (pRt_mono ?_)
  refine k10_wearMore (d + 2) hW hZ_b1 hr7 ?_
  intro _
  show Ok g _ Qx 98 [(0, .ref b0), (1, .ref b1), (2, va_rf s2), (3, .int y3), (4, .int y4), (5, .int y5), (6, .int y6)] [] (Z, r6, L, O)
  refine ok_iinc (u := (y6 + 1)) (l' := [(6, .int (y6 + 1)), (0, .ref b0), (1, .ref b1), (2, va_rf s2), (3, .int y3), (4, .int y4), (5, .int y5)]) dX4_playRoll_98 6 rfl rfl (Nat.le_of_ble_eq_true rfl) rfl ?_
  refine ok_goto (t := 6) dX4_playRoll_101 (by decide) ?_
  refine ok_sub [1, 2, 3, 4, 5, 6, 0] rfl ?_
  exact hk6 r6 b0 b1 s2 y3 y4 y5 (y6 + 1) hZ_b0 hZ_b1 hS_s2 h
def f4_playRoll_c6 (n : Nat) (O : (Nat → Nat → Option Nat)) : Nat → (Nat → Nat → Int32) → Nat → Nat → Option Nat → Int32 → Int32 → Int32 → Int32 → Option (Int32 × (Nat → Nat → Int32))
  | 0, _, _, _, _, _, _, _, _ => none
  | m + 1, I, b0, b1, s2, y3, y4, y5, y6 => (f10_size I O b1 y3).bind fun r1 => (if r1 ≤ y6 then (f3_write I O (rO O b1 2) y3 y4 y5).bind fun r5 => some (y5, r5) else (f10_sounds I O b1 y3 y6).bind fun r7 => (if r7 = 0 then f4_playRoll_c6 n O m I b0 b1 s2 y3 y4 y5 (y6 + 1) else (f1_blurs n I O (rO O b0 0) s2 b1 y3 y6 y4).bind fun r11 => (f3_draw r11.2 (rO O b1 2) (10 : Int32)).bind fun r14 => (if r14.1 < r11.1 then f4_playRoll_c72 n O (f4_playRoll_c6 n O m) r14.2 b0 b1 s2 y3 y4 y5 y6 else (f10_keyAt r14.2 O b1 y3 y6).bind fun r17 => (f10_hear r14.2 O b1 y4 r17).bind fun r19 => f4_playRoll_c72 n O (f4_playRoll_c6 n O m) r19 b0 b1 s2 y3 y4 (y5 + 1) y6)))
set_option maxHeartbeats 4000000 in
set_option maxRecDepth 20000 in
theorem o4_playRoll_c6 {g : pG} {Qx : Option Value → pW → Prop} {Z : pZ} {L : (Nat → Nat → Int64)} {O : (Nat → Nat → Option Nat)} {n : Nat} {res : Int32 × (Nat → Nat → Int32)} (d : Nat) (hW : WT Z O) (hQ : Qx (some (.int res.1)) (Z, res.2, L, O)) : ∀ (m : Nat) (I : (Nat → Nat → Int32)) (b0 : Nat) (b1 : Nat) (s2 : Option Nat) (y3 : Int32) (y4 : Int32) (y5 : Int32) (y6 : Int32), (Z[b0]? = some (4, 1)) → (Z[b1]? = some (10, 5)) → (∀ b, s2 = some b → Z[b]? = some (7, 7)) → f4_playRoll_c6 n O m I b0 b1 s2 y3 y4 y5 y6 = some res → Ok g (d + 6, RX4, cX4_playRoll, 8, false, 0, 0, Z.length, pSl Z) Qx 6 [(0, .ref b0), (1, .ref b1), (2, va_rf s2), (3, .int y3), (4, .int y4), (5, .int y5), (6, .int y6)] [] (Z, I, L, O) := by
  intro m
  induction m with
  | zero => intro I b0 b1 s2 y3 y4 y5 y6 hZ_b0 hZ_b1 hS_s2 h; rw [f4_playRoll_c6] at h; cases h
  | succ m ih =>
    intro I b0 b1 s2 y3 y4 y5 y6 hZ_b0 hZ_b1 hS_s2 h
    rw [f4_playRoll_c6] at h
    refine ok_iload dX4_playRoll_6 6 rfl ?_
    refine ok_aload_n dX4_playRoll_8 1 rfl ?_
    refine ok_iload_n dX4_playRoll_9 3 rfl ?_
    obtain ⟨r1, hr2, h⟩ := bd h
    refine ok_callV (d := ((d + 2) + 3)) (mt := m10_size) (mc := 0) (ms := 0) (As := [.int y3]) (r := [.int y6]) dX4_playRoll_10 mo10_size mv10_size lkRX4_15 rfl hZ_b1 (q := (RX10, TX10, 5)) rfl rfl rfl (Nat.le_of_ble_eq_true rfl) (by show _ + 1 ≤ d + _; omega) (Nat.le_refl _) (Nat.le_refl _) (pRt_mono ?_)
    refine k10_size (d + 2) hW hZ_b1 hr2 ?_
    intro _
    show Ok g _ Qx 13 [(0, .ref b0), (1, .ref b1), (2, va_rf s2), (3, .int y3), (4, .int y4), (5, .int y5), (6, .int y6)] [.int r1, .int y6] (Z, I, L, O)
    refine ok_icmp_ge (t := 104) dX4_playRoll_13 (by decide) (fun hc3 => ?_) (fun hc3 => ?_)
    · have h := (if_pos hc3).symm.trans h
      refine ok_aload_n dX4_playRoll_104 1 rfl ?_
      have hT4 : Z[(rO O b1 2)]? = some (3, 6) := (wt_f (ci := 10) (k := 2) hW hZ_b1 rfl).2
      refine ok_getR (ci := 10) (k := 2) dX4_playRoll_105 flRX4_31 rfl hW hZ_b1 (by decide) ?_
      refine ok_iload_n dX4_playRoll_108 3 rfl ?_
      refine ok_iload dX4_playRoll_109 4 rfl ?_
      refine ok_iload dX4_playRoll_111 5 rfl ?_
      obtain ⟨r5, hr6, h⟩ := bd h
      refine ok_callV (d := ((d + 3) + 2)) (mt := m3_write) (mc := 0) (ms := 0) (As := [.int y3, .int y4, .int y5]) (r := []) dX4_playRoll_113 mo3_write mv3_write lkRX4_58 rfl hT4 (q := (RX3, TX3, 6)) rfl rfl rfl (Nat.le_of_ble_eq_true rfl) (by show _ + 1 ≤ d + _; omega) (Nat.le_refl _) (Nat.le_refl _) (pRt_mono ?_)
      refine k3_write (d + 3) hW hT4 hr6 ?_
      intro _
      show Ok g _ Qx 116 [(0, .ref b0), (1, .ref b1), (2, va_rf s2), (3, .int y3), (4, .int y4), (5, .int y5), (6, .int y6)] [] (Z, r5, L, O)
      refine ok_iload dX4_playRoll_116 5 rfl ?_
      cases h
      exact ok_iret dX4_playRoll_118 hQ
    · have h := (if_neg hc3).symm.trans h
      refine ok_aload_n dX4_playRoll_16 1 rfl ?_
      refine ok_iload_n dX4_playRoll_17 3 rfl ?_
      refine ok_iload dX4_playRoll_18 6 rfl ?_
      obtain ⟨r7, hr8, h⟩ := bd h
      refine ok_callV (d := ((d + 2) + 3)) (mt := m10_sounds) (mc := 0) (ms := 0) (As := [.int y3, .int y6]) (r := []) dX4_playRoll_20 mo10_sounds mv10_sounds lkRX4_21 rfl hZ_b1 (q := (RX10, TX10, 5)) rfl rfl rfl (Nat.le_of_ble_eq_true rfl) (by show _ + 1 ≤ d + _; omega) (Nat.le_refl _) (Nat.le_refl _) (pRt_mono ?_)
      refine k10_sounds (d + 2) hW hZ_b1 hr8 ?_
      intro hbr7
      show Ok g _ Qx 23 [(0, .ref b0), (1, .ref b1), (2, va_rf s2), (3, .int y3), (4, .int y4), (5, .int y5), (6, .int y6)] [.int r7] (Z, I, L, O)
      refine ok_if_eq (t := 98) dX4_playRoll_23 (by decide) (fun hc9 => ?_) (fun hc9 => ?_)
      · have h := (if_pos hc9).symm.trans h
        refine ok_iinc (u := (y6 + 1)) (l' := [(6, .int (y6 + 1)), (0, .ref b0), (1, .ref b1), (2, va_rf s2), (3, .int y3), (4, .int y4), (5, .int y5)]) dX4_playRoll_98 6 rfl rfl (Nat.le_of_ble_eq_true rfl) rfl ?_
        refine ok_goto (t := 6) dX4_playRoll_101 (by decide) ?_
        refine ok_sub [1, 2, 3, 4, 5, 6, 0] rfl ?_
        exact ih I b0 b1 s2 y3 y4 y5 (y6 + 1) hZ_b0 hZ_b1 hS_s2 h
      · have h := (if_neg hc9).symm.trans h
        refine ok_aload_n dX4_playRoll_26 0 rfl ?_
        have hT10 : Z[(rO O b0 0)]? = some (1, 3) := (wt_f (ci := 4) (k := 0) hW hZ_b0 rfl).2
        refine ok_getR (ci := 4) (k := 0) dX4_playRoll_27 flRX4_9 rfl hW hZ_b0 (by decide) ?_
        refine ok_aloadQ_n dX4_playRoll_30 2 rfl ?_
        refine ok_aload_n dX4_playRoll_31 1 rfl ?_
        refine ok_iload_n dX4_playRoll_32 3 rfl ?_
        refine ok_iload dX4_playRoll_33 6 rfl ?_
        refine ok_iload dX4_playRoll_35 4 rfl ?_
        obtain ⟨r11, hr12, h⟩ := bd h
        refine ok_callV (d := ((d + 0) + 5)) (mt := m1_blurs) (mc := 0) (ms := 0) (As := [va_rf s2, .ref b1, .int y3, .int y6, .int y4]) (r := []) dX4_playRoll_37 mo1_blurs mv1_blurs lkRX4_25 rfl hT10 (q := (RX1, TX1, 3)) rfl rfl rfl (Nat.le_of_ble_eq_true rfl) (by show _ + 1 ≤ d + _; omega) (Nat.le_refl _) (Nat.le_refl _) (pRt_mono ?_)
        refine k1_blurs (d + 0) hW hT10 hS_s2 hZ_b1 hr12 ?_
        intro _
        show Ok g _ Qx 40 [(0, .ref b0), (1, .ref b1), (2, va_rf s2), (3, .int y3), (4, .int y4), (5, .int y5), (6, .int y6)] [.int r11.1] (Z, r11.2, L, O)
        refine ok_istore (l' := [(7, .int r11.1), (0, .ref b0), (1, .ref b1), (2, va_rf s2), (3, .int y3), (4, .int y4), (5, .int y5), (6, .int y6)]) dX4_playRoll_40 (Nat.le_of_ble_eq_true rfl) rfl ?_
        refine ok_aload_n dX4_playRoll_42 2 rfl ?_
        have hT13 : Z[(rO O b1 2)]? = some (3, 6) := (wt_f (ci := 10) (k := 2) hW hZ_b1 rfl).2
        refine ok_getR (ci := 10) (k := 2) dX4_playRoll_43 flRX4_31 rfl hW hZ_b1 (by decide) ?_
        refine ok_bipush (v := 10) dX4_playRoll_46 (by decide) ?_
        obtain ⟨r14, hr15, h⟩ := bd h
        refine ok_callV (d := ((d + 2) + 3)) (mt := m3_draw) (mc := 0) (ms := 0) (As := [.int 10]) (r := []) dX4_playRoll_48 mo3_draw mv3_draw lkRX4_35 rfl hT13 (q := (RX3, TX3, 6)) rfl rfl rfl (Nat.le_of_ble_eq_true rfl) (by show _ + 1 ≤ d + _; omega) (Nat.le_refl _) (Nat.le_refl _) (pRt_mono ?_)
        refine k3_draw (d + 2) hW hT13 hr15 ?_
        intro _
        show Ok g _ Qx 51 [(7, .int r11.1), (0, .ref b0), (1, .ref b1), (2, va_rf s2), (3, .int y3), (4, .int y4), (5, .int y5), (6, .int y6)] [.int r14.1] (Z, r14.2, L, O)
        refine ok_iload dX4_playRoll_51 0 rfl ?_
        refine ok_icmp_lt (t := 72) dX4_playRoll_53 (by decide) (fun hc16 => ?_) (fun hc16 => ?_)
        · have h := (if_pos hc16).symm.trans h
          refine ok_sub [1, 2, 3, 4, 5, 6, 7] rfl ?_
          exact o4_playRoll_c72 d hW hQ ih r14.2 b0 b1 s2 y3 y4 y5 y6 hZ_b0 hZ_b1 hS_s2 h
        · have h := (if_neg hc16).symm.trans h
          refine ok_aload_n dX4_playRoll_56 2 rfl ?_
          refine ok_iload dX4_playRoll_57 5 rfl ?_
          refine ok_aload_n dX4_playRoll_59 2 rfl ?_
          refine ok_iload_n dX4_playRoll_60 4 rfl ?_
          refine ok_iload dX4_playRoll_61 7 rfl ?_
          obtain ⟨r17, hr18, h⟩ := bd h
          refine ok_callV (d := ((d + 2) + 3)) (mt := m10_keyAt) (mc := 0) (ms := 0) (As := [.int y3, .int y6]) (r := [.int y4, .ref b1]) dX4_playRoll_63 mo10_keyAt mv10_keyAt lkRX4_40 rfl hZ_b1 (q := (RX10, TX10, 5)) rfl rfl rfl (Nat.le_of_ble_eq_true rfl) (by show _ + 1 ≤ d + _; omega) (Nat.le_refl _) (Nat.le_refl _) (pRt_mono ?_)
          refine k10_keyAt (d + 2) hW hZ_b1 hr18 ?_
          intro _
          show Ok g _ Qx 66 [(7, .int r11.1), (0, .ref b0), (1, .ref b1), (2, va_rf s2), (3, .int y3), (4, .int y4), (5, .int y5), (6, .int y6)] [.int r17, .int y4, .ref b1] (Z, r14.2, L, O)
          obtain ⟨r19, hr20, h⟩ := bd h
          refine ok_callV (d := ((d + 2) + 3)) (mt := m10_hear) (mc := 0) (ms := 0) (As := [.int y4, .int r17]) (r := []) dX4_playRoll_66 mo10_hear mv10_hear lkRX4_44 rfl hZ_b1 (q := (RX10, TX10, 5)) rfl rfl rfl (Nat.le_of_ble_eq_true rfl) (by show _ + 1 ≤ d + _; omega) (Nat.le_refl _) (Nat.le_refl _) (pRt_mono ?_)
          refine k10_hear (d + 2) hW hZ_b1 hr20 ?_
          intro _
          show Ok g _ Qx 69 [(7, .int r11.1), (0, .ref b0), (1, .ref b1), (2, va_rf s2), (3, .int y3), (4, .int y4), (5, .int y5), (6, .int y6)] [] (Z, r19, L, O)
          refine ok_iinc (u := (y5 + 1)) (l' := [(5, .int (y5 + 1)), (7, .int r11.1), (0, .ref b0), (1, .ref b1), (2, va_rf s2), (3, .int y3), (4, .int y4), (6, .int y6)]) dX4_playRoll_69 6 rfl rfl (Nat.le_of_ble_eq_true rfl) rfl ?_
          refine ok_sub [2, 3, 4, 5, 6, 0, 7] rfl ?_
          exact o4_playRoll_c72 d hW hQ ih r19 b0 b1 s2 y3 y4 (y5 + 1) y6 hZ_b0 hZ_b1 hS_s2 h
def f4_playRoll (n : Nat) (I : (Nat → Nat → Int32)) (O : (Nat → Nat → Option Nat)) (a0 : Nat) (a1 : Nat) (s2 : Option Nat) (x3 : Int32) (x4 : Int32) : Option (Int32 × (Nat → Nat → Int32)) := f4_playRoll_c6 n O n I a0 a1 s2 x3 x4 (0 : Int32) (0 : Int32)
set_option maxHeartbeats 4000000 in
set_option maxRecDepth 20000 in
theorem o4_playRoll {g : pG} {Qx : Option Value → pW → Prop} {Z : pZ} {I : (Nat → Nat → Int32)} {L : (Nat → Nat → Int64)} {O : (Nat → Nat → Option Nat)} {n : Nat} {a0 : Nat} {a1 : Nat} {s2 : Option Nat} {x3 : Int32} {x4 : Int32} {res : Int32 × (Nat → Nat → Int32)} (d : Nat) (hW : WT Z O) (hZ0 : Z[a0]? = some (4, 1)) (hZ1 : Z[a1]? = some (10, 5)) (hS2 : ∀ b, s2 = some b → Z[b]? = some (7, 7)) (h : f4_playRoll n I O a0 a1 s2 x3 x4 = some res) (hQ : Qx (some (.int res.1)) (Z, res.2, L, O)) : Ok g (d + 6, RX4, cX4_playRoll, 8, false, 0, 0, Z.length, pSl Z) Qx 0 [(0, .ref a0), (1, .ref a1), (2, va_rf s2), (3, .int x3), (4, .int x4)] [] (Z, I, L, O) := by
  unfold f4_playRoll at h
  refine ok_iconst (v := 0) dX4_playRoll_0 (by decide) ?_
  refine ok_istore (l' := [(5, .int 0), (0, .ref a0), (1, .ref a1), (2, va_rf s2), (3, .int x3), (4, .int x4)]) dX4_playRoll_1 (Nat.le_of_ble_eq_true rfl) rfl ?_
  refine ok_iconst (v := 0) dX4_playRoll_3 (by decide) ?_
  refine ok_istore (l' := [(6, .int 0), (5, .int 0), (0, .ref a0), (1, .ref a1), (2, va_rf s2), (3, .int x3), (4, .int x4)]) dX4_playRoll_4 (Nat.le_of_ble_eq_true rfl) rfl ?_
  refine ok_sub [2, 3, 4, 5, 6, 1, 0] rfl ?_
  exact o4_playRoll_c6 d hW hQ  n I a0 a1 s2 x3 x4 (0 : Int32) (0 : Int32) hZ0 hZ1 hS2 h
theorem k4_playRoll {g : pG} {Q : Option Value → pW → Prop} {Z : pZ} {I : (Nat → Nat → Int32)} {L : (Nat → Nat → Int64)} {O : (Nat → Nat → Option Nat)} {n : Nat} {a0 : Nat} {a1 : Nat} {s2 : Option Nat} {x3 : Int32} {x4 : Int32} {res : Int32 × (Nat → Nat → Int32)} (d : Nat) (hW : WT Z O) (hZ0 : Z[a0]? = some (4, 1)) (hZ1 : Z[a1]? = some (10, 5)) (hS2 : ∀ b, s2 = some b → Z[b]? = some (7, 7)) (h : f4_playRoll n I O a0 a1 s2 x3 x4 = some res) (hQ : Q (some (.int res.1)) (Z, res.2, L, O)) : CT g (d + 6) m4_playRoll 0 0 [.ref a0, .ref a1, va_rf s2, .int x3, .int x4] (Z, I, L, O) Q :=
  ct_of_ok (mt := m4_playRoll) (ini := false) mo4_playRoll.2.2.2.2 (fun h => by cases h) (by cases s2 <;> exact (Nat.le_of_ble_eq_true rfl)) (by
    rw [show lv_args 0 [.ref a0, .ref a1, va_rf s2, .int x3, .int x4] = [(0, .ref a0), (1, .ref a1), (2, va_rf s2), (3, .int x3), (4, .int x4)] by cases s2 <;> rfl]
    exact o4_playRoll d hW hZ0 hZ1 hS2 h ⟨trivial, hQ, rfl, rfl⟩)
theorem dX4_passSunday_0 : decode cX4_passSunday 0 = .ok (.iconst 0, 1) := by decide +kernel
theorem dX4_passSunday_1 : decode cX4_passSunday 1 = .ok (.istore_n 3, 1) := by decide +kernel
theorem dX4_passSunday_2 : decode cX4_passSunday 2 = .ok (.aload_n 1, 1) := by decide +kernel
theorem dX4_passSunday_3 : decode cX4_passSunday 3 = .ok (.getfield 61, 3) := by decide +kernel
theorem dX4_passSunday_6 : decode cX4_passSunday 6 = .ok (.ifCond .le 47, 3) := by decide +kernel
theorem dX4_passSunday_9 : decode cX4_passSunday 9 = .ok (.aload_n 1, 1) := by decide +kernel
theorem dX4_passSunday_10 : decode cX4_passSunday 10 = .ok (.getfield 65, 3) := by decide +kernel
theorem dX4_passSunday_13 : decode cX4_passSunday 13 = .ok (.ifCond .le 40, 3) := by decide +kernel
theorem dX4_passSunday_16 : decode cX4_passSunday 16 = .ok (.aload_n 1, 1) := by decide +kernel
theorem dX4_passSunday_17 : decode cX4_passSunday 17 = .ok (.getfield 31, 3) := by decide +kernel
theorem dX4_passSunday_20 : decode cX4_passSunday 20 = .ok (.aload_n 1, 1) := by decide +kernel
theorem dX4_passSunday_21 : decode cX4_passSunday 21 = .ok (.getfield 61, 3) := by decide +kernel
theorem dX4_passSunday_24 : decode cX4_passSunday 24 = .ok (.invokevirtual 35, 3) := by decide +kernel
theorem dX4_passSunday_27 : decode cX4_passSunday 27 = .ok (.istore 4, 2) := by decide +kernel
theorem dX4_passSunday_29 : decode cX4_passSunday 29 = .ok (.aload_n 1, 1) := by decide +kernel
theorem dX4_passSunday_30 : decode cX4_passSunday 30 = .ok (.getfield 31, 3) := by decide +kernel
theorem dX4_passSunday_33 : decode cX4_passSunday 33 = .ok (.aload_n 1, 1) := by decide +kernel
theorem dX4_passSunday_34 : decode cX4_passSunday 34 = .ok (.getfield 65, 3) := by decide +kernel
theorem dX4_passSunday_37 : decode cX4_passSunday 37 = .ok (.invokevirtual 35, 3) := by decide +kernel
theorem dX4_passSunday_40 : decode cX4_passSunday 40 = .ok (.istore 5, 2) := by decide +kernel
theorem dX4_passSunday_42 : decode cX4_passSunday 42 = .ok (.aload_n 0, 1) := by decide +kernel
theorem dX4_passSunday_43 : decode cX4_passSunday 43 = .ok (.aload_n 1, 1) := by decide +kernel
theorem dX4_passSunday_44 : decode cX4_passSunday 44 = .ok (.aload_n 2, 1) := by decide +kernel
theorem dX4_passSunday_45 : decode cX4_passSunday 45 = .ok (.iload 4, 2) := by decide +kernel
theorem dX4_passSunday_47 : decode cX4_passSunday 47 = .ok (.iload 5, 2) := by decide +kernel
theorem dX4_passSunday_49 : decode cX4_passSunday 49 = .ok (.invokevirtual 68, 3) := by decide +kernel
theorem dX4_passSunday_52 : decode cX4_passSunday 52 = .ok (.istore_n 3, 1) := by decide +kernel
theorem dX4_passSunday_53 : decode cX4_passSunday 53 = .ok (.aload_n 1, 1) := by decide +kernel
theorem dX4_passSunday_54 : decode cX4_passSunday 54 = .ok (.getfield 31, 3) := by decide +kernel
theorem dX4_passSunday_57 : decode cX4_passSunday 57 = .ok (.dup, 1) := by decide +kernel
theorem dX4_passSunday_58 : decode cX4_passSunday 58 = .ok (.getfield 72, 3) := by decide +kernel
theorem dX4_passSunday_61 : decode cX4_passSunday 61 = .ok (.iconst 1, 1) := by decide +kernel
theorem dX4_passSunday_62 : decode cX4_passSunday 62 = .ok (.iadd, 1) := by decide +kernel
theorem dX4_passSunday_63 : decode cX4_passSunday 63 = .ok (.putfield 72, 3) := by decide +kernel
theorem dX4_passSunday_66 : decode cX4_passSunday 66 = .ok (.iload_n 3, 1) := by decide +kernel
theorem dX4_passSunday_67 : decode cX4_passSunday 67 = .ok (.ireturn, 1) := by decide +kernel
def m4_passSunday : pMT := (yX4_passSunday, cX4_passSunday, 6, some .int)
theorem mo4_passSunday : mOK m4_passSunday 2 := ⟨tb_i 848 (by decide +kernel), wi_RX4, ⟨wn_RX4.1, wn_RX4.2, by decide +kernel⟩, by decide, plainFor_of_name wp_RX4⟩
theorem mv4_passSunday : mV m4_passSunday := ⟨tb_i 846 (by decide +kernel), tb_i 847 (by decide +kernel)⟩
def f4_passSunday (n : Nat) (I : (Nat → Nat → Int32)) (O : (Nat → Nat → Option Nat)) (a0 : Nat) (a1 : Nat) (s2 : Option Nat) : Option (Int32 × (Nat → Nat → Int32)) := (if (I a1 3) ≤ 0 then bl (sI I (rO O a1 2) 4 ((I (rO O a1 2) 4) + 1)) fun I3 => some ((0 : Int32), I3) else (if (I a1 4) ≤ 0 then bl (sI I (rO O a1 2) 4 ((I (rO O a1 2) 4) + 1)) fun I6 => some ((0 : Int32), I6) else (f3_draw I (rO O a1 2) (I a1 3)).bind fun r8 => (f3_draw r8.2 (rO O a1 2) (r8.2 a1 4)).bind fun r10 => (f4_playRoll n r10.2 O a0 a1 s2 r8.1 r10.1).bind fun r12 => bl (sI r12.2 (rO O a1 2) 4 ((r12.2 (rO O a1 2) 4) + 1)) fun I14 => some (r12.1, I14)))
set_option maxHeartbeats 4000000 in
set_option maxRecDepth 20000 in
theorem o4_passSunday {g : pG} {Qx : Option Value → pW → Prop} {Z : pZ} {I : (Nat → Nat → Int32)} {L : (Nat → Nat → Int64)} {O : (Nat → Nat → Option Nat)} {n : Nat} {a0 : Nat} {a1 : Nat} {s2 : Option Nat} {res : Int32 × (Nat → Nat → Int32)} (d : Nat) (hW : WT Z O) (hZ0 : Z[a0]? = some (4, 1)) (hZ1 : Z[a1]? = some (10, 5)) (hS2 : ∀ b, s2 = some b → Z[b]? = some (7, 7)) (h : f4_passSunday n I O a0 a1 s2 = some res) (hQ : Qx (some (.int res.1)) (Z, res.2, L, O)) : Ok g (d + 7, RX4, cX4_passSunday, 6, false, 0, 0, Z.length, pSl Z) Qx 0 [(0, .ref a0), (1, .ref a1), (2, va_rf s2)] [] (Z, I, L, O) := by
  unfold f4_passSunday at h
  refine ok_iconst (v := 0) dX4_passSunday_0 (by decide) ?_
  refine ok_istore_n (l' := [(3, .int 0), (0, .ref a0), (1, .ref a1), (2, va_rf s2)]) dX4_passSunday_1 rfl (Nat.le_of_ble_eq_true rfl) (by cases s2 <;> rfl) ?_
  refine ok_aload_n dX4_passSunday_2 2 rfl ?_
  refine ok_getI (ci := 10) (k := 3) dX4_passSunday_3 flRX4_61 rfl hZ1 (by decide) ?_
  refine ok_if_le (t := 53) dX4_passSunday_6 (by decide) (fun hc1 => ?_) (fun hc1 => ?_)
  · have h := (if_pos hc1).symm.trans h
    refine ok_aload_n dX4_passSunday_53 2 rfl ?_
    have hT2 : Z[(rO O a1 2)]? = some (3, 6) := (wt_f (ci := 10) (k := 2) hW hZ1 rfl).2
    refine ok_getR (ci := 10) (k := 2) dX4_passSunday_54 flRX4_31 rfl hW hZ1 (by decide) ?_
    refine ok_dup dX4_passSunday_57 rfl ?_
    refine ok_getI (ci := 3) (k := 4) dX4_passSunday_58 flRX4_72 rfl hT2 (by decide) ?_
    refine ok_iconst (v := 1) dX4_passSunday_61 (by decide) ?_
    refine ok_iadd dX4_passSunday_62 ?_
    obtain ⟨I3, eI3, h⟩ := blE h
    refine ok_putI2 (ci := 3) (k := 4) dX4_passSunday_63 flRX4_72 rfl (Or.inl rfl) hT2 (by decide) eI3 ?_
    refine ok_iload_n dX4_passSunday_66 0 rfl ?_
    cases h
    exact ok_iret dX4_passSunday_67 hQ
  · have h := (if_neg hc1).symm.trans h
    refine ok_aload_n dX4_passSunday_9 2 rfl ?_
    refine ok_getI (ci := 10) (k := 4) dX4_passSunday_10 flRX4_65 rfl hZ1 (by decide) ?_
    refine ok_if_le (t := 53) dX4_passSunday_13 (by decide) (fun hc4 => ?_) (fun hc4 => ?_)
    · have h := (if_pos hc4).symm.trans h
      refine ok_aload_n dX4_passSunday_53 2 rfl ?_
      have hT5 : Z[(rO O a1 2)]? = some (3, 6) := (wt_f (ci := 10) (k := 2) hW hZ1 rfl).2
      refine ok_getR (ci := 10) (k := 2) dX4_passSunday_54 flRX4_31 rfl hW hZ1 (by decide) ?_
      refine ok_dup dX4_passSunday_57 rfl ?_
      refine ok_getI (ci := 3) (k := 4) dX4_passSunday_58 flRX4_72 rfl hT5 (by decide) ?_
      refine ok_iconst (v := 1) dX4_passSunday_61 (by decide) ?_
      refine ok_iadd dX4_passSunday_62 ?_
      obtain ⟨I6, eI6, h⟩ := blE h
      refine ok_putI2 (ci := 3) (k := 4) dX4_passSunday_63 flRX4_72 rfl (Or.inl rfl) hT5 (by decide) eI6 ?_
      refine ok_iload_n dX4_passSunday_66 0 rfl ?_
      cases h
      exact ok_iret dX4_passSunday_67 hQ
    · have h := (if_neg hc4).symm.trans h
      refine ok_aload_n dX4_passSunday_16 2 rfl ?_
      have hT7 : Z[(rO O a1 2)]? = some (3, 6) := (wt_f (ci := 10) (k := 2) hW hZ1 rfl).2
      refine ok_getR (ci := 10) (k := 2) dX4_passSunday_17 flRX4_31 rfl hW hZ1 (by decide) ?_
      refine ok_aload_n dX4_passSunday_20 2 rfl ?_
      refine ok_getI (ci := 10) (k := 3) dX4_passSunday_21 flRX4_61 rfl hZ1 (by decide) ?_
      obtain ⟨r8, hr9, h⟩ := bd h
      refine ok_callV (d := ((d + 3) + 3)) (mt := m3_draw) (mc := 0) (ms := 0) (As := [.int (I a1 3)]) (r := []) dX4_passSunday_24 mo3_draw mv3_draw lkRX4_35 rfl hT7 (q := (RX3, TX3, 6)) rfl rfl rfl (Nat.le_of_ble_eq_true rfl) (by show _ + 1 ≤ d + _; omega) (Nat.le_refl _) (Nat.le_refl _) (pRt_mono ?_)
      refine k3_draw (d + 3) hW hT7 hr9 ?_
      intro _
      show Ok g _ Qx 27 [(3, .int 0), (0, .ref a0), (1, .ref a1), (2, va_rf s2)] [.int r8.1] (Z, r8.2, L, O)
      refine ok_istore (l' := [(4, .int r8.1), (3, .int 0), (0, .ref a0), (1, .ref a1), (2, va_rf s2)]) dX4_passSunday_27 (Nat.le_of_ble_eq_true rfl) rfl ?_
      refine ok_aload_n dX4_passSunday_29 3 rfl ?_
      refine ok_getR (ci := 10) (k := 2) dX4_passSunday_30 flRX4_31 rfl hW hZ1 (by decide) ?_
      refine ok_aload_n dX4_passSunday_33 3 rfl ?_
      refine ok_getI (ci := 10) (k := 4) dX4_passSunday_34 flRX4_65 rfl hZ1 (by decide) ?_
      obtain ⟨r10, hr11, h⟩ := bd h
      refine ok_callV (d := ((d + 3) + 3)) (mt := m3_draw) (mc := 0) (ms := 0) (As := [.int (r8.2 a1 4)]) (r := []) dX4_passSunday_37 mo3_draw mv3_draw lkRX4_35 rfl hT7 (q := (RX3, TX3, 6)) rfl rfl rfl (Nat.le_of_ble_eq_true rfl) (by show _ + 1 ≤ d + _; omega) (Nat.le_refl _) (Nat.le_refl _) (pRt_mono ?_)
      refine k3_draw (d + 3) hW hT7 hr11 ?_
      intro _
      show Ok g _ Qx 40 [(4, .int r8.1), (3, .int 0), (0, .ref a0), (1, .ref a1), (2, va_rf s2)] [.int r10.1] (Z, r10.2, L, O)
      refine ok_istore (l' := [(5, .int r10.1), (4, .int r8.1), (3, .int 0), (0, .ref a0), (1, .ref a1), (2, va_rf s2)]) dX4_passSunday_40 (Nat.le_of_ble_eq_true rfl) rfl ?_
      refine ok_aload_n dX4_passSunday_42 3 rfl ?_
      refine ok_aload_n dX4_passSunday_43 4 rfl ?_
      refine ok_aloadQ_n dX4_passSunday_44 5 rfl ?_
      refine ok_iload dX4_passSunday_45 1 rfl ?_
      refine ok_iload dX4_passSunday_47 0 rfl ?_
      obtain ⟨r12, hr13, h⟩ := bd h
      refine ok_callV (d := ((d + 0) + 6)) (mt := m4_playRoll) (mc := 0) (ms := 0) (As := [.ref a1, va_rf s2, .int r8.1, .int r10.1]) (r := []) dX4_passSunday_49 mo4_playRoll mv4_playRoll lkRX4_68 rfl hZ0 (q := (RX4, TX4, 1)) rfl rfl rfl (Nat.le_of_ble_eq_true rfl) (by show _ + 1 ≤ d + _; omega) (Nat.le_refl _) (Nat.le_refl _) (pRt_mono ?_)
      refine k4_playRoll (d + 0) hW hZ0 hZ1 hS2 hr13 ?_
      intro _
      show Ok g _ Qx 52 [(5, .int r10.1), (4, .int r8.1), (3, .int 0), (0, .ref a0), (1, .ref a1), (2, va_rf s2)] [.int r12.1] (Z, r12.2, L, O)
      refine ok_istore_n (l' := [(3, .int r12.1), (5, .int r10.1), (4, .int r8.1), (0, .ref a0), (1, .ref a1), (2, va_rf s2)]) dX4_passSunday_52 rfl (Nat.le_of_ble_eq_true rfl) (by cases s2 <;> rfl) ?_
      refine ok_aload_n dX4_passSunday_53 4 rfl ?_
      refine ok_getR (ci := 10) (k := 2) dX4_passSunday_54 flRX4_31 rfl hW hZ1 (by decide) ?_
      refine ok_dup dX4_passSunday_57 rfl ?_
      refine ok_getI (ci := 3) (k := 4) dX4_passSunday_58 flRX4_72 rfl hT7 (by decide) ?_
      refine ok_iconst (v := 1) dX4_passSunday_61 (by decide) ?_
      refine ok_iadd dX4_passSunday_62 ?_
      obtain ⟨I14, eI14, h⟩ := blE h
      refine ok_putI2 (ci := 3) (k := 4) dX4_passSunday_63 flRX4_72 rfl (Or.inl rfl) hT7 (by decide) eI14 ?_
      refine ok_iload_n dX4_passSunday_66 0 rfl ?_
      cases h
      exact ok_iret dX4_passSunday_67 hQ
theorem k4_passSunday {g : pG} {Q : Option Value → pW → Prop} {Z : pZ} {I : (Nat → Nat → Int32)} {L : (Nat → Nat → Int64)} {O : (Nat → Nat → Option Nat)} {n : Nat} {a0 : Nat} {a1 : Nat} {s2 : Option Nat} {res : Int32 × (Nat → Nat → Int32)} (d : Nat) (hW : WT Z O) (hZ0 : Z[a0]? = some (4, 1)) (hZ1 : Z[a1]? = some (10, 5)) (hS2 : ∀ b, s2 = some b → Z[b]? = some (7, 7)) (h : f4_passSunday n I O a0 a1 s2 = some res) (hQ : Q (some (.int res.1)) (Z, res.2, L, O)) : CT g (d + 7) m4_passSunday 0 0 [.ref a0, .ref a1, va_rf s2] (Z, I, L, O) Q :=
  ct_of_ok (mt := m4_passSunday) (ini := false) mo4_passSunday.2.2.2.2 (fun h => by cases h) (by cases s2 <;> exact (Nat.le_of_ble_eq_true rfl)) (by
    rw [show lv_args 0 [.ref a0, .ref a1, va_rf s2] = [(0, .ref a0), (1, .ref a1), (2, va_rf s2)] by cases s2 <;> rfl]
    exact o4_passSunday d hW hZ0 hZ1 hS2 h ⟨trivial, hQ, rfl, rfl⟩)
theorem dX4_passYear_0 : decode cX4_passYear 0 = .ok (.aload_n 1, 1) := by decide +kernel
theorem dX4_passYear_1 : decode cX4_passYear 1 = .ok (.getfield 31, 3) := by decide +kernel
theorem dX4_passYear_4 : decode cX4_passYear 4 = .ok (.getfield 75, 3) := by decide +kernel
theorem dX4_passYear_7 : decode cX4_passYear 7 = .ok (.istore_n 3, 1) := by decide +kernel
theorem dX4_passYear_8 : decode cX4_passYear 8 = .ok (.aload_n 1, 1) := by decide +kernel
theorem dX4_passYear_9 : decode cX4_passYear 9 = .ok (.getfield 31, 3) := by decide +kernel
theorem dX4_passYear_12 : decode cX4_passYear 12 = .ok (.invokevirtual 78, 3) := by decide +kernel
theorem dX4_passYear_15 : decode cX4_passYear 15 = .ok (.aload_n 1, 1) := by decide +kernel
theorem dX4_passYear_16 : decode cX4_passYear 16 = .ok (.getfield 61, 3) := by decide +kernel
theorem dX4_passYear_19 : decode cX4_passYear 19 = .ok (.ifCond .le 12, 3) := by decide +kernel
theorem dX4_passYear_22 : decode cX4_passYear 22 = .ok (.iload_n 3, 1) := by decide +kernel
theorem dX4_passYear_23 : decode cX4_passYear 23 = .ok (.aload_n 1, 1) := by decide +kernel
theorem dX4_passYear_24 : decode cX4_passYear 24 = .ok (.getfield 61, 3) := by decide +kernel
theorem dX4_passYear_27 : decode cX4_passYear 27 = .ok (.irem, 1) := by decide +kernel
theorem dX4_passYear_28 : decode cX4_passYear 28 = .ok (.goto 4, 3) := by decide +kernel
theorem dX4_passYear_31 : decode cX4_passYear 31 = .ok (.iconst (-1), 1) := by decide +kernel
theorem dX4_passYear_32 : decode cX4_passYear 32 = .ok (.istore 4, 2) := by decide +kernel
theorem dX4_passYear_34 : decode cX4_passYear 34 = .ok (.aload_n 1, 1) := by decide +kernel
theorem dX4_passYear_35 : decode cX4_passYear 35 = .ok (.getfield 65, 3) := by decide +kernel
theorem dX4_passYear_38 : decode cX4_passYear 38 = .ok (.ifCond .le 15, 3) := by decide +kernel
theorem dX4_passYear_41 : decode cX4_passYear 41 = .ok (.iload_n 3, 1) := by decide +kernel
theorem dX4_passYear_42 : decode cX4_passYear 42 = .ok (.bipush 6, 2) := by decide +kernel
theorem dX4_passYear_44 : decode cX4_passYear 44 = .ok (.idiv, 1) := by decide +kernel
theorem dX4_passYear_45 : decode cX4_passYear 45 = .ok (.aload_n 1, 1) := by decide +kernel
theorem dX4_passYear_46 : decode cX4_passYear 46 = .ok (.getfield 65, 3) := by decide +kernel
theorem dX4_passYear_49 : decode cX4_passYear 49 = .ok (.irem, 1) := by decide +kernel
theorem dX4_passYear_50 : decode cX4_passYear 50 = .ok (.goto 4, 3) := by decide +kernel
theorem dX4_passYear_53 : decode cX4_passYear 53 = .ok (.iconst (-1), 1) := by decide +kernel
theorem dX4_passYear_54 : decode cX4_passYear 54 = .ok (.istore 5, 2) := by decide +kernel
theorem dX4_passYear_56 : decode cX4_passYear 56 = .ok (.iload_n 3, 1) := by decide +kernel
theorem dX4_passYear_57 : decode cX4_passYear 57 = .ok (.bipush 6, 2) := by decide +kernel
theorem dX4_passYear_59 : decode cX4_passYear 59 = .ok (.irem, 1) := by decide +kernel
theorem dX4_passYear_60 : decode cX4_passYear 60 = .ok (.tableswitch 94 0 3 #[32, 32, 64, 80], 32) := by decide +kernel
theorem dX4_passYear_92 : decode cX4_passYear 92 = .ok (.aload_n 1, 1) := by decide +kernel
theorem dX4_passYear_93 : decode cX4_passYear 93 = .ok (.iload 4, 2) := by decide +kernel
theorem dX4_passYear_95 : decode cX4_passYear 95 = .ok (.invokevirtual 81, 3) := by decide +kernel
theorem dX4_passYear_98 : decode cX4_passYear 98 = .ok (.ifCond .eq 76, 3) := by decide +kernel
theorem dX4_passYear_101 : decode cX4_passYear 101 = .ok (.aload_n 1, 1) := by decide +kernel
theorem dX4_passYear_102 : decode cX4_passYear 102 = .ok (.iload 5, 2) := by decide +kernel
theorem dX4_passYear_104 : decode cX4_passYear 104 = .ok (.invokevirtual 85, 3) := by decide +kernel
theorem dX4_passYear_107 : decode cX4_passYear 107 = .ok (.ifCond .eq 67, 3) := by decide +kernel
theorem dX4_passYear_110 : decode cX4_passYear 110 = .ok (.aload_n 0, 1) := by decide +kernel
theorem dX4_passYear_111 : decode cX4_passYear 111 = .ok (.aload_n 1, 1) := by decide +kernel
theorem dX4_passYear_112 : decode cX4_passYear 112 = .ok (.aload_n 2, 1) := by decide +kernel
theorem dX4_passYear_113 : decode cX4_passYear 113 = .ok (.iload 4, 2) := by decide +kernel
theorem dX4_passYear_115 : decode cX4_passYear 115 = .ok (.iload 5, 2) := by decide +kernel
theorem dX4_passYear_117 : decode cX4_passYear 117 = .ok (.invokevirtual 68, 3) := by decide +kernel
theorem dX4_passYear_120 : decode cX4_passYear 120 = .ok (.pop, 1) := by decide +kernel
theorem dX4_passYear_121 : decode cX4_passYear 121 = .ok (.goto 53, 3) := by decide +kernel
theorem dX4_passYear_124 : decode cX4_passYear 124 = .ok (.aload_n 1, 1) := by decide +kernel
theorem dX4_passYear_125 : decode cX4_passYear 125 = .ok (.iload 4, 2) := by decide +kernel
theorem dX4_passYear_127 : decode cX4_passYear 127 = .ok (.iload_n 3, 1) := by decide +kernel
theorem dX4_passYear_128 : decode cX4_passYear 128 = .ok (.bipush 6, 2) := by decide +kernel
theorem dX4_passYear_130 : decode cX4_passYear 130 = .ok (.idiv, 1) := by decide +kernel
theorem dX4_passYear_131 : decode cX4_passYear 131 = .ok (.bipush 16, 2) := by decide +kernel
theorem dX4_passYear_133 : decode cX4_passYear 133 = .ok (.irem, 1) := by decide +kernel
theorem dX4_passYear_134 : decode cX4_passYear 134 = .ok (.invokevirtual 88, 3) := by decide +kernel
theorem dX4_passYear_137 : decode cX4_passYear 137 = .ok (.goto 37, 3) := by decide +kernel
theorem dX4_passYear_140 : decode cX4_passYear 140 = .ok (.aload_n 1, 1) := by decide +kernel
theorem dX4_passYear_141 : decode cX4_passYear 141 = .ok (.iload 5, 2) := by decide +kernel
theorem dX4_passYear_143 : decode cX4_passYear 143 = .ok (.iconst 1, 1) := by decide +kernel
theorem dX4_passYear_144 : decode cX4_passYear 144 = .ok (.iload_n 3, 1) := by decide +kernel
theorem dX4_passYear_145 : decode cX4_passYear 145 = .ok (.iconst 5, 1) := by decide +kernel
theorem dX4_passYear_146 : decode cX4_passYear 146 = .ok (.irem, 1) := by decide +kernel
theorem dX4_passYear_147 : decode cX4_passYear 147 = .ok (.iadd, 1) := by decide +kernel
theorem dX4_passYear_148 : decode cX4_passYear 148 = .ok (.invokevirtual 91, 3) := by decide +kernel
theorem dX4_passYear_151 : decode cX4_passYear 151 = .ok (.goto 23, 3) := by decide +kernel
theorem dX4_passYear_154 : decode cX4_passYear 154 = .ok (.aload_n 1, 1) := by decide +kernel
theorem dX4_passYear_155 : decode cX4_passYear 155 = .ok (.getfield 31, 3) := by decide +kernel
theorem dX4_passYear_158 : decode cX4_passYear 158 = .ok (.getfield 72, 3) := by decide +kernel
theorem dX4_passYear_161 : decode cX4_passYear 161 = .ok (.sipush 9999, 3) := by decide +kernel
theorem dX4_passYear_164 : decode cX4_passYear 164 = .ok (.if_icmp .ge 10, 3) := by decide +kernel
theorem dX4_passYear_167 : decode cX4_passYear 167 = .ok (.aload_n 0, 1) := by decide +kernel
theorem dX4_passYear_168 : decode cX4_passYear 168 = .ok (.aload_n 1, 1) := by decide +kernel
theorem dX4_passYear_169 : decode cX4_passYear 169 = .ok (.aload_n 2, 1) := by decide +kernel
theorem dX4_passYear_170 : decode cX4_passYear 170 = .ok (.invokevirtual 94, 3) := by decide +kernel
theorem dX4_passYear_173 : decode cX4_passYear 173 = .ok (.pop, 1) := by decide +kernel
theorem dX4_passYear_174 : decode cX4_passYear 174 = .ok (.return_, 1) := by decide +kernel
def m4_passYear : pMT := (yX4_passYear, cX4_passYear, 6, none)
theorem mo4_passYear : mOK m4_passYear 2 := ⟨tb_i 886 (by decide +kernel), wi_RX4, ⟨wn_RX4.1, wn_RX4.2, by decide +kernel⟩, by decide, plainFor_of_name wp_RX4⟩
theorem mv4_passYear : mV m4_passYear := ⟨tb_i 884 (by decide +kernel), tb_i 885 (by decide +kernel)⟩
def f4_passYear_c54 (n : Nat) (O : (Nat → Nat → Option Nat)) (I : (Nat → Nat → Int32)) (b0 : Nat) (b1 : Nat) (s2 : Option Nat) (y3 : Int32) (y4 : Int32) (t0 : Int32) : Option ((Nat → Nat → Int32)) := (if (y3 - y3 / 6 * 6) = 0 then (f10_hasRoll I b1 y4).bind fun r2 => (if r2 = 0 then some (I) else (f10_hasChild I b1 t0).bind fun r5 => (if r5 = 0 then some (I) else (f4_playRoll n I O b0 b1 s2 y4 t0).bind fun r8 => some (r8.2))) else (if (y3 - y3 / 6 * 6) = 1 then (f10_hasRoll I b1 y4).bind fun r11 => (if r11 = 0 then some (I) else (f10_hasChild I b1 t0).bind fun r14 => (if r14 = 0 then some (I) else (f4_playRoll n I O b0 b1 s2 y4 t0).bind fun r17 => some (r17.2))) else (if (y3 - y3 / 6 * 6) = 2 then (f10_mend I O b1 y4 ((y3 / 6) - (y3 / 6) / 16 * 16)).bind fun r20 => some (r20) else (if (y3 - y3 / 6 * 6) = 3 then (f10_unhear I O b1 t0 ((1 : Int32) + (y3 - y3 / 5 * 5))).bind fun r23 => some (r23) else (if (9999 : Int32) ≤ (I (rO O b1 2) 4) then some (I) else (f4_passSunday n I O b0 b1 s2).bind fun r27 => some (r27.2))))))
set_option maxHeartbeats 4000000 in
set_option maxRecDepth 20000 in
theorem o4_passYear_c54 {g : pG} {Qx : Option Value → pW → Prop} {Z : pZ} {L : (Nat → Nat → Int64)} {O : (Nat → Nat → Option Nat)} {n : Nat} {res : (Nat → Nat → Int32)} (d : Nat) (hW : WT Z O) (hQ : Qx none (Z, res, L, O)) (I : (Nat → Nat → Int32)) (b0 : Nat) (b1 : Nat) (s2 : Option Nat) (y3 : Int32) (y4 : Int32) (t0 : Int32) (hZ_b0 : Z[b0]? = some (4, 1)) (hZ_b1 : Z[b1]? = some (10, 5)) (hS_s2 : ∀ b, s2 = some b → Z[b]? = some (7, 7)) (h : f4_passYear_c54 n O I b0 b1 s2 y3 y4 t0 = some res) : Ok g (d + 8, RX4, cX4_passYear, 6, false, 0, 0, Z.length, pSl Z) Qx 54 [(0, .ref b0), (1, .ref b1), (2, va_rf s2), (3, .int y3), (4, .int y4)] [.int t0] (Z, I, L, O) := by
  unfold f4_passYear_c54 at h
  refine ok_istore (l' := [(5, .int t0), (0, .ref b0), (1, .ref b1), (2, va_rf s2), (3, .int y3), (4, .int y4)]) dX4_passYear_54 (Nat.le_of_ble_eq_true rfl) rfl ?_
  refine ok_iload_n dX4_passYear_56 4 rfl ?_
  refine ok_bipush (v := 6) dX4_passYear_57 (by decide) ?_
  refine ok_irem dX4_passYear_59 (by decide) ?_
  by_cases hc1 : (y3 - y3 / 6 * 6) = 0
  · have h := (if_pos hc1).symm.trans h
    refine ok_tabEq (t := 92) (off := 32) dX4_passYear_60 hc1 (by decide) (by decide) (by decide) (by decide) ?_
    refine ok_aload_n dX4_passYear_92 2 rfl ?_
    refine ok_iload dX4_passYear_93 5 rfl ?_
    obtain ⟨r2, hr3, h⟩ := bd h
    refine ok_callV (d := ((d + 5) + 2)) (mt := m10_hasRoll) (mc := 0) (ms := 0) (As := [.int y4]) (r := []) dX4_passYear_95 mo10_hasRoll mv10_hasRoll lkRX4_81 rfl hZ_b1 (q := (RX10, TX10, 5)) rfl rfl rfl (Nat.le_of_ble_eq_true rfl) (by show _ + 1 ≤ d + _; omega) (Nat.le_refl _) (Nat.le_refl _) (pRt_mono ?_)
    refine k10_hasRoll (d + 5) hW hZ_b1 hr3 ?_
    intro hbr2
    show Ok g _ Qx 98 [(5, .int t0), (0, .ref b0), (1, .ref b1), (2, va_rf s2), (3, .int y3), (4, .int y4)] [.int r2] (Z, I, L, O)
    refine ok_if_eq (t := 174) dX4_passYear_98 (by decide) (fun hc4 => ?_) (fun hc4 => ?_)
    · have h := (if_pos hc4).symm.trans h
      cases h
      exact ok_vret dX4_passYear_174 hQ
    · have h := (if_neg hc4).symm.trans h
      refine ok_aload_n dX4_passYear_101 2 rfl ?_
      refine ok_iload dX4_passYear_102 0 rfl ?_
      obtain ⟨r5, hr6, h⟩ := bd h
      refine ok_callV (d := ((d + 5) + 2)) (mt := m10_hasChild) (mc := 0) (ms := 0) (As := [.int t0]) (r := []) dX4_passYear_104 mo10_hasChild mv10_hasChild lkRX4_85 rfl hZ_b1 (q := (RX10, TX10, 5)) rfl rfl rfl (Nat.le_of_ble_eq_true rfl) (by show _ + 1 ≤ d + _; omega) (Nat.le_refl _) (Nat.le_refl _) (pRt_mono ?_)
      refine k10_hasChild (d + 5) hW hZ_b1 hr6 ?_
      intro hbr5
      show Ok g _ Qx 107 [(5, .int t0), (0, .ref b0), (1, .ref b1), (2, va_rf s2), (3, .int y3), (4, .int y4)] [.int r5] (Z, I, L, O)
      refine ok_if_eq (t := 174) dX4_passYear_107 (by decide) (fun hc7 => ?_) (fun hc7 => ?_)
      · have h := (if_pos hc7).symm.trans h
        cases h
        exact ok_vret dX4_passYear_174 hQ
      · have h := (if_neg hc7).symm.trans h
        refine ok_aload_n dX4_passYear_110 1 rfl ?_
        refine ok_aload_n dX4_passYear_111 2 rfl ?_
        refine ok_aloadQ_n dX4_passYear_112 3 rfl ?_
        refine ok_iload dX4_passYear_113 5 rfl ?_
        refine ok_iload dX4_passYear_115 0 rfl ?_
        obtain ⟨r8, hr9, h⟩ := bd h
        refine ok_callV (d := ((d + 1) + 6)) (mt := m4_playRoll) (mc := 0) (ms := 0) (As := [.ref b1, va_rf s2, .int y4, .int t0]) (r := []) dX4_passYear_117 mo4_playRoll mv4_playRoll lkRX4_68 rfl hZ_b0 (q := (RX4, TX4, 1)) rfl rfl rfl (Nat.le_of_ble_eq_true rfl) (by show _ + 1 ≤ d + _; omega) (Nat.le_refl _) (Nat.le_refl _) (pRt_mono ?_)
        refine k4_playRoll (d + 1) hW hZ_b0 hZ_b1 hS_s2 hr9 ?_
        intro _
        show Ok g _ Qx 120 [(5, .int t0), (0, .ref b0), (1, .ref b1), (2, va_rf s2), (3, .int y3), (4, .int y4)] [.int r8.1] (Z, r8.2, L, O)
        refine ok_pop dX4_passYear_120 rfl ?_
        refine ok_goto (t := 174) dX4_passYear_121 (by decide) ?_
        cases h
        exact ok_vret dX4_passYear_174 hQ
  · have h := (if_neg hc1).symm.trans h
    by_cases hc10 : (y3 - y3 / 6 * 6) = 1
    · have h := (if_pos hc10).symm.trans h
      refine ok_tabEq (t := 92) (off := 32) dX4_passYear_60 hc10 (by decide) (by decide) (by decide) (by decide) ?_
      refine ok_aload_n dX4_passYear_92 2 rfl ?_
      refine ok_iload dX4_passYear_93 5 rfl ?_
      obtain ⟨r11, hr12, h⟩ := bd h
      refine ok_callV (d := ((d + 5) + 2)) (mt := m10_hasRoll) (mc := 0) (ms := 0) (As := [.int y4]) (r := []) dX4_passYear_95 mo10_hasRoll mv10_hasRoll lkRX4_81 rfl hZ_b1 (q := (RX10, TX10, 5)) rfl rfl rfl (Nat.le_of_ble_eq_true rfl) (by show _ + 1 ≤ d + _; omega) (Nat.le_refl _) (Nat.le_refl _) (pRt_mono ?_)
      refine k10_hasRoll (d + 5) hW hZ_b1 hr12 ?_
      intro hbr11
      show Ok g _ Qx 98 [(5, .int t0), (0, .ref b0), (1, .ref b1), (2, va_rf s2), (3, .int y3), (4, .int y4)] [.int r11] (Z, I, L, O)
      refine ok_if_eq (t := 174) dX4_passYear_98 (by decide) (fun hc13 => ?_) (fun hc13 => ?_)
      · have h := (if_pos hc13).symm.trans h
        cases h
        exact ok_vret dX4_passYear_174 hQ
      · have h := (if_neg hc13).symm.trans h
        refine ok_aload_n dX4_passYear_101 2 rfl ?_
        refine ok_iload dX4_passYear_102 0 rfl ?_
        obtain ⟨r14, hr15, h⟩ := bd h
        refine ok_callV (d := ((d + 5) + 2)) (mt := m10_hasChild) (mc := 0) (ms := 0) (As := [.int t0]) (r := []) dX4_passYear_104 mo10_hasChild mv10_hasChild lkRX4_85 rfl hZ_b1 (q := (RX10, TX10, 5)) rfl rfl rfl (Nat.le_of_ble_eq_true rfl) (by show _ + 1 ≤ d + _; omega) (Nat.le_refl _) (Nat.le_refl _) (pRt_mono ?_)
        refine k10_hasChild (d + 5) hW hZ_b1 hr15 ?_
        intro hbr14
        show Ok g _ Qx 107 [(5, .int t0), (0, .ref b0), (1, .ref b1), (2, va_rf s2), (3, .int y3), (4, .int y4)] [.int r14] (Z, I, L, O)
        refine ok_if_eq (t := 174) dX4_passYear_107 (by decide) (fun hc16 => ?_) (fun hc16 => ?_)
        · have h := (if_pos hc16).symm.trans h
          cases h
          exact ok_vret dX4_passYear_174 hQ
        · have h := (if_neg hc16).symm.trans h
          refine ok_aload_n dX4_passYear_110 1 rfl ?_
          refine ok_aload_n dX4_passYear_111 2 rfl ?_
          refine ok_aloadQ_n dX4_passYear_112 3 rfl ?_
          refine ok_iload dX4_passYear_113 5 rfl ?_
          refine ok_iload dX4_passYear_115 0 rfl ?_
          obtain ⟨r17, hr18, h⟩ := bd h
          refine ok_callV (d := ((d + 1) + 6)) (mt := m4_playRoll) (mc := 0) (ms := 0) (As := [.ref b1, va_rf s2, .int y4, .int t0]) (r := []) dX4_passYear_117 mo4_playRoll mv4_playRoll lkRX4_68 rfl hZ_b0 (q := (RX4, TX4, 1)) rfl rfl rfl (Nat.le_of_ble_eq_true rfl) (by show _ + 1 ≤ d + _; omega) (Nat.le_refl _) (Nat.le_refl _) (pRt_mono ?_)
          refine k4_playRoll (d + 1) hW hZ_b0 hZ_b1 hS_s2 hr18 ?_
          intro _
          show Ok g _ Qx 120 [(5, .int t0), (0, .ref b0), (1, .ref b1), (2, va_rf s2), (3, .int y3), (4, .int y4)] [.int r17.1] (Z, r17.2, L, O)
          refine ok_pop dX4_passYear_120 rfl ?_
          refine ok_goto (t := 174) dX4_passYear_121 (by decide) ?_
          cases h
          exact ok_vret dX4_passYear_174 hQ
    · have h := (if_neg hc10).symm.trans h
      by_cases hc19 : (y3 - y3 / 6 * 6) = 2
      · have h := (if_pos hc19).symm.trans h
        refine ok_tabEq (t := 124) (off := 64) dX4_passYear_60 hc19 (by decide) (by decide) (by decide) (by decide) ?_
        refine ok_aload_n dX4_passYear_124 2 rfl ?_
        refine ok_iload dX4_passYear_125 5 rfl ?_
        refine ok_iload_n dX4_passYear_127 4 rfl ?_
        refine ok_bipush (v := 6) dX4_passYear_128 (by decide) ?_
        refine ok_idiv dX4_passYear_130 (by decide) ?_
        refine ok_bipush (v := 16) dX4_passYear_131 (by decide) ?_
        refine ok_irem dX4_passYear_133 (by decide) ?_
        obtain ⟨r20, hr21, h⟩ := bd h
        refine ok_callV (d := ((d + 4) + 3)) (mt := m10_mend) (mc := 0) (ms := 0) (As := [.int y4, .int ((y3 / 6) - (y3 / 6) / 16 * 16)]) (r := []) dX4_passYear_134 mo10_mend mv10_mend lkRX4_88 rfl hZ_b1 (q := (RX10, TX10, 5)) rfl rfl rfl (Nat.le_of_ble_eq_true rfl) (by show _ + 1 ≤ d + _; omega) (Nat.le_refl _) (Nat.le_refl _) (pRt_mono ?_)
        refine k10_mend (d + 4) hW hZ_b1 hr21 ?_
        intro _
        show Ok g _ Qx 137 [(5, .int t0), (0, .ref b0), (1, .ref b1), (2, va_rf s2), (3, .int y3), (4, .int y4)] [] (Z, r20, L, O)
        refine ok_goto (t := 174) dX4_passYear_137 (by decide) ?_
        cases h
        exact ok_vret dX4_passYear_174 hQ
      · have h := (if_neg hc19).symm.trans h
        by_cases hc22 : (y3 - y3 / 6 * 6) = 3
        · have h := (if_pos hc22).symm.trans h
          refine ok_tabEq (t := 140) (off := 80) dX4_passYear_60 hc22 (by decide) (by decide) (by decide) (by decide) ?_
          refine ok_aload_n dX4_passYear_140 2 rfl ?_
          refine ok_iload dX4_passYear_141 0 rfl ?_
          refine ok_iconst (v := 1) dX4_passYear_143 (by decide) ?_
          refine ok_iload_n dX4_passYear_144 4 rfl ?_
          refine ok_iconst (v := 5) dX4_passYear_145 (by decide) ?_
          refine ok_irem dX4_passYear_146 (by decide) ?_
          refine ok_iadd dX4_passYear_147 ?_
          obtain ⟨r23, hr24, h⟩ := bd h
          refine ok_callV (d := ((d + 4) + 3)) (mt := m10_unhear) (mc := 0) (ms := 0) (As := [.int t0, .int ((1 : Int32) + (y3 - y3 / 5 * 5))]) (r := []) dX4_passYear_148 mo10_unhear mv10_unhear lkRX4_91 rfl hZ_b1 (q := (RX10, TX10, 5)) rfl rfl rfl (Nat.le_of_ble_eq_true rfl) (by show _ + 1 ≤ d + _; omega) (Nat.le_refl _) (Nat.le_refl _) (pRt_mono ?_)
          refine k10_unhear (d + 4) hW hZ_b1 hr24 ?_
          intro _
          show Ok g _ Qx 151 [(5, .int t0), (0, .ref b0), (1, .ref b1), (2, va_rf s2), (3, .int y3), (4, .int y4)] [] (Z, r23, L, O)
          refine ok_goto (t := 174) dX4_passYear_151 (by decide) ?_
          cases h
          exact ok_vret dX4_passYear_174 hQ
        · have h := (if_neg hc22).symm.trans h
          refine ok_tabOut (t := 154) dX4_passYear_60 (by have n0 := neI hc1 (a := 0) (by decide); have n1 := neI hc10 (a := 1) (by decide); have n2 := neI hc19 (a := 2) (by decide); have n3 := neI hc22 (a := 3) (by decide); omega) (by decide) ?_
          refine ok_aload_n dX4_passYear_154 2 rfl ?_
          have hT25 : Z[(rO O b1 2)]? = some (3, 6) := (wt_f (ci := 10) (k := 2) hW hZ_b1 rfl).2
          refine ok_getR (ci := 10) (k := 2) dX4_passYear_155 flRX4_31 rfl hW hZ_b1 (by decide) ?_
          refine ok_getI (ci := 3) (k := 4) dX4_passYear_158 flRX4_72 rfl hT25 (by decide) ?_
          refine ok_sipush (v := 9999) dX4_passYear_161 (by decide) ?_
          refine ok_icmp_ge (t := 174) dX4_passYear_164 (by decide) (fun hc26 => ?_) (fun hc26 => ?_)
          · have h := (if_pos hc26).symm.trans h
            cases h
            exact ok_vret dX4_passYear_174 hQ
          · have h := (if_neg hc26).symm.trans h
            refine ok_aload_n dX4_passYear_167 1 rfl ?_
            refine ok_aload_n dX4_passYear_168 2 rfl ?_
            refine ok_aloadQ_n dX4_passYear_169 3 rfl ?_
            obtain ⟨r27, hr28, h⟩ := bd h
            refine ok_callV (d := ((d + 0) + 7)) (mt := m4_passSunday) (mc := 0) (ms := 0) (As := [.ref b1, va_rf s2]) (r := []) dX4_passYear_170 mo4_passSunday mv4_passSunday lkRX4_94 rfl hZ_b0 (q := (RX4, TX4, 1)) rfl rfl rfl (Nat.le_of_ble_eq_true rfl) (by show _ + 1 ≤ d + _; omega) (Nat.le_refl _) (Nat.le_refl _) (pRt_mono ?_)
            refine k4_passSunday (d + 0) hW hZ_b0 hZ_b1 hS_s2 hr28 ?_
            intro _
            show Ok g _ Qx 173 [(5, .int t0), (0, .ref b0), (1, .ref b1), (2, va_rf s2), (3, .int y3), (4, .int y4)] [.int r27.1] (Z, r27.2, L, O)
            refine ok_pop dX4_passYear_173 rfl ?_
            cases h
            exact ok_vret dX4_passYear_174 hQ
def f4_passYear_c32 (n : Nat) (O : (Nat → Nat → Option Nat)) (I : (Nat → Nat → Int32)) (b0 : Nat) (b1 : Nat) (s2 : Option Nat) (y3 : Int32) (t0 : Int32) : Option ((Nat → Nat → Int32)) := (if (I b1 4) ≤ 0 then f4_passYear_c54 n O I b0 b1 s2 y3 t0 (-1 : Int32) else if (I b1 4) = 0 then none else f4_passYear_c54 n O I b0 b1 s2 y3 t0 ((y3 / 6) - (y3 / 6) / (I b1 4) * (I b1 4)))
set_option maxHeartbeats 4000000 in
set_option maxRecDepth 20000 in
theorem o4_passYear_c32 {g : pG} {Qx : Option Value → pW → Prop} {Z : pZ} {L : (Nat → Nat → Int64)} {O : (Nat → Nat → Option Nat)} {n : Nat} {res : (Nat → Nat → Int32)} (d : Nat) (hW : WT Z O) (hQ : Qx none (Z, res, L, O)) (I : (Nat → Nat → Int32)) (b0 : Nat) (b1 : Nat) (s2 : Option Nat) (y3 : Int32) (t0 : Int32) (hZ_b0 : Z[b0]? = some (4, 1)) (hZ_b1 : Z[b1]? = some (10, 5)) (hS_s2 : ∀ b, s2 = some b → Z[b]? = some (7, 7)) (h : f4_passYear_c32 n O I b0 b1 s2 y3 t0 = some res) : Ok g (d + 8, RX4, cX4_passYear, 6, false, 0, 0, Z.length, pSl Z) Qx 32 [(0, .ref b0), (1, .ref b1), (2, va_rf s2), (3, .int y3)] [.int t0] (Z, I, L, O) := by
  unfold f4_passYear_c32 at h
  refine ok_istore (l' := [(4, .int t0), (0, .ref b0), (1, .ref b1), (2, va_rf s2), (3, .int y3)]) dX4_passYear_32 (Nat.le_of_ble_eq_true rfl) rfl ?_
  refine ok_aload_n dX4_passYear_34 2 rfl ?_
  refine ok_getI (ci := 10) (k := 4) dX4_passYear_35 flRX4_65 rfl hZ_b1 (by decide) ?_
  refine ok_if_le (t := 53) dX4_passYear_38 (by decide) (fun hc1 => ?_) (fun hc1 => ?_)
  · have h := (if_pos hc1).symm.trans h
    refine ok_iconst (v := (-1)) dX4_passYear_53 (by decide) ?_
    refine ok_sub [1, 2, 3, 4, 0] rfl ?_
    exact o4_passYear_c54 d hW hQ  I b0 b1 s2 y3 t0 (-1 : Int32) hZ_b0 hZ_b1 hS_s2 h
  · have h := (if_neg hc1).symm.trans h
    refine ok_iload_n dX4_passYear_41 4 rfl ?_
    refine ok_bipush (v := 6) dX4_passYear_42 (by decide) ?_
    refine ok_idiv dX4_passYear_44 (by decide) ?_
    refine ok_aload_n dX4_passYear_45 2 rfl ?_
    refine ok_getI (ci := 10) (k := 4) dX4_passYear_46 flRX4_65 rfl hZ_b1 (by decide) ?_
    obtain ⟨hg2, h⟩ := gd h
    refine ok_irem dX4_passYear_49 hg2 ?_
    refine ok_goto (t := 54) dX4_passYear_50 (by decide) ?_
    refine ok_sub [1, 2, 3, 4, 0] rfl ?_
    exact o4_passYear_c54 d hW hQ  I b0 b1 s2 y3 t0 ((y3 / 6) - (y3 / 6) / (I b1 4) * (I b1 4)) hZ_b0 hZ_b1 hS_s2 h
def f4_passYear (n : Nat) (I : (Nat → Nat → Int32)) (O : (Nat → Nat → Option Nat)) (a0 : Nat) (a1 : Nat) (s2 : Option Nat) : Option ((Nat → Nat → Int32)) := (f3_drawAnew I (rO O a1 2)).bind fun r2 => (if (r2 a1 3) ≤ 0 then f4_passYear_c32 n O r2 a0 a1 s2 (I (rO O a1 2) 5) (-1 : Int32) else if (r2 a1 3) = 0 then none else f4_passYear_c32 n O r2 a0 a1 s2 (I (rO O a1 2) 5) ((I (rO O a1 2) 5) - (I (rO O a1 2) 5) / (r2 a1 3) * (r2 a1 3)))
set_option maxHeartbeats 4000000 in
set_option maxRecDepth 20000 in
theorem o4_passYear {g : pG} {Qx : Option Value → pW → Prop} {Z : pZ} {I : (Nat → Nat → Int32)} {L : (Nat → Nat → Int64)} {O : (Nat → Nat → Option Nat)} {n : Nat} {a0 : Nat} {a1 : Nat} {s2 : Option Nat} {res : (Nat → Nat → Int32)} (d : Nat) (hW : WT Z O) (hZ0 : Z[a0]? = some (4, 1)) (hZ1 : Z[a1]? = some (10, 5)) (hS2 : ∀ b, s2 = some b → Z[b]? = some (7, 7)) (h : f4_passYear n I O a0 a1 s2 = some res) (hQ : Qx none (Z, res, L, O)) : Ok g (d + 8, RX4, cX4_passYear, 6, false, 0, 0, Z.length, pSl Z) Qx 0 [(0, .ref a0), (1, .ref a1), (2, va_rf s2)] [] (Z, I, L, O) := by
  unfold f4_passYear at h
  refine ok_aload_n dX4_passYear_0 1 rfl ?_
  have hT1 : Z[(rO O a1 2)]? = some (3, 6) := (wt_f (ci := 10) (k := 2) hW hZ1 rfl).2
  refine ok_getR (ci := 10) (k := 2) dX4_passYear_1 flRX4_31 rfl hW hZ1 (by decide) ?_
  refine ok_getI (ci := 3) (k := 5) dX4_passYear_4 flRX4_75 rfl hT1 (by decide) ?_
  refine ok_istore_n (l' := [(3, .int (I (rO O a1 2) 5)), (0, .ref a0), (1, .ref a1), (2, va_rf s2)]) dX4_passYear_7 rfl (Nat.le_of_ble_eq_true rfl) (by cases s2 <;> rfl) ?_
  refine ok_aload_n dX4_passYear_8 2 rfl ?_
  refine ok_getR (ci := 10) (k := 2) dX4_passYear_9 flRX4_31 rfl hW hZ1 (by decide) ?_
  obtain ⟨r2, hr3, h⟩ := bd h
  refine ok_callV (d := ((d + 5) + 2)) (mt := m3_drawAnew) (mc := 0) (ms := 0) (As := []) (r := []) dX4_passYear_12 mo3_drawAnew mv3_drawAnew lkRX4_78 rfl hT1 (q := (RX3, TX3, 6)) rfl rfl rfl (Nat.le_of_ble_eq_true rfl) (by show _ + 1 ≤ d + _; omega) (Nat.le_refl _) (Nat.le_refl _) (pRt_mono ?_)
  refine k3_drawAnew (d + 5) hW hT1 hr3 ?_
  intro _
  show Ok g _ Qx 15 [(3, .int (I (rO O a1 2) 5)), (0, .ref a0), (1, .ref a1), (2, va_rf s2)] [] (Z, r2, L, O)
  refine ok_aload_n dX4_passYear_15 2 rfl ?_
  refine ok_getI (ci := 10) (k := 3) dX4_passYear_16 flRX4_61 rfl hZ1 (by decide) ?_
  refine ok_if_le (t := 31) dX4_passYear_19 (by decide) (fun hc4 => ?_) (fun hc4 => ?_)
  · have h := (if_pos hc4).symm.trans h
    refine ok_iconst (v := (-1)) dX4_passYear_31 (by decide) ?_
    refine ok_sub [1, 2, 3, 0] rfl ?_
    exact o4_passYear_c32 d hW hQ  r2 a0 a1 s2 (I (rO O a1 2) 5) (-1 : Int32) hZ0 hZ1 hS2 h
  · have h := (if_neg hc4).symm.trans h
    refine ok_iload_n dX4_passYear_22 0 rfl ?_
    refine ok_aload_n dX4_passYear_23 2 rfl ?_
    refine ok_getI (ci := 10) (k := 3) dX4_passYear_24 flRX4_61 rfl hZ1 (by decide) ?_
    obtain ⟨hg5, h⟩ := gd h
    refine ok_irem dX4_passYear_27 hg5 ?_
    refine ok_goto (t := 32) dX4_passYear_28 (by decide) ?_
    refine ok_sub [1, 2, 3, 0] rfl ?_
    exact o4_passYear_c32 d hW hQ  r2 a0 a1 s2 (I (rO O a1 2) 5) ((I (rO O a1 2) 5) - (I (rO O a1 2) 5) / (r2 a1 3) * (r2 a1 3)) hZ0 hZ1 hS2 h
theorem k4_passYear {g : pG} {Q : Option Value → pW → Prop} {Z : pZ} {I : (Nat → Nat → Int32)} {L : (Nat → Nat → Int64)} {O : (Nat → Nat → Option Nat)} {n : Nat} {a0 : Nat} {a1 : Nat} {s2 : Option Nat} {res : (Nat → Nat → Int32)} (d : Nat) (hW : WT Z O) (hZ0 : Z[a0]? = some (4, 1)) (hZ1 : Z[a1]? = some (10, 5)) (hS2 : ∀ b, s2 = some b → Z[b]? = some (7, 7)) (h : f4_passYear n I O a0 a1 s2 = some res) (hQ : Q none (Z, res, L, O)) : CT g (d + 8) m4_passYear 0 0 [.ref a0, .ref a1, va_rf s2] (Z, I, L, O) Q :=
  ct_of_ok (mt := m4_passYear) (ini := false) mo4_passYear.2.2.2.2 (fun h => by cases h) (by cases s2 <;> exact (Nat.le_of_ble_eq_true rfl)) (by
    rw [show lv_args 0 [.ref a0, .ref a1, va_rf s2] = [(0, .ref a0), (1, .ref a1), (2, va_rf s2)] by cases s2 <;> rfl]
    exact o4_passYear d hW hZ0 hZ1 hS2 h ⟨trivial, hQ, rfl, rfl⟩)
theorem dX4_playingsToTearPlace_0 : decode cX4_playingsToTearPlace 0 = .ok (.aload_n 1, 1) := by decide +kernel
theorem dX4_playingsToTearPlace_1 : decode cX4_playingsToTearPlace 1 = .ok (.iload_n 3, 1) := by decide +kernel
theorem dX4_playingsToTearPlace_2 : decode cX4_playingsToTearPlace 2 = .ok (.iload 4, 2) := by decide +kernel
theorem dX4_playingsToTearPlace_4 : decode cX4_playingsToTearPlace 4 = .ok (.invokevirtual 48, 3) := by decide +kernel
theorem dX4_playingsToTearPlace_7 : decode cX4_playingsToTearPlace 7 = .ok (.istore 5, 2) := by decide +kernel
theorem dX4_playingsToTearPlace_9 : decode cX4_playingsToTearPlace 9 = .ok (.iconst 0, 1) := by decide +kernel
theorem dX4_playingsToTearPlace_10 : decode cX4_playingsToTearPlace 10 = .ok (.istore 6, 2) := by decide +kernel
theorem dX4_playingsToTearPlace_12 : decode cX4_playingsToTearPlace 12 = .ok (.iload 6, 2) := by decide +kernel
theorem dX4_playingsToTearPlace_14 : decode cX4_playingsToTearPlace 14 = .ok (.bipush 99, 2) := by decide +kernel
theorem dX4_playingsToTearPlace_16 : decode cX4_playingsToTearPlace 16 = .ok (.if_icmp .ge 35, 3) := by decide +kernel
theorem dX4_playingsToTearPlace_19 : decode cX4_playingsToTearPlace 19 = .ok (.iload 5, 2) := by decide +kernel
theorem dX4_playingsToTearPlace_21 : decode cX4_playingsToTearPlace 21 = .ok (.bipush 9, 2) := by decide +kernel
theorem dX4_playingsToTearPlace_23 : decode cX4_playingsToTearPlace 23 = .ok (.if_icmp .ge 28, 3) := by decide +kernel
theorem dX4_playingsToTearPlace_26 : decode cX4_playingsToTearPlace 26 = .ok (.iload 5, 2) := by decide +kernel
theorem dX4_playingsToTearPlace_28 : decode cX4_playingsToTearPlace 28 = .ok (.aload_n 0, 1) := by decide +kernel
theorem dX4_playingsToTearPlace_29 : decode cX4_playingsToTearPlace 29 = .ok (.getfield 9, 3) := by decide +kernel
theorem dX4_playingsToTearPlace_32 : decode cX4_playingsToTearPlace 32 = .ok (.aload_n 2, 1) := by decide +kernel
theorem dX4_playingsToTearPlace_33 : decode cX4_playingsToTearPlace 33 = .ok (.aload_n 1, 1) := by decide +kernel
theorem dX4_playingsToTearPlace_34 : decode cX4_playingsToTearPlace 34 = .ok (.iload_n 3, 1) := by decide +kernel
theorem dX4_playingsToTearPlace_35 : decode cX4_playingsToTearPlace 35 = .ok (.iload 4, 2) := by decide +kernel
theorem dX4_playingsToTearPlace_37 : decode cX4_playingsToTearPlace 37 = .ok (.iload 5, 2) := by decide +kernel
theorem dX4_playingsToTearPlace_39 : decode cX4_playingsToTearPlace 39 = .ok (.invokevirtual 51, 3) := by decide +kernel
theorem dX4_playingsToTearPlace_42 : decode cX4_playingsToTearPlace 42 = .ok (.iadd, 1) := by decide +kernel
theorem dX4_playingsToTearPlace_43 : decode cX4_playingsToTearPlace 43 = .ok (.istore 5, 2) := by decide +kernel
theorem dX4_playingsToTearPlace_45 : decode cX4_playingsToTearPlace 45 = .ok (.iinc 6 1, 3) := by decide +kernel
theorem dX4_playingsToTearPlace_48 : decode cX4_playingsToTearPlace 48 = .ok (.goto (-36), 3) := by decide +kernel
theorem dX4_playingsToTearPlace_51 : decode cX4_playingsToTearPlace 51 = .ok (.iload 6, 2) := by decide +kernel
theorem dX4_playingsToTearPlace_53 : decode cX4_playingsToTearPlace 53 = .ok (.ireturn, 1) := by decide +kernel
def m4_playingsToTearPlace : pMT := (yX4_playingsToTearPlace, cX4_playingsToTearPlace, 7, some .int)
theorem mo4_playingsToTearPlace : mOK m4_playingsToTearPlace 4 := ⟨tb_i 954 (by decide +kernel), wi_RX4, ⟨wn_RX4.1, wn_RX4.2, by decide +kernel⟩, by decide, plainFor_of_name wp_RX4⟩
theorem mv4_playingsToTearPlace : mV m4_playingsToTearPlace := ⟨tb_i 953 (by decide +kernel), tb_p 38 (by decide +kernel)⟩
def f4_playingsToTearPlace_c12 (n : Nat) (O : (Nat → Nat → Option Nat)) : Nat → (Nat → Nat → Int32) → Nat → Nat → Option Nat → Int32 → Int32 → Int32 → Int32 → Option (Int32 × (Nat → Nat → Int32))
  | 0, _, _, _, _, _, _, _, _ => none
  | m + 1, I, b0, b1, s2, y3, y4, y5, y6 => (if (99 : Int32) ≤ y6 then some (y6, I) else (if (9 : Int32) ≤ y5 then some (y6, I) else (f1_wears n I O (rO O b0 0) s2 b1 y3 y4 y5).bind fun r4 => f4_playingsToTearPlace_c12 n O m r4.2 b0 b1 s2 y3 y4 (y5 + r4.1) (y6 + 1)))
set_option maxHeartbeats 4000000 in
set_option maxRecDepth 20000 in
theorem o4_playingsToTearPlace_c12 {g : pG} {Qx : Option Value → pW → Prop} {Z : pZ} {L : (Nat → Nat → Int64)} {O : (Nat → Nat → Option Nat)} {n : Nat} {res : Int32 × (Nat → Nat → Int32)} (d : Nat) (hW : WT Z O) (hQ : Qx (some (.int res.1)) (Z, res.2, L, O)) : ∀ (m : Nat) (I : (Nat → Nat → Int32)) (b0 : Nat) (b1 : Nat) (s2 : Option Nat) (y3 : Int32) (y4 : Int32) (y5 : Int32) (y6 : Int32), (Z[b0]? = some (4, 1)) → (Z[b1]? = some (10, 5)) → (∀ b, s2 = some b → Z[b]? = some (7, 7)) → f4_playingsToTearPlace_c12 n O m I b0 b1 s2 y3 y4 y5 y6 = some res → Ok g (d + 6, RX4, cX4_playingsToTearPlace, 7, false, 0, 0, Z.length, pSl Z) Qx 12 [(0, .ref b0), (1, .ref b1), (2, va_rf s2), (3, .int y3), (4, .int y4), (5, .int y5), (6, .int y6)] [] (Z, I, L, O) := by
  intro m
  induction m with
  | zero => intro I b0 b1 s2 y3 y4 y5 y6 hZ_b0 hZ_b1 hS_s2 h; rw [f4_playingsToTearPlace_c12] at h; cases h
  | succ m ih =>
    intro I b0 b1 s2 y3 y4 y5 y6 hZ_b0 hZ_b1 hS_s2 h
    rw [f4_playingsToTearPlace_c12] at h
    refine ok_iload dX4_playingsToTearPlace_12 6 rfl ?_
    refine ok_bipush (v := 99) dX4_playingsToTearPlace_14 (by decide) ?_
    refine ok_icmp_ge (t := 51) dX4_playingsToTearPlace_16 (by decide) (fun hc1 => ?_) (fun hc1 => ?_)
    · have h := (if_pos hc1).symm.trans h
      refine ok_iload dX4_playingsToTearPlace_51 6 rfl ?_
      cases h
      exact ok_iret dX4_playingsToTearPlace_53 hQ
    · have h := (if_neg hc1).symm.trans h
      refine ok_iload dX4_playingsToTearPlace_19 5 rfl ?_
      refine ok_bipush (v := 9) dX4_playingsToTearPlace_21 (by decide) ?_
      refine ok_icmp_ge (t := 51) dX4_playingsToTearPlace_23 (by decide) (fun hc2 => ?_) (fun hc2 => ?_)
      · have h := (if_pos hc2).symm.trans h
        refine ok_iload dX4_playingsToTearPlace_51 6 rfl ?_
        cases h
        exact ok_iret dX4_playingsToTearPlace_53 hQ
      · have h := (if_neg hc2).symm.trans h
        refine ok_iload dX4_playingsToTearPlace_26 5 rfl ?_
        refine ok_aload_n dX4_playingsToTearPlace_28 0 rfl ?_
        have hT3 : Z[(rO O b0 0)]? = some (1, 3) := (wt_f (ci := 4) (k := 0) hW hZ_b0 rfl).2
        refine ok_getR (ci := 4) (k := 0) dX4_playingsToTearPlace_29 flRX4_9 rfl hW hZ_b0 (by decide) ?_
        refine ok_aloadQ_n dX4_playingsToTearPlace_32 2 rfl ?_
        refine ok_aload_n dX4_playingsToTearPlace_33 1 rfl ?_
        refine ok_iload_n dX4_playingsToTearPlace_34 3 rfl ?_
        refine ok_iload dX4_playingsToTearPlace_35 4 rfl ?_
        refine ok_iload dX4_playingsToTearPlace_37 5 rfl ?_
        obtain ⟨r4, hr5, h⟩ := bd h
        refine ok_callV (d := ((d + 0) + 5)) (mt := m1_wears) (mc := 0) (ms := 0) (As := [va_rf s2, .ref b1, .int y3, .int y4, .int y5]) (r := [.int y5]) dX4_playingsToTearPlace_39 mo1_wears mv1_wears lkRX4_51 rfl hT3 (q := (RX1, TX1, 3)) rfl rfl rfl (Nat.le_of_ble_eq_true rfl) (by show _ + 1 ≤ d + _; omega) (Nat.le_refl _) (Nat.le_refl _) (pRt_mono ?_)
        refine k1_wears (d + 0) hW hT3 hS_s2 hZ_b1 hr5 ?_
        intro _
        show Ok g _ Qx 42 [(0, .ref b0), (1, .ref b1), (2, va_rf s2), (3, .int y3), (4, .int y4), (5, .int y5), (6, .int y6)] [.int r4.1, .int y5] (Z, r4.2, L, O)
        refine ok_iadd dX4_playingsToTearPlace_42 ?_
        refine ok_istore (l' := [(5, .int (y5 + r4.1)), (0, .ref b0), (1, .ref b1), (2, va_rf s2), (3, .int y3), (4, .int y4), (6, .int y6)]) dX4_playingsToTearPlace_43 (Nat.le_of_ble_eq_true rfl) rfl ?_
        refine ok_iinc (u := (y6 + 1)) (l' := [(6, .int (y6 + 1)), (5, .int (y5 + r4.1)), (0, .ref b0), (1, .ref b1), (2, va_rf s2), (3, .int y3), (4, .int y4)]) dX4_playingsToTearPlace_45 6 rfl rfl (Nat.le_of_ble_eq_true rfl) rfl ?_
        refine ok_goto (t := 12) dX4_playingsToTearPlace_48 (by decide) ?_
        refine ok_sub [2, 3, 4, 5, 6, 1, 0] rfl ?_
        exact ih r4.2 b0 b1 s2 y3 y4 (y5 + r4.1) (y6 + 1) hZ_b0 hZ_b1 hS_s2 h
def f4_playingsToTearPlace (n : Nat) (I : (Nat → Nat → Int32)) (O : (Nat → Nat → Option Nat)) (a0 : Nat) (a1 : Nat) (s2 : Option Nat) (x3 : Int32) (x4 : Int32) : Option (Int32 × (Nat → Nat → Int32)) := (f10_wearAt I O a1 x3 x4).bind fun r1 => f4_playingsToTearPlace_c12 n O n I a0 a1 s2 x3 x4 r1 (0 : Int32)
set_option maxHeartbeats 4000000 in
set_option maxRecDepth 20000 in
theorem o4_playingsToTearPlace {g : pG} {Qx : Option Value → pW → Prop} {Z : pZ} {I : (Nat → Nat → Int32)} {L : (Nat → Nat → Int64)} {O : (Nat → Nat → Option Nat)} {n : Nat} {a0 : Nat} {a1 : Nat} {s2 : Option Nat} {x3 : Int32} {x4 : Int32} {res : Int32 × (Nat → Nat → Int32)} (d : Nat) (hW : WT Z O) (hZ0 : Z[a0]? = some (4, 1)) (hZ1 : Z[a1]? = some (10, 5)) (hS2 : ∀ b, s2 = some b → Z[b]? = some (7, 7)) (h : f4_playingsToTearPlace n I O a0 a1 s2 x3 x4 = some res) (hQ : Qx (some (.int res.1)) (Z, res.2, L, O)) : Ok g (d + 6, RX4, cX4_playingsToTearPlace, 7, false, 0, 0, Z.length, pSl Z) Qx 0 [(0, .ref a0), (1, .ref a1), (2, va_rf s2), (3, .int x3), (4, .int x4)] [] (Z, I, L, O) := by
  unfold f4_playingsToTearPlace at h
  refine ok_aload_n dX4_playingsToTearPlace_0 1 rfl ?_
  refine ok_iload_n dX4_playingsToTearPlace_1 3 rfl ?_
  refine ok_iload dX4_playingsToTearPlace_2 4 rfl ?_
  obtain ⟨r1, hr2, h⟩ := bd h
  refine ok_callV (d := ((d + 2) + 3)) (mt := m10_wearAt) (mc := 0) (ms := 0) (As := [.int x3, .int x4]) (r := []) dX4_playingsToTearPlace_4 mo10_wearAt mv10_wearAt lkRX4_48 rfl hZ1 (q := (RX10, TX10, 5)) rfl rfl rfl (Nat.le_of_ble_eq_true rfl) (by show _ + 1 ≤ d + _; omega) (Nat.le_refl _) (Nat.le_refl _) (pRt_mono ?_)
  refine k10_wearAt (d + 2) hW hZ1 hr2 ?_
  intro _
  show Ok g _ Qx 7 [(0, .ref a0), (1, .ref a1), (2, va_rf s2), (3, .int x3), (4, .int x4)] [.int r1] (Z, I, L, O)
  refine ok_istore (l' := [(5, .int r1), (0, .ref a0), (1, .ref a1), (2, va_rf s2), (3, .int x3), (4, .int x4)]) dX4_playingsToTearPlace_7 (Nat.le_of_ble_eq_true rfl) rfl ?_
  refine ok_iconst (v := 0) dX4_playingsToTearPlace_9 (by decide) ?_
  refine ok_istore (l' := [(6, .int 0), (5, .int r1), (0, .ref a0), (1, .ref a1), (2, va_rf s2), (3, .int x3), (4, .int x4)]) dX4_playingsToTearPlace_10 (Nat.le_of_ble_eq_true rfl) rfl ?_
  refine ok_sub [2, 3, 4, 5, 6, 1, 0] rfl ?_
  exact o4_playingsToTearPlace_c12 d hW hQ  n I a0 a1 s2 x3 x4 r1 (0 : Int32) hZ0 hZ1 hS2 h
theorem k4_playingsToTearPlace {g : pG} {Q : Option Value → pW → Prop} {Z : pZ} {I : (Nat → Nat → Int32)} {L : (Nat → Nat → Int64)} {O : (Nat → Nat → Option Nat)} {n : Nat} {a0 : Nat} {a1 : Nat} {s2 : Option Nat} {x3 : Int32} {x4 : Int32} {res : Int32 × (Nat → Nat → Int32)} (d : Nat) (hW : WT Z O) (hZ0 : Z[a0]? = some (4, 1)) (hZ1 : Z[a1]? = some (10, 5)) (hS2 : ∀ b, s2 = some b → Z[b]? = some (7, 7)) (h : f4_playingsToTearPlace n I O a0 a1 s2 x3 x4 = some res) (hQ : Q (some (.int res.1)) (Z, res.2, L, O)) : CT g (d + 6) m4_playingsToTearPlace 0 0 [.ref a0, .ref a1, va_rf s2, .int x3, .int x4] (Z, I, L, O) Q :=
  ct_of_ok (mt := m4_playingsToTearPlace) (ini := false) mo4_playingsToTearPlace.2.2.2.2 (fun h => by cases h) (by cases s2 <;> exact (Nat.le_of_ble_eq_true rfl)) (by
    rw [show lv_args 0 [.ref a0, .ref a1, va_rf s2, .int x3, .int x4] = [(0, .ref a0), (1, .ref a1), (2, va_rf s2), (3, .int x3), (4, .int x4)] by cases s2 <;> rfl]
    exact o4_playingsToTearPlace d hW hZ0 hZ1 hS2 h ⟨trivial, hQ, rfl, rfl⟩)
theorem dX4_playingsToTear_0 : decode cX4_playingsToTear 0 = .ok (.bipush 99, 2) := by decide +kernel
theorem dX4_playingsToTear_2 : decode cX4_playingsToTear 2 = .ok (.istore 4, 2) := by decide +kernel
theorem dX4_playingsToTear_4 : decode cX4_playingsToTear 4 = .ok (.iconst 0, 1) := by decide +kernel
theorem dX4_playingsToTear_5 : decode cX4_playingsToTear 5 = .ok (.istore 5, 2) := by decide +kernel
theorem dX4_playingsToTear_7 : decode cX4_playingsToTear 7 = .ok (.iload 5, 2) := by decide +kernel
theorem dX4_playingsToTear_9 : decode cX4_playingsToTear 9 = .ok (.aload_n 1, 1) := by decide +kernel
theorem dX4_playingsToTear_10 : decode cX4_playingsToTear 10 = .ok (.iload_n 3, 1) := by decide +kernel
theorem dX4_playingsToTear_11 : decode cX4_playingsToTear 11 = .ok (.invokevirtual 15, 3) := by decide +kernel
theorem dX4_playingsToTear_14 : decode cX4_playingsToTear 14 = .ok (.if_icmp .ge 35, 3) := by decide +kernel
theorem dX4_playingsToTear_17 : decode cX4_playingsToTear 17 = .ok (.aload_n 1, 1) := by decide +kernel
theorem dX4_playingsToTear_18 : decode cX4_playingsToTear 18 = .ok (.iload_n 3, 1) := by decide +kernel
theorem dX4_playingsToTear_19 : decode cX4_playingsToTear 19 = .ok (.iload 5, 2) := by decide +kernel
theorem dX4_playingsToTear_21 : decode cX4_playingsToTear 21 = .ok (.invokevirtual 40, 3) := by decide +kernel
theorem dX4_playingsToTear_24 : decode cX4_playingsToTear 24 = .ok (.ifCond .eq 19, 3) := by decide +kernel
theorem dX4_playingsToTear_27 : decode cX4_playingsToTear 27 = .ok (.iload 4, 2) := by decide +kernel
theorem dX4_playingsToTear_29 : decode cX4_playingsToTear 29 = .ok (.aload_n 0, 1) := by decide +kernel
theorem dX4_playingsToTear_30 : decode cX4_playingsToTear 30 = .ok (.aload_n 1, 1) := by decide +kernel
theorem dX4_playingsToTear_31 : decode cX4_playingsToTear 31 = .ok (.aload_n 2, 1) := by decide +kernel
theorem dX4_playingsToTear_32 : decode cX4_playingsToTear 32 = .ok (.iload_n 3, 1) := by decide +kernel
theorem dX4_playingsToTear_33 : decode cX4_playingsToTear 33 = .ok (.iload 5, 2) := by decide +kernel
theorem dX4_playingsToTear_35 : decode cX4_playingsToTear 35 = .ok (.invokevirtual 98, 3) := by decide +kernel
theorem dX4_playingsToTear_38 : decode cX4_playingsToTear 38 = .ok (.invokestatic 101, 3) := by decide +kernel
theorem dX4_playingsToTear_41 : decode cX4_playingsToTear 41 = .ok (.istore 4, 2) := by decide +kernel
theorem dX4_playingsToTear_43 : decode cX4_playingsToTear 43 = .ok (.iinc 5 1, 3) := by decide +kernel
theorem dX4_playingsToTear_46 : decode cX4_playingsToTear 46 = .ok (.goto (-39), 3) := by decide +kernel
theorem dX4_playingsToTear_49 : decode cX4_playingsToTear 49 = .ok (.iload 4, 2) := by decide +kernel
theorem dX4_playingsToTear_51 : decode cX4_playingsToTear 51 = .ok (.ireturn, 1) := by decide +kernel
def m4_playingsToTear : pMT := (yX4_playingsToTear, cX4_playingsToTear, 6, some .int)
theorem mo4_playingsToTear : mOK m4_playingsToTear 3 := ⟨tb_i 950 (by decide +kernel), wi_RX4, ⟨wn_RX4.1, wn_RX4.2, by decide +kernel⟩, by decide, plainFor_of_name wp_RX4⟩
theorem mv4_playingsToTear : mV m4_playingsToTear := ⟨tb_i 948 (by decide +kernel), tb_i 949 (by decide +kernel)⟩
def f4_playingsToTear_c7 (n : Nat) (O : (Nat → Nat → Option Nat)) : Nat → (Nat → Nat → Int32) → Nat → Nat → Option Nat → Int32 → Int32 → Int32 → Option (Int32 × (Nat → Nat → Int32))
  | 0, _, _, _, _, _, _, _ => none
  | m + 1, I, b0, b1, s2, y3, y4, y5 => (f10_size I O b1 y3).bind fun r1 => (if r1 ≤ y5 then some (y4, I) else (f10_keyAt I O b1 y3 y5).bind fun r4 => (if r4 = 0 then f4_playingsToTear_c7 n O m I b0 b1 s2 y3 y4 (y5 + 1) else (f4_playingsToTearPlace n I O b0 b1 s2 y3 y5).bind fun r7 => (fJ9_min_7cf53 y4 r7.1).bind fun r9 => f4_playingsToTear_c7 n O m r7.2 b0 b1 s2 y3 r9 (y5 + 1)))
set_option maxHeartbeats 4000000 in
set_option maxRecDepth 20000 in
theorem o4_playingsToTear_c7 {g : pG} {Qx : Option Value → pW → Prop} {Z : pZ} {L : (Nat → Nat → Int64)} {O : (Nat → Nat → Option Nat)} {n : Nat} {res : Int32 × (Nat → Nat → Int32)} (d : Nat) (hW : WT Z O) (hQ : Qx (some (.int res.1)) (Z, res.2, L, O)) : ∀ (m : Nat) (I : (Nat → Nat → Int32)) (b0 : Nat) (b1 : Nat) (s2 : Option Nat) (y3 : Int32) (y4 : Int32) (y5 : Int32), (Z[b0]? = some (4, 1)) → (Z[b1]? = some (10, 5)) → (∀ b, s2 = some b → Z[b]? = some (7, 7)) → f4_playingsToTear_c7 n O m I b0 b1 s2 y3 y4 y5 = some res → Ok g (d + 7, RX4, cX4_playingsToTear, 6, false, 0, 0, Z.length, pSl Z) Qx 7 [(0, .ref b0), (1, .ref b1), (2, va_rf s2), (3, .int y3), (4, .int y4), (5, .int y5)] [] (Z, I, L, O) := by
  intro m
  induction m with
  | zero => intro I b0 b1 s2 y3 y4 y5 hZ_b0 hZ_b1 hS_s2 h; rw [f4_playingsToTear_c7] at h; cases h
  | succ m ih =>
    intro I b0 b1 s2 y3 y4 y5 hZ_b0 hZ_b1 hS_s2 h
    rw [f4_playingsToTear_c7] at h
    refine ok_iload dX4_playingsToTear_7 5 rfl ?_
    refine ok_aload_n dX4_playingsToTear_9 1 rfl ?_
    refine ok_iload_n dX4_playingsToTear_10 3 rfl ?_
    obtain ⟨r1, hr2, h⟩ := bd h
    refine ok_callV (d := ((d + 3) + 3)) (mt := m10_size) (mc := 0) (ms := 0) (As := [.int y3]) (r := [.int y5]) dX4_playingsToTear_11 mo10_size mv10_size lkRX4_15 rfl hZ_b1 (q := (RX10, TX10, 5)) rfl rfl rfl (Nat.le_of_ble_eq_true rfl) (by show _ + 1 ≤ d + _; omega) (Nat.le_refl _) (Nat.le_refl _) (pRt_mono ?_)
    refine k10_size (d + 3) hW hZ_b1 hr2 ?_
    intro _
    show Ok g _ Qx 14 [(0, .ref b0), (1, .ref b1), (2, va_rf s2), (3, .int y3), (4, .int y4), (5, .int y5)] [.int r1, .int y5] (Z, I, L, O)
    refine ok_icmp_ge (t := 49) dX4_playingsToTear_14 (by decide) (fun hc3 => ?_) (fun hc3 => ?_)
    · have h := (if_pos hc3).symm.trans h
      refine ok_iload dX4_playingsToTear_49 4 rfl ?_
      cases h
      exact ok_iret dX4_playingsToTear_51 hQ
    · have h := (if_neg hc3).symm.trans h
      refine ok_aload_n dX4_playingsToTear_17 1 rfl ?_
      refine ok_iload_n dX4_playingsToTear_18 3 rfl ?_
      refine ok_iload dX4_playingsToTear_19 5 rfl ?_
      obtain ⟨r4, hr5, h⟩ := bd h
      refine ok_callV (d := ((d + 3) + 3)) (mt := m10_keyAt) (mc := 0) (ms := 0) (As := [.int y3, .int y5]) (r := []) dX4_playingsToTear_21 mo10_keyAt mv10_keyAt lkRX4_40 rfl hZ_b1 (q := (RX10, TX10, 5)) rfl rfl rfl (Nat.le_of_ble_eq_true rfl) (by show _ + 1 ≤ d + _; omega) (Nat.le_refl _) (Nat.le_refl _) (pRt_mono ?_)
      refine k10_keyAt (d + 3) hW hZ_b1 hr5 ?_
      intro _
      show Ok g _ Qx 24 [(0, .ref b0), (1, .ref b1), (2, va_rf s2), (3, .int y3), (4, .int y4), (5, .int y5)] [.int r4] (Z, I, L, O)
      refine ok_if_eq (t := 43) dX4_playingsToTear_24 (by decide) (fun hc6 => ?_) (fun hc6 => ?_)
      · have h := (if_pos hc6).symm.trans h
        refine ok_iinc (u := (y5 + 1)) (l' := [(5, .int (y5 + 1)), (0, .ref b0), (1, .ref b1), (2, va_rf s2), (3, .int y3), (4, .int y4)]) dX4_playingsToTear_43 5 rfl rfl (Nat.le_of_ble_eq_true rfl) rfl ?_
        refine ok_goto (t := 7) dX4_playingsToTear_46 (by decide) ?_
        refine ok_sub [1, 2, 3, 4, 5, 0] rfl ?_
        exact ih I b0 b1 s2 y3 y4 (y5 + 1) hZ_b0 hZ_b1 hS_s2 h
      · have h := (if_neg hc6).symm.trans h
        refine ok_iload dX4_playingsToTear_27 4 rfl ?_
        refine ok_aload_n dX4_playingsToTear_29 0 rfl ?_
        refine ok_aload_n dX4_playingsToTear_30 1 rfl ?_
        refine ok_aloadQ_n dX4_playingsToTear_31 2 rfl ?_
        refine ok_iload_n dX4_playingsToTear_32 3 rfl ?_
        refine ok_iload dX4_playingsToTear_33 5 rfl ?_
        obtain ⟨r7, hr8, h⟩ := bd h
        refine ok_callV (d := ((d + 0) + 6)) (mt := m4_playingsToTearPlace) (mc := 0) (ms := 0) (As := [.ref b1, va_rf s2, .int y3, .int y5]) (r := [.int y4]) dX4_playingsToTear_35 mo4_playingsToTearPlace mv4_playingsToTearPlace lkRX4_98 rfl hZ_b0 (q := (RX4, TX4, 1)) rfl rfl rfl (Nat.le_of_ble_eq_true rfl) (by show _ + 1 ≤ d + _; omega) (Nat.le_refl _) (Nat.le_refl _) (pRt_mono ?_)
        refine k4_playingsToTearPlace (d + 0) hW hZ_b0 hZ_b1 hS_s2 hr8 ?_
        intro _
        show Ok g _ Qx 38 [(0, .ref b0), (1, .ref b1), (2, va_rf s2), (3, .int y3), (4, .int y4), (5, .int y5)] [.int r7.1, .int y4] (Z, r7.2, L, O)
        obtain ⟨r9, hr10, h⟩ := bd h
        refine ok_callS (d := ((d + 4) + 2)) (mt := mJ9_min_7cf53) (mc := 0) (ms := 0) (As := [.int y4, .int r7.1]) (r := []) dX4_playingsToTear_38 moJ9_min_7cf53 mvJ9_min_7cf53 lkRX4_101 rfl rfl (Nat.le_of_ble_eq_true rfl) (by show _ + 1 ≤ d + _; omega) (Nat.le_refl _) (Nat.le_refl _) (pRt_mono ?_)
        refine kJ9_min_7cf53 (d + 4) hW  hr10 ?_
        intro _
        show Ok g _ Qx 41 [(0, .ref b0), (1, .ref b1), (2, va_rf s2), (3, .int y3), (4, .int y4), (5, .int y5)] [.int r9] (Z, r7.2, L, O)
        refine ok_istore (l' := [(4, .int r9), (0, .ref b0), (1, .ref b1), (2, va_rf s2), (3, .int y3), (5, .int y5)]) dX4_playingsToTear_41 (Nat.le_of_ble_eq_true rfl) rfl ?_
        refine ok_iinc (u := (y5 + 1)) (l' := [(5, .int (y5 + 1)), (4, .int r9), (0, .ref b0), (1, .ref b1), (2, va_rf s2), (3, .int y3)]) dX4_playingsToTear_43 5 rfl rfl (Nat.le_of_ble_eq_true rfl) rfl ?_
        refine ok_goto (t := 7) dX4_playingsToTear_46 (by decide) ?_
        refine ok_sub [2, 3, 4, 5, 1, 0] rfl ?_
        exact ih r7.2 b0 b1 s2 y3 r9 (y5 + 1) hZ_b0 hZ_b1 hS_s2 h
def f4_playingsToTear (n : Nat) (I : (Nat → Nat → Int32)) (O : (Nat → Nat → Option Nat)) (a0 : Nat) (a1 : Nat) (s2 : Option Nat) (x3 : Int32) : Option (Int32 × (Nat → Nat → Int32)) := f4_playingsToTear_c7 n O n I a0 a1 s2 x3 (99 : Int32) (0 : Int32)
set_option maxHeartbeats 4000000 in
set_option maxRecDepth 20000 in
theorem o4_playingsToTear {g : pG} {Qx : Option Value → pW → Prop} {Z : pZ} {I : (Nat → Nat → Int32)} {L : (Nat → Nat → Int64)} {O : (Nat → Nat → Option Nat)} {n : Nat} {a0 : Nat} {a1 : Nat} {s2 : Option Nat} {x3 : Int32} {res : Int32 × (Nat → Nat → Int32)} (d : Nat) (hW : WT Z O) (hZ0 : Z[a0]? = some (4, 1)) (hZ1 : Z[a1]? = some (10, 5)) (hS2 : ∀ b, s2 = some b → Z[b]? = some (7, 7)) (h : f4_playingsToTear n I O a0 a1 s2 x3 = some res) (hQ : Qx (some (.int res.1)) (Z, res.2, L, O)) : Ok g (d + 7, RX4, cX4_playingsToTear, 6, false, 0, 0, Z.length, pSl Z) Qx 0 [(0, .ref a0), (1, .ref a1), (2, va_rf s2), (3, .int x3)] [] (Z, I, L, O) := by
  unfold f4_playingsToTear at h
  refine ok_bipush (v := 99) dX4_playingsToTear_0 (by decide) ?_
  refine ok_istore (l' := [(4, .int 99), (0, .ref a0), (1, .ref a1), (2, va_rf s2), (3, .int x3)]) dX4_playingsToTear_2 (Nat.le_of_ble_eq_true rfl) rfl ?_
  refine ok_iconst (v := 0) dX4_playingsToTear_4 (by decide) ?_
  refine ok_istore (l' := [(5, .int 0), (4, .int 99), (0, .ref a0), (1, .ref a1), (2, va_rf s2), (3, .int x3)]) dX4_playingsToTear_5 (Nat.le_of_ble_eq_true rfl) rfl ?_
  refine ok_sub [2, 3, 4, 5, 1, 0] rfl ?_
  exact o4_playingsToTear_c7 d hW hQ  n I a0 a1 s2 x3 (99 : Int32) (0 : Int32) hZ0 hZ1 hS2 h
theorem k4_playingsToTear {g : pG} {Q : Option Value → pW → Prop} {Z : pZ} {I : (Nat → Nat → Int32)} {L : (Nat → Nat → Int64)} {O : (Nat → Nat → Option Nat)} {n : Nat} {a0 : Nat} {a1 : Nat} {s2 : Option Nat} {x3 : Int32} {res : Int32 × (Nat → Nat → Int32)} (d : Nat) (hW : WT Z O) (hZ0 : Z[a0]? = some (4, 1)) (hZ1 : Z[a1]? = some (10, 5)) (hS2 : ∀ b, s2 = some b → Z[b]? = some (7, 7)) (h : f4_playingsToTear n I O a0 a1 s2 x3 = some res) (hQ : Q (some (.int res.1)) (Z, res.2, L, O)) : CT g (d + 7) m4_playingsToTear 0 0 [.ref a0, .ref a1, va_rf s2, .int x3] (Z, I, L, O) Q :=
  ct_of_ok (mt := m4_playingsToTear) (ini := false) mo4_playingsToTear.2.2.2.2 (fun h => by cases h) (by cases s2 <;> exact (Nat.le_of_ble_eq_true rfl)) (by
    rw [show lv_args 0 [.ref a0, .ref a1, va_rf s2, .int x3] = [(0, .ref a0), (1, .ref a1), (2, va_rf s2), (3, .int x3)] by cases s2 <;> rfl]
    exact o4_playingsToTear d hW hZ0 hZ1 hS2 h ⟨trivial, hQ, rfl, rfl⟩)
