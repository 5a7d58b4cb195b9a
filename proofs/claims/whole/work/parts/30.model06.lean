theorem flRX12_13 : FL RX12 13 12 1 := ⟨(RX12, TX12, 34), rfl, by decide, tb_i 1306 (by decide +kernel)⟩
theorem flRX12_59 : FL RX12 59 12 29 := ⟨(RX12, TX12, 34), rfl, by decide, tb_i 1334 (by decide +kernel)⟩
theorem flRX12_65 : FL RX12 65 12 32 := ⟨(RX12, TX12, 34), rfl, by decide, tb_i 1337 (by decide +kernel)⟩
theorem flRX12_68 : FL RX12 68 12 33 := ⟨(RX12, TX12, 34), rfl, by decide, tb_i 1338 (by decide +kernel)⟩
theorem lkRX12_71 : Cond.methodLink RX12 71 yX12_copy ∈ lw_tbl := tb_i 1302 (by decide +kernel)
theorem lkRX12_462 : Cond.methodLink RX12 462 yX12_layOn ∈ lw_tbl := tb_i 1938 (by decide +kernel)
theorem lkRX12_465 : Cond.methodLink RX12 465 yX12_isNextOrder ∈ lw_tbl := tb_i 1946 (by decide +kernel)
theorem lkRX12_468 : Cond.methodLink RX12 468 yX12_timesOf ∈ lw_tbl := tb_i 1962 (by decide +kernel)
theorem lkRX12_471 : Cond.methodLink RX12 471 yX12_timesIn ∈ lw_tbl := tb_i 1958 (by decide +kernel)
theorem lkRX12_474 : Cond.methodLink RX12 474 yX12_isTaught ∈ lw_tbl := tb_i 1965 (by decide +kernel)
theorem lkRX12_477 : Cond.methodLink RX12 477 yX12_divisor ∈ lw_tbl := tb_i 1973 (by decide +kernel)
theorem dX12_stair_0 : decode cX12_stair 0 = .ok (.iload_n 1, 1) := by decide +kernel
theorem dX12_stair_1 : decode cX12_stair 1 = .ok (.iconst 1, 1) := by decide +kernel
theorem dX12_stair_2 : decode cX12_stair 2 = .ok (.iconst 1, 1) := by decide +kernel
theorem dX12_stair_3 : decode cX12_stair 3 = .ok (.aload_n 0, 1) := by decide +kernel
theorem dX12_stair_4 : decode cX12_stair 4 = .ok (.getfield 7, 3) := by decide +kernel
theorem dX12_stair_7 : decode cX12_stair 7 = .ok (.iconst 0, 1) := by decide +kernel
theorem dX12_stair_8 : decode cX12_stair 8 = .ok (.iaload, 1) := by decide +kernel
theorem dX12_stair_9 : decode cX12_stair 9 = .ok (.ishl, 1) := by decide +kernel
theorem dX12_stair_10 : decode cX12_stair 10 = .ok (.iconst 1, 1) := by decide +kernel
theorem dX12_stair_11 : decode cX12_stair 11 = .ok (.isub, 1) := by decide +kernel
theorem dX12_stair_12 : decode cX12_stair 12 = .ok (.invokestatic 75, 3) := by decide +kernel
theorem dX12_stair_15 : decode cX12_stair 15 = .ok (.ifCond .eq 17, 3) := by decide +kernel
theorem dX12_stair_18 : decode cX12_stair 18 = .ok (.iload_n 2, 1) := by decide +kernel
theorem dX12_stair_19 : decode cX12_stair 19 = .ok (.iconst (-1), 1) := by decide +kernel
theorem dX12_stair_20 : decode cX12_stair 20 = .ok (.iload_n 1, 1) := by decide +kernel
theorem dX12_stair_21 : decode cX12_stair 21 = .ok (.invokestatic 413, 3) := by decide +kernel
theorem dX12_stair_24 : decode cX12_stair 24 = .ok (.iconst 1, 1) := by decide +kernel
theorem dX12_stair_25 : decode cX12_stair 25 = .ok (.isub, 1) := by decide +kernel
theorem dX12_stair_26 : decode cX12_stair 26 = .ok (.invokestatic 75, 3) := by decide +kernel
theorem dX12_stair_29 : decode cX12_stair 29 = .ok (.ifCond .ne 6, 3) := by decide +kernel
theorem dX12_stair_32 : decode cX12_stair 32 = .ok (.bipush (-2), 2) := by decide +kernel
theorem dX12_stair_34 : decode cX12_stair 34 = .ok (.ireturn, 1) := by decide +kernel
theorem dX12_stair_35 : decode cX12_stair 35 = .ok (.iconst 0, 1) := by decide +kernel
theorem dX12_stair_36 : decode cX12_stair 36 = .ok (.istore_n 3, 1) := by decide +kernel
theorem dX12_stair_37 : decode cX12_stair 37 = .ok (.iconst 0, 1) := by decide +kernel
theorem dX12_stair_38 : decode cX12_stair 38 = .ok (.istore 4, 2) := by decide +kernel
theorem dX12_stair_40 : decode cX12_stair 40 = .ok (.iload 4, 2) := by decide +kernel
theorem dX12_stair_42 : decode cX12_stair 42 = .ok (.aload_n 0, 1) := by decide +kernel
theorem dX12_stair_43 : decode cX12_stair 43 = .ok (.getfield 7, 3) := by decide +kernel
theorem dX12_stair_46 : decode cX12_stair 46 = .ok (.iconst 0, 1) := by decide +kernel
theorem dX12_stair_47 : decode cX12_stair 47 = .ok (.iaload, 1) := by decide +kernel
theorem dX12_stair_48 : decode cX12_stair 48 = .ok (.if_icmp .ge 44, 3) := by decide +kernel
theorem dX12_stair_51 : decode cX12_stair 51 = .ok (.iload_n 1, 1) := by decide +kernel
theorem dX12_stair_52 : decode cX12_stair 52 = .ok (.iload 4, 2) := by decide +kernel
theorem dX12_stair_54 : decode cX12_stair 54 = .ok (.invokestatic 252, 3) := by decide +kernel
theorem dX12_stair_57 : decode cX12_stair 57 = .ok (.ifCond .ne 6, 3) := by decide +kernel
theorem dX12_stair_60 : decode cX12_stair 60 = .ok (.goto 26, 3) := by decide +kernel
theorem dX12_stair_63 : decode cX12_stair 63 = .ok (.aload_n 0, 1) := by decide +kernel
theorem dX12_stair_64 : decode cX12_stair 64 = .ok (.iload 4, 2) := by decide +kernel
theorem dX12_stair_66 : decode cX12_stair 66 = .ok (.invokevirtual 401, 3) := by decide +kernel
theorem dX12_stair_69 : decode cX12_stair 69 = .ok (.ifCond .eq 6, 3) := by decide +kernel
theorem dX12_stair_72 : decode cX12_stair 72 = .ok (.bipush (-2), 2) := by decide +kernel
theorem dX12_stair_74 : decode cX12_stair 74 = .ok (.ireturn, 1) := by decide +kernel
theorem dX12_stair_75 : decode cX12_stair 75 = .ok (.aload_n 0, 1) := by decide +kernel
theorem dX12_stair_76 : decode cX12_stair 76 = .ok (.getfield 56, 3) := by decide +kernel
theorem dX12_stair_79 : decode cX12_stair 79 = .ok (.iload_n 3, 1) := by decide +kernel
theorem dX12_stair_80 : decode cX12_stair 80 = .ok (.iload 4, 2) := by decide +kernel
theorem dX12_stair_82 : decode cX12_stair 82 = .ok (.iastore, 1) := by decide +kernel
theorem dX12_stair_83 : decode cX12_stair 83 = .ok (.iinc 3 1, 3) := by decide +kernel
theorem dX12_stair_86 : decode cX12_stair 86 = .ok (.iinc 4 1, 3) := by decide +kernel
theorem dX12_stair_89 : decode cX12_stair 89 = .ok (.goto (-49), 3) := by decide +kernel
theorem dX12_stair_92 : decode cX12_stair 92 = .ok (.ldc_w 452, 3) := by decide +kernel
theorem dX12_stair_95 : decode cX12_stair 95 = .ok (.istore 4, 2) := by decide +kernel
theorem dX12_stair_97 : decode cX12_stair 97 = .ok (.iconst 1, 1) := by decide +kernel
theorem dX12_stair_98 : decode cX12_stair 98 = .ok (.istore 5, 2) := by decide +kernel
theorem dX12_stair_100 : decode cX12_stair 100 = .ok (.iload 5, 2) := by decide +kernel
theorem dX12_stair_102 : decode cX12_stair 102 = .ok (.ifCond .eq 88, 3) := by decide +kernel
theorem dX12_stair_105 : decode cX12_stair 105 = .ok (.aload_n 0, 1) := by decide +kernel
theorem dX12_stair_106 : decode cX12_stair 106 = .ok (.iconst 0, 1) := by decide +kernel
theorem dX12_stair_107 : decode cX12_stair 107 = .ok (.putfield 456, 3) := by decide +kernel
theorem dX12_stair_110 : decode cX12_stair 110 = .ok (.iconst 0, 1) := by decide +kernel
theorem dX12_stair_111 : decode cX12_stair 111 = .ok (.istore 6, 2) := by decide +kernel
theorem dX12_stair_113 : decode cX12_stair 113 = .ok (.iload 6, 2) := by decide +kernel
theorem dX12_stair_115 : decode cX12_stair 115 = .ok (.iload_n 3, 1) := by decide +kernel
theorem dX12_stair_116 : decode cX12_stair 116 = .ok (.if_icmp .ge 20, 3) := by decide +kernel
theorem dX12_stair_119 : decode cX12_stair 119 = .ok (.aload_n 0, 1) := by decide +kernel
theorem dX12_stair_120 : decode cX12_stair 120 = .ok (.aload_n 0, 1) := by decide +kernel
theorem dX12_stair_121 : decode cX12_stair 121 = .ok (.getfield 56, 3) := by decide +kernel
theorem dX12_stair_124 : decode cX12_stair 124 = .ok (.iload 6, 2) := by decide +kernel
theorem dX12_stair_126 : decode cX12_stair 126 = .ok (.iaload, 1) := by decide +kernel
theorem dX12_stair_127 : decode cX12_stair 127 = .ok (.invokevirtual 462, 3) := by decide +kernel
theorem dX12_stair_130 : decode cX12_stair 130 = .ok (.iinc 6 1, 3) := by decide +kernel
theorem dX12_stair_133 : decode cX12_stair 133 = .ok (.goto (-20), 3) := by decide +kernel
theorem dX12_stair_136 : decode cX12_stair 136 = .ok (.aload_n 0, 1) := by decide +kernel
theorem dX12_stair_137 : decode cX12_stair 137 = .ok (.getfield 456, 3) := by decide +kernel
theorem dX12_stair_140 : decode cX12_stair 140 = .ok (.iload 4, 2) := by decide +kernel
theorem dX12_stair_142 : decode cX12_stair 142 = .ok (.if_icmp .ge 38, 3) := by decide +kernel
theorem dX12_stair_145 : decode cX12_stair 145 = .ok (.aload_n 0, 1) := by decide +kernel
theorem dX12_stair_146 : decode cX12_stair 146 = .ok (.getfield 456, 3) := by decide +kernel
theorem dX12_stair_149 : decode cX12_stair 149 = .ok (.istore 4, 2) := by decide +kernel
theorem dX12_stair_151 : decode cX12_stair 151 = .ok (.iconst 0, 1) := by decide +kernel
theorem dX12_stair_152 : decode cX12_stair 152 = .ok (.istore 6, 2) := by decide +kernel
theorem dX12_stair_154 : decode cX12_stair 154 = .ok (.iload 6, 2) := by decide +kernel
theorem dX12_stair_156 : decode cX12_stair 156 = .ok (.iload_n 3, 1) := by decide +kernel
theorem dX12_stair_157 : decode cX12_stair 157 = .ok (.if_icmp .ge 23, 3) := by decide +kernel
theorem dX12_stair_160 : decode cX12_stair 160 = .ok (.aload_n 0, 1) := by decide +kernel
theorem dX12_stair_161 : decode cX12_stair 161 = .ok (.getfield 59, 3) := by decide +kernel
theorem dX12_stair_164 : decode cX12_stair 164 = .ok (.iload 6, 2) := by decide +kernel
theorem dX12_stair_166 : decode cX12_stair 166 = .ok (.aload_n 0, 1) := by decide +kernel
theorem dX12_stair_167 : decode cX12_stair 167 = .ok (.getfield 56, 3) := by decide +kernel
theorem dX12_stair_170 : decode cX12_stair 170 = .ok (.iload 6, 2) := by decide +kernel
theorem dX12_stair_172 : decode cX12_stair 172 = .ok (.iaload, 1) := by decide +kernel
theorem dX12_stair_173 : decode cX12_stair 173 = .ok (.iastore, 1) := by decide +kernel
theorem dX12_stair_174 : decode cX12_stair 174 = .ok (.iinc 6 1, 3) := by decide +kernel
theorem dX12_stair_177 : decode cX12_stair 177 = .ok (.goto (-23), 3) := by decide +kernel
theorem dX12_stair_180 : decode cX12_stair 180 = .ok (.aload_n 0, 1) := by decide +kernel
theorem dX12_stair_181 : decode cX12_stair 181 = .ok (.iload_n 3, 1) := by decide +kernel
theorem dX12_stair_182 : decode cX12_stair 182 = .ok (.invokevirtual 465, 3) := by decide +kernel
theorem dX12_stair_185 : decode cX12_stair 185 = .ok (.istore 5, 2) := by decide +kernel
theorem dX12_stair_187 : decode cX12_stair 187 = .ok (.goto (-87), 3) := by decide +kernel
theorem dX12_stair_190 : decode cX12_stair 190 = .ok (.iload_n 2, 1) := by decide +kernel
theorem dX12_stair_191 : decode cX12_stair 191 = .ok (.iconst (-1), 1) := by decide +kernel
theorem dX12_stair_192 : decode cX12_stair 192 = .ok (.if_icmp .ne 8, 3) := by decide +kernel
theorem dX12_stair_195 : decode cX12_stair 195 = .ok (.iload 4, 2) := by decide +kernel
theorem dX12_stair_197 : decode cX12_stair 197 = .ok (.goto 9, 3) := by decide +kernel
theorem dX12_stair_200 : decode cX12_stair 200 = .ok (.aload_n 0, 1) := by decide +kernel
theorem dX12_stair_201 : decode cX12_stair 201 = .ok (.getfield 59, 3) := by decide +kernel
theorem dX12_stair_204 : decode cX12_stair 204 = .ok (.iload_n 2, 1) := by decide +kernel
theorem dX12_stair_205 : decode cX12_stair 205 = .ok (.iaload, 1) := by decide +kernel
theorem dX12_stair_206 : decode cX12_stair 206 = .ok (.ireturn, 1) := by decide +kernel
def m12_stair : pMT := (yX12_stair, cX12_stair, 7, some .int)
theorem mo12_stair : mOK m12_stair 2 := ⟨tb_i 1937 (by decide +kernel), wi_RX12, ⟨wn_RX12.1, wn_RX12.2, by decide +kernel⟩, by decide, plainFor_of_name wp_RX12⟩
theorem mv12_stair : mV m12_stair := ⟨tb_i 1935 (by decide +kernel), tb_i 1936 (by decide +kernel)⟩
def f12_stair_c154 (n : Nat) (O : (Nat → Nat → Option Nat)) (k100 : ((Nat → Nat → Int32) → Nat → Int32 → Int32 → Int32 → Int32 → Option (Int32 × (Nat → Nat → Int32)))) : Nat → (Nat → Nat → Int32) → Nat → Int32 → Int32 → Int32 → Int32 → Option (Int32 × (Nat → Nat → Int32))
  | 0, _, _, _, _, _, _ => none
  | m + 1, I, b0, y2, y3, y4, y6 => (if y3 ≤ y6 then (f12_isNextOrder n I O b0 y3).bind fun r2 => k100 r2.2 b0 y2 y3 y4 r2.1 else (if y6 < 0 ∨ 5 ≤ y6.toNatClampNeg then none else (if y6 < 0 ∨ 5 ≤ y6.toNatClampNeg then none else bl (sI I (rO O b0 29) y6.toNatClampNeg (I (rO O b0 28) y6.toNatClampNeg)) fun I8 => f12_stair_c154 n O k100 m I8 b0 y2 y3 y4 (y6 + 1))))
set_option maxHeartbeats 4000000 in
set_option maxRecDepth 20000 in
theorem o12_stair_c154 {g : pG} {Qx : Option Value → pW → Prop} {Z : pZ} {L : (Nat → Nat → Int64)} {O : (Nat → Nat → Option Nat)} {n : Nat} {k100 : ((Nat → Nat → Int32) → Nat → Int32 → Int32 → Int32 → Int32 → Option (Int32 × (Nat → Nat → Int32)))} {res : Int32 × (Nat → Nat → Int32)} (d : Nat) (hW : WT Z O) (hQ : Qx (some (.int res.1)) (Z, res.2, L, O)) (hk100 : ∀ (I : (Nat → Nat → Int32)) (b0 : Nat) (y2 : Int32) (y3 : Int32) (y4 : Int32) (y5 : Int32), (Z[b0]? = some (12, 34)) → k100 I b0 y2 y3 y4 y5 = some res → Ok g (d + 5, RX12, cX12_stair, 7, false, 0, 0, Z.length, pSl Z) Qx 100 [(0, .ref b0), (2, .int y2), (3, .int y3), (4, .int y4), (5, .int y5)] [] (Z, I, L, O)) : ∀ (m : Nat) (I : (Nat → Nat → Int32)) (b0 : Nat) (y2 : Int32) (y3 : Int32) (y4 : Int32) (y6 : Int32), (Z[b0]? = some (12, 34)) → f12_stair_c154 n O k100 m I b0 y2 y3 y4 y6 = some res → Ok g (d + 5, RX12, cX12_stair, 7, false, 0, 0, Z.length, pSl Z) Qx 154 [(0, .ref b0), (2, .int y2), (3, .int y3), (4, .int y4), (6, .int y6)] [] (Z, I, L, O) := by
  intro m
  induction m with
  | zero => intro I b0 y2 y3 y4 y6 hZ_b0 h; rw [f12_stair_c154] at h; cases h
  | succ m ih =>
    intro I b0 y2 y3 y4 y6 hZ_b0 h
    rw [f12_stair_c154] at h
    refine ok_iload dX12_stair_154 4 rfl ?_
    refine ok_iload_n dX12_stair_156 2 rfl ?_
    refine ok_icmp_ge (t := 180) dX12_stair_157 (by decide) (fun hc1 => ?_) (fun hc1 => ?_)
    · have h := (if_pos hc1).symm.trans h
      refine ok_aload_n dX12_stair_180 0 rfl ?_
      refine ok_iload_n dX12_stair_181 2 rfl ?_
      obtain ⟨r2, hr3, h⟩ := bd h
      refine ok_callV (d := ((d + 1) + 3)) (mt := m12_isNextOrder) (mc := 0) (ms := 0) (As := [.int y3]) (r := []) dX12_stair_182 mo12_isNextOrder mv12_isNextOrder lkRX12_465 rfl hZ_b0 (q := (RX12, TX12, 34)) rfl rfl rfl (Nat.le_of_ble_eq_true rfl) (by show _ + 1 ≤ d + _; omega) (Nat.le_refl _) (Nat.le_refl _) (pRt_mono ?_)
      refine k12_isNextOrder (d + 1) hW hZ_b0 hr3 ?_
      intro hbr2
      show Ok g _ Qx 185 [(0, .ref b0), (2, .int y2), (3, .int y3), (4, .int y4), (6, .int y6)] [.int r2.1] (Z, r2.2, L, O)
      refine ok_istore (l' := [(5, .int r2.1), (0, .ref b0), (2, .int y2), (3, .int y3), (4, .int y4), (6, .int y6)]) dX12_stair_185 (Nat.le_of_ble_eq_true rfl) rfl ?_
      refine ok_goto (t := 100) dX12_stair_187 (by decide) ?_
      refine ok_sub [1, 2, 3, 4, 0] rfl ?_
      exact hk100 r2.2 b0 y2 y3 y4 r2.1 hZ_b0 h
    · have h := (if_neg hc1).symm.trans h
      refine ok_aload_n dX12_stair_160 0 rfl ?_
      have hT4 : Z[(rO O b0 29)]? = some (13, 5) := (wt_f (ci := 12) (k := 29) hW hZ_b0 rfl).2
      refine ok_getR (ci := 12) (k := 29) dX12_stair_161 flRX12_59 rfl hW hZ_b0 (by decide) ?_
      refine ok_iload dX12_stair_164 4 rfl ?_
      refine ok_aload_n dX12_stair_166 0 rfl ?_
      have hT5 : Z[(rO O b0 28)]? = some (13, 5) := (wt_f (ci := 12) (k := 28) hW hZ_b0 rfl).2
      refine ok_getR (ci := 12) (k := 28) dX12_stair_167 flRX12_56 rfl hW hZ_b0 (by decide) ?_
      refine ok_iload dX12_stair_170 4 rfl ?_
      obtain ⟨hg6, h⟩ := gd h
      refine ok_iald2 (N := y6.toNatClampNeg) dX12_stair_172 hT5 hg6 rfl ?_
      obtain ⟨hg7, h⟩ := gd h
      obtain ⟨I8, eI8, h⟩ := blE h
      refine ok_iast3 dX12_stair_173 hT4 hg7 rfl eI8 ?_
      refine ok_iinc (u := (y6 + 1)) (l' := [(6, .int (y6 + 1)), (0, .ref b0), (2, .int y2), (3, .int y3), (4, .int y4)]) dX12_stair_174 4 rfl rfl (Nat.le_of_ble_eq_true rfl) rfl ?_
      refine ok_goto (t := 154) dX12_stair_177 (by decide) ?_
      refine ok_sub [1, 2, 3, 4, 0] rfl ?_
      exact ih I8 b0 y2 y3 y4 (y6 + 1) hZ_b0 h
def f12_stair_c113 (n : Nat) (O : (Nat → Nat → Option Nat)) (k100 : ((Nat → Nat → Int32) → Nat → Int32 → Int32 → Int32 → Int32 → Option (Int32 × (Nat → Nat → Int32)))) : Nat → (Nat → Nat → Int32) → Nat → Int32 → Int32 → Int32 → Int32 → Option (Int32 × (Nat → Nat → Int32))
  | 0, _, _, _, _, _, _ => none
  | m + 1, I, b0, y2, y3, y4, y6 => (if y3 ≤ y6 then (if y4 ≤ (I b0 31) then (f12_isNextOrder n I O b0 y3).bind fun r3 => k100 r3.2 b0 y2 y3 y4 r3.1 else f12_stair_c154 n O k100 n I b0 y2 y3 (I b0 31) (0 : Int32)) else (if y6 < 0 ∨ 5 ≤ y6.toNatClampNeg then none else (f12_layOn n I O b0 (I (rO O b0 28) y6.toNatClampNeg)).bind fun r7 => f12_stair_c113 n O k100 m r7 b0 y2 y3 y4 (y6 + 1)))
set_option maxHeartbeats 4000000 in
set_option maxRecDepth 20000 in
theorem o12_stair_c113 {g : pG} {Qx : Option Value → pW → Prop} {Z : pZ} {L : (Nat → Nat → Int64)} {O : (Nat → Nat → Option Nat)} {n : Nat} {k100 : ((Nat → Nat → Int32) → Nat → Int32 → Int32 → Int32 → Int32 → Option (Int32 × (Nat → Nat → Int32)))} {res : Int32 × (Nat → Nat → Int32)} (d : Nat) (hW : WT Z O) (hQ : Qx (some (.int res.1)) (Z, res.2, L, O)) (hk100 : ∀ (I : (Nat → Nat → Int32)) (b0 : Nat) (y2 : Int32) (y3 : Int32) (y4 : Int32) (y5 : Int32), (Z[b0]? = some (12, 34)) → k100 I b0 y2 y3 y4 y5 = some res → Ok g (d + 5, RX12, cX12_stair, 7, false, 0, 0, Z.length, pSl Z) Qx 100 [(0, .ref b0), (2, .int y2), (3, .int y3), (4, .int y4), (5, .int y5)] [] (Z, I, L, O)) : ∀ (m : Nat) (I : (Nat → Nat → Int32)) (b0 : Nat) (y2 : Int32) (y3 : Int32) (y4 : Int32) (y6 : Int32), (Z[b0]? = some (12, 34)) → f12_stair_c113 n O k100 m I b0 y2 y3 y4 y6 = some res → Ok g (d + 5, RX12, cX12_stair, 7, false, 0, 0, Z.length, pSl Z) Qx 113 [(0, .ref b0), (2, .int y2), (3, .int y3), (4, .int y4), (6, .int y6)] [] (Z, I, L, O) := by
  intro m
  induction m with
  | zero => intro I b0 y2 y3 y4 y6 hZ_b0 h; rw [f12_stair_c113] at h; cases h
  | succ m ih =>
    intro I b0 y2 y3 y4 y6 hZ_b0 h
    rw [f12_stair_c113] at h
    refine ok_iload dX12_stair_113 4 rfl ?_
    refine ok_iload_n dX12_stair_115 2 rfl ?_
    refine ok_icmp_ge (t := 136) dX12_stair_116 (by decide) (fun hc1 => ?_) (fun hc1 => ?_)
    · have h := (if_pos hc1).symm.trans h
      refine ok_aload_n dX12_stair_136 0 rfl ?_
      refine ok_getI (ci := 12) (k := 31) dX12_stair_137 flRX12_456 rfl hZ_b0 (by decide) ?_
      refine ok_iload dX12_stair_140 3 rfl ?_
      refine ok_icmp_ge (t := 180) dX12_stair_142 (by decide) (fun hc2 => ?_) (fun hc2 => ?_)
      · have h := (if_pos hc2).symm.trans h
        refine ok_aload_n dX12_stair_180 0 rfl ?_
        refine ok_iload_n dX12_stair_181 2 rfl ?_
        obtain ⟨r3, hr4, h⟩ := bd h
        refine ok_callV (d := ((d + 1) + 3)) (mt := m12_isNextOrder) (mc := 0) (ms := 0) (As := [.int y3]) (r := []) dX12_stair_182 mo12_isNextOrder mv12_isNextOrder lkRX12_465 rfl hZ_b0 (q := (RX12, TX12, 34)) rfl rfl rfl (Nat.le_of_ble_eq_true rfl) (by show _ + 1 ≤ d + _; omega) (Nat.le_refl _) (Nat.le_refl _) (pRt_mono ?_)
        refine k12_isNextOrder (d + 1) hW hZ_b0 hr4 ?_
        intro hbr3
        show Ok g _ Qx 185 [(0, .ref b0), (2, .int y2), (3, .int y3), (4, .int y4), (6, .int y6)] [.int r3.1] (Z, r3.2, L, O)
        refine ok_istore (l' := [(5, .int r3.1), (0, .ref b0), (2, .int y2), (3, .int y3), (4, .int y4), (6, .int y6)]) dX12_stair_185 (Nat.le_of_ble_eq_true rfl) rfl ?_
        refine ok_goto (t := 100) dX12_stair_187 (by decide) ?_
        refine ok_sub [1, 2, 3, 4, 0] rfl ?_
        exact hk100 r3.2 b0 y2 y3 y4 r3.1 hZ_b0 h
      · have h := (if_neg hc2).symm.trans h
        refine ok_aload_n dX12_stair_145 0 rfl ?_
        refine ok_getI (ci := 12) (k := 31) dX12_stair_146 flRX12_456 rfl hZ_b0 (by decide) ?_
        refine ok_istore (l' := [(4, .int (I b0 31)), (0, .ref b0), (2, .int y2), (3, .int y3), (6, .int y6)]) dX12_stair_149 (Nat.le_of_ble_eq_true rfl) rfl ?_
        refine ok_iconst (v := 0) dX12_stair_151 (by decide) ?_
        refine ok_istore (l' := [(6, .int 0), (4, .int (I b0 31)), (0, .ref b0), (2, .int y2), (3, .int y3)]) dX12_stair_152 (Nat.le_of_ble_eq_true rfl) rfl ?_
        refine ok_sub [2, 3, 4, 1, 0] rfl ?_
        exact o12_stair_c154 d hW hQ hk100 n I b0 y2 y3 (I b0 31) (0 : Int32) hZ_b0 h
    · have h := (if_neg hc1).symm.trans h
      refine ok_aload_n dX12_stair_119 0 rfl ?_
      refine ok_aload_n dX12_stair_120 0 rfl ?_
      have hT5 : Z[(rO O b0 28)]? = some (13, 5) := (wt_f (ci := 12) (k := 28) hW hZ_b0 rfl).2
      refine ok_getR (ci := 12) (k := 28) dX12_stair_121 flRX12_56 rfl hW hZ_b0 (by decide) ?_
      refine ok_iload dX12_stair_124 4 rfl ?_
      obtain ⟨hg6, h⟩ := gd h
      refine ok_iald2 (N := y6.toNatClampNeg) dX12_stair_126 hT5 hg6 rfl ?_
      obtain ⟨r7, hr8, h⟩ := bd h
      refine ok_callV (d := ((d + 0) + 4)) (mt := m12_layOn) (mc := 0) (ms := 0) (As := [.int (I (rO O b0 28) y6.toNatClampNeg)]) (r := []) dX12_stair_127 mo12_layOn mv12_layOn lkRX12_462 rfl hZ_b0 (q := (RX12, TX12, 34)) rfl rfl rfl (Nat.le_of_ble_eq_true rfl) (by show _ + 1 ≤ d + _; omega) (Nat.le_refl _) (Nat.le_refl _) (pRt_mono ?_)
      refine k12_layOn (d + 0) hW hZ_b0 hr8 ?_
      intro _
      show Ok g _ Qx 130 [(0, .ref b0), (2, .int y2), (3, .int y3), (4, .int y4), (6, .int y6)] [] (Z, r7, L, O)
      refine ok_iinc (u := (y6 + 1)) (l' := [(6, .int (y6 + 1)), (0, .ref b0), (2, .int y2), (3, .int y3), (4, .int y4)]) dX12_stair_130 4 rfl rfl (Nat.le_of_ble_eq_true rfl) rfl ?_
      refine ok_goto (t := 113) dX12_stair_133 (by decide) ?_
      refine ok_sub [1, 2, 3, 4, 0] rfl ?_
      exact ih r7 b0 y2 y3 y4 (y6 + 1) hZ_b0 h
def f12_stair_c100 (n : Nat) (O : (Nat → Nat → Option Nat)) : Nat → (Nat → Nat → Int32) → Nat → Int32 → Int32 → Int32 → Int32 → Option (Int32 × (Nat → Nat → Int32))
  | 0, _, _, _, _, _, _ => none
  | m + 1, I, b0, y2, y3, y4, y5 => (if y5 = 0 then (if y2 = (-1 : Int32) then some (y4, I) else (if y2 < 0 ∨ 5 ≤ y2.toNatClampNeg then none else some ((I (rO O b0 29) y2.toNatClampNeg), I))) else bl (sI I b0 31 (0 : Int32)) fun I5 => f12_stair_c113 n O (f12_stair_c100 n O m) n I5 b0 y2 y3 y4 (0 : Int32))
set_option maxHeartbeats 4000000 in
set_option maxRecDepth 20000 in
theorem o12_stair_c100 {g : pG} {Qx : Option Value → pW → Prop} {Z : pZ} {L : (Nat → Nat → Int64)} {O : (Nat → Nat → Option Nat)} {n : Nat} {res : Int32 × (Nat → Nat → Int32)} (d : Nat) (hW : WT Z O) (hQ : Qx (some (.int res.1)) (Z, res.2, L, O)) : ∀ (m : Nat) (I : (Nat → Nat → Int32)) (b0 : Nat) (y2 : Int32) (y3 : Int32) (y4 : Int32) (y5 : Int32), (Z[b0]? = some (12, 34)) → f12_stair_c100 n O m I b0 y2 y3 y4 y5 = some res → Ok g (d + 5, RX12, cX12_stair, 7, false, 0, 0, Z.length, pSl Z) Qx 100 [(0, .ref b0), (2, .int y2), (3, .int y3), (4, .int y4), (5, .int y5)] [] (Z, I, L, O) := by
  intro m
  induction m with
  | zero => intro I b0 y2 y3 y4 y5 hZ_b0 h; rw [f12_stair_c100] at h; cases h
  | succ m ih =>
    intro I b0 y2 y3 y4 y5 hZ_b0 h
    rw [f12_stair_c100] at h
    refine ok_iload dX12_stair_100 4 rfl ?_
    refine ok_if_eq (t := 190) dX12_stair_102 (by decide) (fun hc1 => ?_) (fun hc1 => ?_)
    · have h := (if_pos hc1).symm.trans h
      refine ok_iload_n dX12_stair_190 1 rfl ?_
      refine ok_iconst (v := (-1)) dX12_stair_191 (by decide) ?_
      refine ok_icmp_ne (t := 200) dX12_stair_192 (by decide) (fun hc2 => ?_) (fun hc2 => ?_)
      · have h := (if_neg hc2).symm.trans h
        refine ok_aload_n dX12_stair_200 0 rfl ?_
        have hT3 : Z[(rO O b0 29)]? = some (13, 5) := (wt_f (ci := 12) (k := 29) hW hZ_b0 rfl).2
        refine ok_getR (ci := 12) (k := 29) dX12_stair_201 flRX12_59 rfl hW hZ_b0 (by decide) ?_
        refine ok_iload_n dX12_stair_204 1 rfl ?_
        obtain ⟨hg4, h⟩ := gd h
        refine ok_iald2 (N := y2.toNatClampNeg) dX12_stair_205 hT3 hg4 rfl ?_
        cases h
        exact ok_iret dX12_stair_206 hQ
      · have h := (if_pos hc2).symm.trans h
        refine ok_iload dX12_stair_195 3 rfl ?_
        refine ok_goto (t := 206) dX12_stair_197 (by decide) ?_
        cases h
        exact ok_iret dX12_stair_206 hQ
    · have h := (if_neg hc1).symm.trans h
      refine ok_aload_n dX12_stair_105 0 rfl ?_
      refine ok_iconst (v := 0) dX12_stair_106 (by decide) ?_
      obtain ⟨I5, eI5, h⟩ := blE h
      refine ok_putI2 (ci := 12) (k := 31) dX12_stair_107 flRX12_456 rfl (Or.inl rfl) hZ_b0 (by decide) eI5 ?_
      refine ok_iconst (v := 0) dX12_stair_110 (by decide) ?_
      refine ok_istore (l' := [(6, .int 0), (0, .ref b0), (2, .int y2), (3, .int y3), (4, .int y4), (5, .int y5)]) dX12_stair_111 (Nat.le_of_ble_eq_true rfl) rfl ?_
      refine ok_sub [1, 2, 3, 4, 0] rfl ?_
      exact o12_stair_c113 d hW hQ ih n I5 b0 y2 y3 y4 (0 : Int32) hZ_b0 h
def f12_stair_c40 (n : Nat) (O : (Nat → Nat → Option Nat)) : Nat → (Nat → Nat → Int32) → Nat → Int32 → Int32 → Int32 → Int32 → Option (Int32 × (Nat → Nat → Int32))
  | 0, _, _, _, _, _, _ => none
  | m + 1, I, b0, y1, y2, y3, y4 => (if (I (rO O b0 0) 0) ≤ y4 then f12_stair_c100 n O n I b0 y2 y3 (1000000 : Int32) (1 : Int32) else (f12_has y1 y4).bind fun r3 => (if r3 = 0 then f12_stair_c40 n O m I b0 y1 y2 y3 (y4 + 1) else (f12_tornIn n I O b0 y4).bind fun r6 => (if r6 = 0 then (if y3 < 0 ∨ 5 ≤ y3.toNatClampNeg then none else bl (sI I (rO O b0 28) y3.toNatClampNeg y4) fun I11 => f12_stair_c40 n O m I11 b0 y1 y2 (y3 + 1) (y4 + 1)) else some (((-2) : Int32), I))))
set_option maxHeartbeats 4000000 in
set_option maxRecDepth 20000 in
theorem o12_stair_c40 {g : pG} {Qx : Option Value → pW → Prop} {Z : pZ} {L : (Nat → Nat → Int64)} {O : (Nat → Nat → Option Nat)} {n : Nat} {res : Int32 × (Nat → Nat → Int32)} (d : Nat) (hW : WT Z O) (hQ : Qx (some (.int res.1)) (Z, res.2, L, O)) : ∀ (m : Nat) (I : (Nat → Nat → Int32)) (b0 : Nat) (y1 : Int32) (y2 : Int32) (y3 : Int32) (y4 : Int32), (Z[b0]? = some (12, 34)) → f12_stair_c40 n O m I b0 y1 y2 y3 y4 = some res → Ok g (d + 5, RX12, cX12_stair, 7, false, 0, 0, Z.length, pSl Z) Qx 40 [(0, .ref b0), (1, .int y1), (2, .int y2), (3, .int y3), (4, .int y4)] [] (Z, I, L, O) := by
  intro m
  induction m with
  | zero => intro I b0 y1 y2 y3 y4 hZ_b0 h; rw [f12_stair_c40] at h; cases h
  | succ m ih =>
    intro I b0 y1 y2 y3 y4 hZ_b0 h
    rw [f12_stair_c40] at h
    refine ok_iload dX12_stair_40 4 rfl ?_
    refine ok_aload_n dX12_stair_42 0 rfl ?_
    have hT1 : Z[(rO O b0 0)]? = some (13, 4371) := (wt_f (ci := 12) (k := 0) hW hZ_b0 rfl).2
    refine ok_getR (ci := 12) (k := 0) dX12_stair_43 flRX12_7 rfl hW hZ_b0 (by decide) ?_
    refine ok_iconst (v := 0) dX12_stair_46 (by decide) ?_
    refine ok_iald2 (N := 0) dX12_stair_47 hT1 (by unfold vp_in; decide) (by decide) ?_
    refine ok_icmp_ge (t := 92) dX12_stair_48 (by decide) (fun hc2 => ?_) (fun hc2 => ?_)
    · have h := (if_pos hc2).symm.trans h
      refine ok_ldcw (v := 1000000) dX12_stair_92 (tb_i (c := Cond.constant RX12 452 (1000000)) 1933 (by decide +kernel)) ?_
      refine ok_istore (l' := [(4, .int 1000000), (0, .ref b0), (1, .int y1), (2, .int y2), (3, .int y3)]) dX12_stair_95 (Nat.le_of_ble_eq_true rfl) rfl ?_
      refine ok_iconst (v := 1) dX12_stair_97 (by decide) ?_
      refine ok_istore (l' := [(5, .int 1), (4, .int 1000000), (0, .ref b0), (1, .int y1), (2, .int y2), (3, .int y3)]) dX12_stair_98 (Nat.le_of_ble_eq_true rfl) rfl ?_
      refine ok_sub [2, 4, 5, 1, 0] rfl ?_
      exact o12_stair_c100 d hW hQ  n I b0 y2 y3 (1000000 : Int32) (1 : Int32) hZ_b0 h
    · have h := (if_neg hc2).symm.trans h
      refine ok_iload_n dX12_stair_51 1 rfl ?_
      refine ok_iload dX12_stair_52 4 rfl ?_
      obtain ⟨r3, hr4, h⟩ := bd h
      refine ok_callS (d := ((d + 2) + 2)) (mt := m12_has) (mc := 0) (ms := 0) (As := [.int y1, .int y4]) (r := []) dX12_stair_54 mo12_has mv12_has lkRX12_252 rfl rfl (Nat.le_of_ble_eq_true rfl) (by show _ + 1 ≤ d + _; omega) (Nat.le_refl _) (Nat.le_refl _) (pRt_mono ?_)
      refine k12_has (d + 2) hW  hr4 ?_
      intro hbr3
      show Ok g _ Qx 57 [(0, .ref b0), (1, .int y1), (2, .int y2), (3, .int y3), (4, .int y4)] [.int r3] (Z, I, L, O)
      refine ok_if_ne (t := 63) dX12_stair_57 (by decide) (fun hc5 => ?_) (fun hc5 => ?_)
      · have h := (if_neg hc5).symm.trans h
        refine ok_aload_n dX12_stair_63 0 rfl ?_
        refine ok_iload dX12_stair_64 4 rfl ?_
        obtain ⟨r6, hr7, h⟩ := bd h
        refine ok_callV (d := ((d + 0) + 4)) (mt := m12_tornIn) (mc := 0) (ms := 0) (As := [.int y4]) (r := []) dX12_stair_66 mo12_tornIn mv12_tornIn lkRX12_401 rfl hZ_b0 (q := (RX12, TX12, 34)) rfl rfl rfl (Nat.le_of_ble_eq_true rfl) (by show _ + 1 ≤ d + _; omega) (Nat.le_refl _) (Nat.le_refl _) (pRt_mono ?_)
        refine k12_tornIn (d + 0) hW hZ_b0 hr7 ?_
        intro _
        show Ok g _ Qx 69 [(0, .ref b0), (1, .int y1), (2, .int y2), (3, .int y3), (4, .int y4)] [.int r6] (Z, I, L, O)
        refine ok_if_eq (t := 75) dX12_stair_69 (by decide) (fun hc8 => ?_) (fun hc8 => ?_)
        · have h := (if_pos hc8).symm.trans h
          refine ok_aload_n dX12_stair_75 0 rfl ?_
          have hT9 : Z[(rO O b0 28)]? = some (13, 5) := (wt_f (ci := 12) (k := 28) hW hZ_b0 rfl).2
          refine ok_getR (ci := 12) (k := 28) dX12_stair_76 flRX12_56 rfl hW hZ_b0 (by decide) ?_
          refine ok_iload_n dX12_stair_79 3 rfl ?_
          refine ok_iload dX12_stair_80 4 rfl ?_
          obtain ⟨hg10, h⟩ := gd h
          obtain ⟨I11, eI11, h⟩ := blE h
          refine ok_iast3 dX12_stair_82 hT9 hg10 rfl eI11 ?_
          refine ok_iinc (u := (y3 + 1)) (l' := [(3, .int (y3 + 1)), (0, .ref b0), (1, .int y1), (2, .int y2), (4, .int y4)]) dX12_stair_83 3 rfl rfl (Nat.le_of_ble_eq_true rfl) rfl ?_
          refine ok_iinc (u := (y4 + 1)) (l' := [(4, .int (y4 + 1)), (3, .int (y3 + 1)), (0, .ref b0), (1, .int y1), (2, .int y2)]) dX12_stair_86 4 rfl rfl (Nat.le_of_ble_eq_true rfl) rfl ?_
          refine ok_goto (t := 40) dX12_stair_89 (by decide) ?_
          refine ok_sub [2, 3, 4, 1, 0] rfl ?_
          exact ih I11 b0 y1 y2 (y3 + 1) (y4 + 1) hZ_b0 h
        · have h := (if_neg hc8).symm.trans h
          refine ok_bipush (v := (-2)) dX12_stair_72 (by decide) ?_
          cases h
          exact ok_iret dX12_stair_74 hQ
      · have h := (if_pos hc5).symm.trans h
        refine ok_goto (t := 86) dX12_stair_60 (by decide) ?_
        refine ok_iinc (u := (y4 + 1)) (l' := [(4, .int (y4 + 1)), (0, .ref b0), (1, .int y1), (2, .int y2), (3, .int y3)]) dX12_stair_86 4 rfl rfl (Nat.le_of_ble_eq_true rfl) rfl ?_
        refine ok_goto (t := 40) dX12_stair_89 (by decide) ?_
        refine ok_sub [1, 2, 3, 4, 0] rfl ?_
        exact ih I b0 y1 y2 y3 (y4 + 1) hZ_b0 h
def f12_stair (n : Nat) (I : (Nat → Nat → Int32)) (O : (Nat → Nat → Option Nat)) (a0 : Nat) (x1 : Int32) (x2 : Int32) : Option (Int32 × (Nat → Nat → Int32)) := (f12_isIn x1 (1 : Int32) (((1 : Int32) <<< ((I (rO O a0 0) 0) &&& 31)) - 1)).bind fun r2 => (if r2 = 0 then some (((-2) : Int32), I) else (f12_bits n x1).bind fun r5 => (f12_isIn x2 (-1 : Int32) (r5 - 1)).bind fun r7 => (if r7 = 0 then some (((-2) : Int32), I) else f12_stair_c40 n O n I a0 x1 x2 (0 : Int32) (0 : Int32)))
set_option maxHeartbeats 4000000 in
set_option maxRecDepth 20000 in
theorem o12_stair {g : pG} {Qx : Option Value → pW → Prop} {Z : pZ} {I : (Nat → Nat → Int32)} {L : (Nat → Nat → Int64)} {O : (Nat → Nat → Option Nat)} {n : Nat} {a0 : Nat} {x1 : Int32} {x2 : Int32} {res : Int32 × (Nat → Nat → Int32)} (d : Nat) (hW : WT Z O) (hZ0 : Z[a0]? = some (12, 34)) (h : f12_stair n I O a0 x1 x2 = some res) (hQ : Qx (some (.int res.1)) (Z, res.2, L, O)) : Ok g (d + 5, RX12, cX12_stair, 7, false, 0, 0, Z.length, pSl Z) Qx 0 [(0, .ref a0), (1, .int x1), (2, .int x2)] [] (Z, I, L, O) := by
  unfold f12_stair at h
  refine ok_iload_n dX12_stair_0 1 rfl ?_
  refine ok_iconst (v := 1) dX12_stair_1 (by decide) ?_
  refine ok_iconst (v := 1) dX12_stair_2 (by decide) ?_
  refine ok_aload_n dX12_stair_3 0 rfl ?_
  have hT1 : Z[(rO O a0 0)]? = some (13, 4371) := (wt_f (ci := 12) (k := 0) hW hZ0 rfl).2
  refine ok_getR (ci := 12) (k := 0) dX12_stair_4 flRX12_7 rfl hW hZ0 (by decide) ?_
  refine ok_iconst (v := 0) dX12_stair_7 (by decide) ?_
  refine ok_iald2 (N := 0) dX12_stair_8 hT1 (by unfold vp_in; decide) (by decide) ?_
  refine ok_ishl dX12_stair_9 ?_
  refine ok_iconst (v := 1) dX12_stair_10 (by decide) ?_
  refine ok_isub dX12_stair_11 ?_
  obtain ⟨r2, hr3, h⟩ := bd h
  refine ok_callS (d := ((d + 2) + 2)) (mt := m12_isIn) (mc := 0) (ms := 0) (As := [.int x1, .int 1, .int (((1 : Int32) <<< ((I (rO O a0 0) 0) &&& 31)) - 1)]) (r := []) dX12_stair_12 mo12_isIn mv12_isIn lkRX12_75 rfl rfl (Nat.le_of_ble_eq_true rfl) (by show _ + 1 ≤ d + _; omega) (Nat.le_refl _) (Nat.le_refl _) (pRt_mono ?_)
  refine k12_isIn (d + 2) hW  hr3 ?_
  intro hbr2
  show Ok g _ Qx 15 [(0, .ref a0), (1, .int x1), (2, .int x2)] [.int r2] (Z, I, L, O)
  refine ok_if_eq (t := 32) dX12_stair_15 (by decide) (fun hc4 => ?_) (fun hc4 => ?_)
  · have h := (if_pos hc4).symm.trans h
    refine ok_bipush (v := (-2)) dX12_stair_32 (by decide) ?_
    cases h
    exact ok_iret dX12_stair_34 hQ
  · have h := (if_neg hc4).symm.trans h
    refine ok_iload_n dX12_stair_18 2 rfl ?_
    refine ok_iconst (v := (-1)) dX12_stair_19 (by decide) ?_
    refine ok_iload_n dX12_stair_20 1 rfl ?_
    obtain ⟨r5, hr6, h⟩ := bd h
    refine ok_callS (d := ((d + 2) + 2)) (mt := m12_bits) (mc := 0) (ms := 0) (As := [.int x1]) (r := [.int (-1), .int x2]) dX12_stair_21 mo12_bits mv12_bits lkRX12_413 rfl rfl (Nat.le_of_ble_eq_true rfl) (by show _ + 1 ≤ d + _; omega) (Nat.le_refl _) (Nat.le_refl _) (pRt_mono ?_)
    refine k12_bits (d + 2) hW  hr6 ?_
    intro _
    show Ok g _ Qx 24 [(0, .ref a0), (1, .int x1), (2, .int x2)] [.int r5, .int (-1), .int x2] (Z, I, L, O)
    refine ok_iconst (v := 1) dX12_stair_24 (by decide) ?_
    refine ok_isub dX12_stair_25 ?_
    obtain ⟨r7, hr8, h⟩ := bd h
    refine ok_callS (d := ((d + 2) + 2)) (mt := m12_isIn) (mc := 0) (ms := 0) (As := [.int x2, .int (-1), .int (r5 - 1)]) (r := []) dX12_stair_26 mo12_isIn mv12_isIn lkRX12_75 rfl rfl (Nat.le_of_ble_eq_true rfl) (by show _ + 1 ≤ d + _; omega) (Nat.le_refl _) (Nat.le_refl _) (pRt_mono ?_)
    refine k12_isIn (d + 2) hW  hr8 ?_
    intro hbr7
    show Ok g _ Qx 29 [(0, .ref a0), (1, .int x1), (2, .int x2)] [.int r7] (Z, I, L, O)
    refine ok_if_ne (t := 35) dX12_stair_29 (by decide) (fun hc9 => ?_) (fun hc9 => ?_)
    · have h := (if_neg hc9).symm.trans h
      refine ok_iconst (v := 0) dX12_stair_35 (by decide) ?_
      refine ok_istore_n (l' := [(3, .int 0), (0, .ref a0), (1, .int x1), (2, .int x2)]) dX12_stair_36 rfl (Nat.le_of_ble_eq_true rfl) rfl ?_
      refine ok_iconst (v := 0) dX12_stair_37 (by decide) ?_
      refine ok_istore (l' := [(4, .int 0), (3, .int 0), (0, .ref a0), (1, .int x1), (2, .int x2)]) dX12_stair_38 (Nat.le_of_ble_eq_true rfl) rfl ?_
      refine ok_sub [2, 3, 4, 1, 0] rfl ?_
      exact o12_stair_c40 d hW hQ  n I a0 x1 x2 (0 : Int32) (0 : Int32) hZ0 h
    · have h := (if_pos hc9).symm.trans h
      refine ok_bipush (v := (-2)) dX12_stair_32 (by decide) ?_
      cases h
      exact ok_iret dX12_stair_34 hQ
theorem k12_stair {g : pG} {Q : Option Value → pW → Prop} {Z : pZ} {I : (Nat → Nat → Int32)} {L : (Nat → Nat → Int64)} {O : (Nat → Nat → Option Nat)} {n : Nat} {a0 : Nat} {x1 : Int32} {x2 : Int32} {res : Int32 × (Nat → Nat → Int32)} (d : Nat) (hW : WT Z O) (hZ0 : Z[a0]? = some (12, 34)) (h : f12_stair n I O a0 x1 x2 = some res) (hQ : Q (some (.int res.1)) (Z, res.2, L, O)) : CT g (d + 5) m12_stair 0 0 [.ref a0, .int x1, .int x2] (Z, I, L, O) Q :=
  ct_of_ok (mt := m12_stair) (ini := false) mo12_stair.2.2.2.2 (fun h => by cases h) (Nat.le_of_ble_eq_true rfl) (o12_stair d hW hZ0 h ⟨trivial, hQ, rfl, rfl⟩)
theorem dX12_timesOf_0 : decode cX12_timesOf 0 = .ok (.iload_n 0, 1) := by decide +kernel
theorem dX12_timesOf_1 : decode cX12_timesOf 1 = .ok (.istore_n 2, 1) := by decide +kernel
theorem dX12_timesOf_2 : decode cX12_timesOf 2 = .ok (.iload_n 1, 1) := by decide +kernel
theorem dX12_timesOf_3 : decode cX12_timesOf 3 = .ok (.istore_n 3, 1) := by decide +kernel
theorem dX12_timesOf_4 : decode cX12_timesOf 4 = .ok (.iload_n 3, 1) := by decide +kernel
theorem dX12_timesOf_5 : decode cX12_timesOf 5 = .ok (.iconst 4, 1) := by decide +kernel
theorem dX12_timesOf_6 : decode cX12_timesOf 6 = .ok (.if_icmp .ge 14, 3) := by decide +kernel
theorem dX12_timesOf_9 : decode cX12_timesOf 9 = .ok (.iload_n 2, 1) := by decide +kernel
theorem dX12_timesOf_10 : decode cX12_timesOf 10 = .ok (.bipush 9, 2) := by decide +kernel
theorem dX12_timesOf_12 : decode cX12_timesOf 12 = .ok (.idiv, 1) := by decide +kernel
theorem dX12_timesOf_13 : decode cX12_timesOf 13 = .ok (.istore_n 2, 1) := by decide +kernel
theorem dX12_timesOf_14 : decode cX12_timesOf 14 = .ok (.iinc 3 1, 3) := by decide +kernel
theorem dX12_timesOf_17 : decode cX12_timesOf 17 = .ok (.goto (-13), 3) := by decide +kernel
theorem dX12_timesOf_20 : decode cX12_timesOf 20 = .ok (.iload_n 2, 1) := by decide +kernel
theorem dX12_timesOf_21 : decode cX12_timesOf 21 = .ok (.bipush 9, 2) := by decide +kernel
theorem dX12_timesOf_23 : decode cX12_timesOf 23 = .ok (.irem, 1) := by decide +kernel
theorem dX12_timesOf_24 : decode cX12_timesOf 24 = .ok (.ireturn, 1) := by decide +kernel
def m12_timesOf : pMT := (yX12_timesOf, cX12_timesOf, 4, some .int)
theorem mo12_timesOf : mOK m12_timesOf 2 := ⟨tb_i 1964 (by decide +kernel), wi_RX12, ⟨wn_RX12.1, wn_RX12.2, by decide +kernel⟩, by decide, plainFor_of_name wp_RX12⟩
theorem mv12_timesOf : mS m12_timesOf := (tb_i 1963 (by decide +kernel) : Cond.static yX12_timesOf ∈ lw_tbl)
def f12_timesOf_c4 (n : Nat) : Nat → Int32 → Int32 → Option (Int32)
  | 0, _, _ => none
  | m + 1, y2, y3 => (if (4 : Int32) ≤ y3 then some ((y2 - y2 / 9 * 9)) else f12_timesOf_c4 n m (y2 / 9) (y3 + 1))
set_option maxHeartbeats 4000000 in
set_option maxRecDepth 20000 in
theorem o12_timesOf_c4 {g : pG} {Qx : Option Value → pW → Prop} {Z : pZ} {I : (Nat → Nat → Int32)} {L : (Nat → Nat → Int64)} {O : (Nat → Nat → Option Nat)} {n : Nat} {res : Int32} (d : Nat) (hW : WT Z O) (hQ : Qx (some (.int res)) (Z, I, L, O)) : ∀ (m : Nat) (y2 : Int32) (y3 : Int32), f12_timesOf_c4 n m y2 y3 = some res → Ok g (d + 2, RX12, cX12_timesOf, 4, false, 0, 0, Z.length, pSl Z) Qx 4 [(2, .int y2), (3, .int y3)] [] (Z, I, L, O) := by
  intro m
  induction m with
  | zero => intro y2 y3 h; rw [f12_timesOf_c4] at h; cases h
  | succ m ih =>
    intro y2 y3 h
    rw [f12_timesOf_c4] at h
    refine ok_iload_n dX12_timesOf_4 1 rfl ?_
    refine ok_iconst (v := 4) dX12_timesOf_5 (by decide) ?_
    refine ok_icmp_ge (t := 20) dX12_timesOf_6 (by decide) (fun hc1 => ?_) (fun hc1 => ?_)
    · have h := (if_pos hc1).symm.trans h
      refine ok_iload_n dX12_timesOf_20 0 rfl ?_
      refine ok_bipush (v := 9) dX12_timesOf_21 (by decide) ?_
      refine ok_irem dX12_timesOf_23 (by decide) ?_
      cases h
      exact ok_iret dX12_timesOf_24 hQ
    · have h := (if_neg hc1).symm.trans h
      refine ok_iload_n dX12_timesOf_9 0 rfl ?_
      refine ok_bipush (v := 9) dX12_timesOf_10 (by decide) ?_
      refine ok_idiv dX12_timesOf_12 (by decide) ?_
      refine ok_istore_n (l' := [(2, .int (y2 / 9)), (3, .int y3)]) dX12_timesOf_13 rfl (Nat.le_of_ble_eq_true rfl) rfl ?_
      refine ok_iinc (u := (y3 + 1)) (l' := [(3, .int (y3 + 1)), (2, .int (y2 / 9))]) dX12_timesOf_14 1 rfl rfl (Nat.le_of_ble_eq_true rfl) rfl ?_
      refine ok_goto (t := 4) dX12_timesOf_17 (by decide) ?_
      refine ok_sub [1, 0] rfl ?_
      exact ih (y2 / 9) (y3 + 1)  h
def f12_timesOf (n : Nat) (x0 : Int32) (x1 : Int32) : Option (Int32) := f12_timesOf_c4 n n x0 x1
set_option maxHeartbeats 4000000 in
set_option maxRecDepth 20000 in
theorem o12_timesOf {g : pG} {Qx : Option Value → pW → Prop} {Z : pZ} {I : (Nat → Nat → Int32)} {L : (Nat → Nat → Int64)} {O : (Nat → Nat → Option Nat)} {n : Nat} {x0 : Int32} {x1 : Int32} {res : Int32} (d : Nat) (hW : WT Z O) (h : f12_timesOf n x0 x1 = some res) (hQ : Qx (some (.int res)) (Z, I, L, O)) : Ok g (d + 2, RX12, cX12_timesOf, 4, false, 0, 0, Z.length, pSl Z) Qx 0 [(0, .int x0), (1, .int x1)] [] (Z, I, L, O) := by
  unfold f12_timesOf at h
  refine ok_iload_n dX12_timesOf_0 0 rfl ?_
  refine ok_istore_n (l' := [(2, .int x0), (0, .int x0), (1, .int x1)]) dX12_timesOf_1 rfl (Nat.le_of_ble_eq_true rfl) rfl ?_
  refine ok_iload_n dX12_timesOf_2 2 rfl ?_
  refine ok_istore_n (l' := [(3, .int x1), (2, .int x0), (0, .int x0), (1, .int x1)]) dX12_timesOf_3 rfl (Nat.le_of_ble_eq_true rfl) rfl ?_
  refine ok_sub [1, 0] rfl ?_
  exact o12_timesOf_c4 d hW hQ  n x0 x1  h
theorem k12_timesOf {g : pG} {Q : Option Value → pW → Prop} {Z : pZ} {I : (Nat → Nat → Int32)} {L : (Nat → Nat → Int64)} {O : (Nat → Nat → Option Nat)} {n : Nat} {x0 : Int32} {x1 : Int32} {res : Int32} (d : Nat) (hW : WT Z O) (h : f12_timesOf n x0 x1 = some res) (hQ : Q (some (.int res)) (Z, I, L, O)) : CT g (d + 2) m12_timesOf 0 0 [.int x0, .int x1] (Z, I, L, O) Q :=
  ct_of_ok (mt := m12_timesOf) (ini := false) mo12_timesOf.2.2.2.2 (fun h => by cases h) (Nat.le_of_ble_eq_true rfl) (o12_timesOf d hW  h ⟨trivial, hQ, rfl, rfl⟩)
theorem dX12_timesIn_0 : decode cX12_timesIn 0 = .ok (.iconst 0, 1) := by decide +kernel
theorem dX12_timesIn_1 : decode cX12_timesIn 1 = .ok (.istore_n 2, 1) := by decide +kernel
theorem dX12_timesIn_2 : decode cX12_timesIn 2 = .ok (.iconst 0, 1) := by decide +kernel
theorem dX12_timesIn_3 : decode cX12_timesIn 3 = .ok (.istore_n 3, 1) := by decide +kernel
theorem dX12_timesIn_4 : decode cX12_timesIn 4 = .ok (.iload_n 3, 1) := by decide +kernel
theorem dX12_timesIn_5 : decode cX12_timesIn 5 = .ok (.iconst 5, 1) := by decide +kernel
theorem dX12_timesIn_6 : decode cX12_timesIn 6 = .ok (.if_icmp .ge 17, 3) := by decide +kernel
theorem dX12_timesIn_9 : decode cX12_timesIn 9 = .ok (.iload_n 2, 1) := by decide +kernel
theorem dX12_timesIn_10 : decode cX12_timesIn 10 = .ok (.iload_n 1, 1) := by decide +kernel
theorem dX12_timesIn_11 : decode cX12_timesIn 11 = .ok (.iload_n 3, 1) := by decide +kernel
theorem dX12_timesIn_12 : decode cX12_timesIn 12 = .ok (.invokestatic 468, 3) := by decide +kernel
theorem dX12_timesIn_15 : decode cX12_timesIn 15 = .ok (.iadd, 1) := by decide +kernel
theorem dX12_timesIn_16 : decode cX12_timesIn 16 = .ok (.istore_n 2, 1) := by decide +kernel
theorem dX12_timesIn_17 : decode cX12_timesIn 17 = .ok (.iinc 3 1, 3) := by decide +kernel
theorem dX12_timesIn_20 : decode cX12_timesIn 20 = .ok (.goto (-16), 3) := by decide +kernel
theorem dX12_timesIn_23 : decode cX12_timesIn 23 = .ok (.iload_n 2, 1) := by decide +kernel
theorem dX12_timesIn_24 : decode cX12_timesIn 24 = .ok (.ireturn, 1) := by decide +kernel
def m12_timesIn : pMT := (yX12_timesIn, cX12_timesIn, 4, some .int)
theorem mo12_timesIn : mOK m12_timesIn 1 := ⟨tb_i 1961 (by decide +kernel), wi_RX12, ⟨wn_RX12.1, wn_RX12.2, by decide +kernel⟩, by decide, plainFor_of_name wp_RX12⟩
theorem mv12_timesIn : mV m12_timesIn := ⟨tb_i 1960 (by decide +kernel), tb_p 136 (by decide +kernel)⟩
def f12_timesIn_c4 (n : Nat) : Nat → Int32 → Int32 → Int32 → Option (Int32)
  | 0, _, _, _ => none
  | m + 1, y1, y2, y3 => (if (5 : Int32) ≤ y3 then some (y2) else (f12_timesOf n y1 y3).bind fun r2 => f12_timesIn_c4 n m y1 (y2 + r2) (y3 + 1))
set_option maxHeartbeats 4000000 in
set_option maxRecDepth 20000 in
theorem o12_timesIn_c4 {g : pG} {Qx : Option Value → pW → Prop} {Z : pZ} {I : (Nat → Nat → Int32)} {L : (Nat → Nat → Int64)} {O : (Nat → Nat → Option Nat)} {n : Nat} {res : Int32} (d : Nat) (hW : WT Z O) (hQ : Qx (some (.int res)) (Z, I, L, O)) : ∀ (m : Nat) (y1 : Int32) (y2 : Int32) (y3 : Int32), f12_timesIn_c4 n m y1 y2 y3 = some res → Ok g (d + 3, RX12, cX12_timesIn, 4, false, 0, 0, Z.length, pSl Z) Qx 4 [(1, .int y1), (2, .int y2), (3, .int y3)] [] (Z, I, L, O) := by
  intro m
  induction m with
  | zero => intro y1 y2 y3 h; rw [f12_timesIn_c4] at h; cases h
  | succ m ih =>
    intro y1 y2 y3 h
    rw [f12_timesIn_c4] at h
    refine ok_iload_n dX12_timesIn_4 2 rfl ?_
    refine ok_iconst (v := 5) dX12_timesIn_5 (by decide) ?_
    refine ok_icmp_ge (t := 23) dX12_timesIn_6 (by decide) (fun hc1 => ?_) (fun hc1 => ?_)
    · have h := (if_pos hc1).symm.trans h
      refine ok_iload_n dX12_timesIn_23 1 rfl ?_
      cases h
      exact ok_iret dX12_timesIn_24 hQ
    · have h := (if_neg hc1).symm.trans h
      refine ok_iload_n dX12_timesIn_9 1 rfl ?_
      refine ok_iload_n dX12_timesIn_10 0 rfl ?_
      refine ok_iload_n dX12_timesIn_11 2 rfl ?_
      obtain ⟨r2, hr3, h⟩ := bd h
      refine ok_callS (d := ((d + 0) + 2)) (mt := m12_timesOf) (mc := 0) (ms := 0) (As := [.int y1, .int y3]) (r := [.int y2]) dX12_timesIn_12 mo12_timesOf mv12_timesOf lkRX12_468 rfl rfl (Nat.le_of_ble_eq_true rfl) (by show _ + 1 ≤ d + _; omega) (Nat.le_refl _) (Nat.le_refl _) (pRt_mono ?_)
      refine k12_timesOf (d + 0) hW  hr3 ?_
      intro _
      show Ok g _ Qx 15 [(1, .int y1), (2, .int y2), (3, .int y3)] [.int r2, .int y2] (Z, I, L, O)
      refine ok_iadd dX12_timesIn_15 ?_
      refine ok_istore_n (l' := [(2, .int (y2 + r2)), (1, .int y1), (3, .int y3)]) dX12_timesIn_16 rfl (Nat.le_of_ble_eq_true rfl) rfl ?_
      refine ok_iinc (u := (y3 + 1)) (l' := [(3, .int (y3 + 1)), (2, .int (y2 + r2)), (1, .int y1)]) dX12_timesIn_17 2 rfl rfl (Nat.le_of_ble_eq_true rfl) rfl ?_
      refine ok_goto (t := 4) dX12_timesIn_20 (by decide) ?_
      refine ok_sub [2, 1, 0] rfl ?_
      exact ih y1 (y2 + r2) (y3 + 1)  h
def f12_timesIn (n : Nat) (a0 : Nat) (x1 : Int32) : Option (Int32) := f12_timesIn_c4 n n x1 (0 : Int32) (0 : Int32)
set_option maxHeartbeats 4000000 in
set_option maxRecDepth 20000 in
theorem o12_timesIn {g : pG} {Qx : Option Value → pW → Prop} {Z : pZ} {I : (Nat → Nat → Int32)} {L : (Nat → Nat → Int64)} {O : (Nat → Nat → Option Nat)} {n : Nat} {a0 : Nat} {x1 : Int32} {res : Int32} (d : Nat) (hW : WT Z O) (hZ0 : Z[a0]? = some (12, 34)) (h : f12_timesIn n a0 x1 = some res) (hQ : Qx (some (.int res)) (Z, I, L, O)) : Ok g (d + 3, RX12, cX12_timesIn, 4, false, 0, 0, Z.length, pSl Z) Qx 0 [(0, .ref a0), (1, .int x1)] [] (Z, I, L, O) := by
  unfold f12_timesIn at h
  refine ok_iconst (v := 0) dX12_timesIn_0 (by decide) ?_
  refine ok_istore_n (l' := [(2, .int 0), (0, .ref a0), (1, .int x1)]) dX12_timesIn_1 rfl (Nat.le_of_ble_eq_true rfl) rfl ?_
  refine ok_iconst (v := 0) dX12_timesIn_2 (by decide) ?_
  refine ok_istore_n (l' := [(3, .int 0), (2, .int 0), (0, .ref a0), (1, .int x1)]) dX12_timesIn_3 rfl (Nat.le_of_ble_eq_true rfl) rfl ?_
  refine ok_sub [3, 1, 0] rfl ?_
  exact o12_timesIn_c4 d hW hQ  n x1 (0 : Int32) (0 : Int32)  h
theorem k12_timesIn {g : pG} {Q : Option Value → pW → Prop} {Z : pZ} {I : (Nat → Nat → Int32)} {L : (Nat → Nat → Int64)} {O : (Nat → Nat → Option Nat)} {n : Nat} {a0 : Nat} {x1 : Int32} {res : Int32} (d : Nat) (hW : WT Z O) (hZ0 : Z[a0]? = some (12, 34)) (h : f12_timesIn n a0 x1 = some res) (hQ : Q (some (.int res)) (Z, I, L, O)) : CT g (d + 3) m12_timesIn 0 0 [.ref a0, .int x1] (Z, I, L, O) Q :=
  ct_of_ok (mt := m12_timesIn) (ini := false) mo12_timesIn.2.2.2.2 (fun h => by cases h) (Nat.le_of_ble_eq_true rfl) (o12_timesIn d hW hZ0 h ⟨trivial, hQ, rfl, rfl⟩)
theorem dX12_isTaught_0 : decode cX12_isTaught 0 = .ok (.iconst 0, 1) := by decide +kernel
theorem dX12_isTaught_1 : decode cX12_isTaught 1 = .ok (.istore 4, 2) := by decide +kernel
theorem dX12_isTaught_3 : decode cX12_isTaught 3 = .ok (.iload 4, 2) := by decide +kernel
theorem dX12_isTaught_5 : decode cX12_isTaught 5 = .ok (.bipush 6, 2) := by decide +kernel
theorem dX12_isTaught_7 : decode cX12_isTaught 7 = .ok (.if_icmp .ge 23, 3) := by decide +kernel
theorem dX12_isTaught_10 : decode cX12_isTaught 10 = .ok (.aload_n 0, 1) := by decide +kernel
theorem dX12_isTaught_11 : decode cX12_isTaught 11 = .ok (.getfield 65, 3) := by decide +kernel
theorem dX12_isTaught_14 : decode cX12_isTaught 14 = .ok (.iload 4, 2) := by decide +kernel
theorem dX12_isTaught_16 : decode cX12_isTaught 16 = .ok (.aload_n 0, 1) := by decide +kernel
theorem dX12_isTaught_17 : decode cX12_isTaught 17 = .ok (.iload_n 1, 1) := by decide +kernel
theorem dX12_isTaught_18 : decode cX12_isTaught 18 = .ok (.iload 4, 2) := by decide +kernel
theorem dX12_isTaught_20 : decode cX12_isTaught 20 = .ok (.invokevirtual 306, 3) := by decide +kernel
theorem dX12_isTaught_23 : decode cX12_isTaught 23 = .ok (.iastore, 1) := by decide +kernel
theorem dX12_isTaught_24 : decode cX12_isTaught 24 = .ok (.iinc 4 1, 3) := by decide +kernel
theorem dX12_isTaught_27 : decode cX12_isTaught 27 = .ok (.goto (-24), 3) := by decide +kernel
theorem dX12_isTaught_30 : decode cX12_isTaught 30 = .ok (.iconst 0, 1) := by decide +kernel
theorem dX12_isTaught_31 : decode cX12_isTaught 31 = .ok (.istore 4, 2) := by decide +kernel
theorem dX12_isTaught_33 : decode cX12_isTaught 33 = .ok (.iload 4, 2) := by decide +kernel
theorem dX12_isTaught_35 : decode cX12_isTaught 35 = .ok (.aload_n 0, 1) := by decide +kernel
theorem dX12_isTaught_36 : decode cX12_isTaught 36 = .ok (.getfield 7, 3) := by decide +kernel
theorem dX12_isTaught_39 : decode cX12_isTaught 39 = .ok (.iconst 0, 1) := by decide +kernel
theorem dX12_isTaught_40 : decode cX12_isTaught 40 = .ok (.iaload, 1) := by decide +kernel
theorem dX12_isTaught_41 : decode cX12_isTaught 41 = .ok (.if_icmp .ge 92, 3) := by decide +kernel
theorem dX12_isTaught_44 : decode cX12_isTaught 44 = .ok (.iconst 0, 1) := by decide +kernel
theorem dX12_isTaught_45 : decode cX12_isTaught 45 = .ok (.istore 5, 2) := by decide +kernel
theorem dX12_isTaught_47 : decode cX12_isTaught 47 = .ok (.iload 5, 2) := by decide +kernel
theorem dX12_isTaught_49 : decode cX12_isTaught 49 = .ok (.aload_n 0, 1) := by decide +kernel
theorem dX12_isTaught_50 : decode cX12_isTaught 50 = .ok (.getfield 7, 3) := by decide +kernel
theorem dX12_isTaught_53 : decode cX12_isTaught 53 = .ok (.bipush 114, 2) := by decide +kernel
theorem dX12_isTaught_55 : decode cX12_isTaught 55 = .ok (.iload 4, 2) := by decide +kernel
theorem dX12_isTaught_57 : decode cX12_isTaught 57 = .ok (.iadd, 1) := by decide +kernel
theorem dX12_isTaught_58 : decode cX12_isTaught 58 = .ok (.iaload, 1) := by decide +kernel
theorem dX12_isTaught_59 : decode cX12_isTaught 59 = .ok (.if_icmp .ge 68, 3) := by decide +kernel
theorem dX12_isTaught_62 : decode cX12_isTaught 62 = .ok (.aload_n 0, 1) := by decide +kernel
theorem dX12_isTaught_63 : decode cX12_isTaught 63 = .ok (.iload 4, 2) := by decide +kernel
theorem dX12_isTaught_65 : decode cX12_isTaught 65 = .ok (.iload 5, 2) := by decide +kernel
theorem dX12_isTaught_67 : decode cX12_isTaught 67 = .ok (.invokevirtual 331, 3) := by decide +kernel
theorem dX12_isTaught_70 : decode cX12_isTaught 70 = .ok (.ifCond .eq 51, 3) := by decide +kernel
theorem dX12_isTaught_73 : decode cX12_isTaught 73 = .ok (.aload_n 0, 1) := by decide +kernel
theorem dX12_isTaught_74 : decode cX12_isTaught 74 = .ok (.getfield 7, 3) := by decide +kernel
theorem dX12_isTaught_77 : decode cX12_isTaught 77 = .ok (.bipush 90, 2) := by decide +kernel
theorem dX12_isTaught_79 : decode cX12_isTaught 79 = .ok (.bipush 6, 2) := by decide +kernel
theorem dX12_isTaught_81 : decode cX12_isTaught 81 = .ok (.iload_n 1, 1) := by decide +kernel
theorem dX12_isTaught_82 : decode cX12_isTaught 82 = .ok (.imul, 1) := by decide +kernel
theorem dX12_isTaught_83 : decode cX12_isTaught 83 = .ok (.iadd, 1) := by decide +kernel
theorem dX12_isTaught_84 : decode cX12_isTaught 84 = .ok (.aload_n 0, 1) := by decide +kernel
theorem dX12_isTaught_85 : decode cX12_isTaught 85 = .ok (.iload 4, 2) := by decide +kernel
theorem dX12_isTaught_87 : decode cX12_isTaught 87 = .ok (.iload 5, 2) := by decide +kernel
theorem dX12_isTaught_89 : decode cX12_isTaught 89 = .ok (.invokevirtual 87, 3) := by decide +kernel
theorem dX12_isTaught_92 : decode cX12_isTaught 92 = .ok (.iadd, 1) := by decide +kernel
theorem dX12_isTaught_93 : decode cX12_isTaught 93 = .ok (.aload_n 0, 1) := by decide +kernel
theorem dX12_isTaught_94 : decode cX12_isTaught 94 = .ok (.iload_n 1, 1) := by decide +kernel
theorem dX12_isTaught_95 : decode cX12_isTaught 95 = .ok (.aload_n 0, 1) := by decide +kernel
theorem dX12_isTaught_96 : decode cX12_isTaught 96 = .ok (.iload 4, 2) := by decide +kernel
theorem dX12_isTaught_98 : decode cX12_isTaught 98 = .ok (.iload 5, 2) := by decide +kernel
theorem dX12_isTaught_100 : decode cX12_isTaught 100 = .ok (.invokevirtual 87, 3) := by decide +kernel
theorem dX12_isTaught_103 : decode cX12_isTaught 103 = .ok (.invokevirtual 306, 3) := by decide +kernel
theorem dX12_isTaught_106 : decode cX12_isTaught 106 = .ok (.iload_n 3, 1) := by decide +kernel
theorem dX12_isTaught_107 : decode cX12_isTaught 107 = .ok (.iload 4, 2) := by decide +kernel
theorem dX12_isTaught_109 : decode cX12_isTaught 109 = .ok (.invokestatic 468, 3) := by decide +kernel
theorem dX12_isTaught_112 : decode cX12_isTaught 112 = .ok (.iadd, 1) := by decide +kernel
theorem dX12_isTaught_113 : decode cX12_isTaught 113 = .ok (.i2l, 1) := by decide +kernel
theorem dX12_isTaught_114 : decode cX12_isTaught 114 = .ok (.iconst 0, 1) := by decide +kernel
theorem dX12_isTaught_115 : decode cX12_isTaught 115 = .ok (.bipush 99, 2) := by decide +kernel
theorem dX12_isTaught_117 : decode cX12_isTaught 117 = .ok (.invokestatic 302, 3) := by decide +kernel
theorem dX12_isTaught_120 : decode cX12_isTaught 120 = .ok (.iastore, 1) := by decide +kernel
theorem dX12_isTaught_121 : decode cX12_isTaught 121 = .ok (.iinc 5 1, 3) := by decide +kernel
theorem dX12_isTaught_124 : decode cX12_isTaught 124 = .ok (.goto (-77), 3) := by decide +kernel
theorem dX12_isTaught_127 : decode cX12_isTaught 127 = .ok (.iinc 4 1, 3) := by decide +kernel
theorem dX12_isTaught_130 : decode cX12_isTaught 130 = .ok (.goto (-97), 3) := by decide +kernel
theorem dX12_isTaught_133 : decode cX12_isTaught 133 = .ok (.iload_n 2, 1) := by decide +kernel
theorem dX12_isTaught_134 : decode cX12_isTaught 134 = .ok (.aload_n 0, 1) := by decide +kernel
theorem dX12_isTaught_135 : decode cX12_isTaught 135 = .ok (.iload_n 1, 1) := by decide +kernel
theorem dX12_isTaught_136 : decode cX12_isTaught 136 = .ok (.invokevirtual 395, 3) := by decide +kernel
theorem dX12_isTaught_139 : decode cX12_isTaught 139 = .ok (.iconst (-1), 1) := by decide +kernel
theorem dX12_isTaught_140 : decode cX12_isTaught 140 = .ok (.ixor, 1) := by decide +kernel
theorem dX12_isTaught_141 : decode cX12_isTaught 141 = .ok (.iand, 1) := by decide +kernel
theorem dX12_isTaught_142 : decode cX12_isTaught 142 = .ok (.ifCond .ne 7, 3) := by decide +kernel
theorem dX12_isTaught_145 : decode cX12_isTaught 145 = .ok (.iconst 1, 1) := by decide +kernel
theorem dX12_isTaught_146 : decode cX12_isTaught 146 = .ok (.goto 4, 3) := by decide +kernel
theorem dX12_isTaught_149 : decode cX12_isTaught 149 = .ok (.iconst 0, 1) := by decide +kernel
theorem dX12_isTaught_150 : decode cX12_isTaught 150 = .ok (.istore 4, 2) := by decide +kernel
theorem dX12_isTaught_152 : decode cX12_isTaught 152 = .ok (.iconst 0, 1) := by decide +kernel
theorem dX12_isTaught_153 : decode cX12_isTaught 153 = .ok (.istore 5, 2) := by decide +kernel
theorem dX12_isTaught_155 : decode cX12_isTaught 155 = .ok (.iload 5, 2) := by decide +kernel
theorem dX12_isTaught_157 : decode cX12_isTaught 157 = .ok (.bipush 6, 2) := by decide +kernel
theorem dX12_isTaught_159 : decode cX12_isTaught 159 = .ok (.if_icmp .ge 31, 3) := by decide +kernel
theorem dX12_isTaught_162 : decode cX12_isTaught 162 = .ok (.aload_n 0, 1) := by decide +kernel
theorem dX12_isTaught_163 : decode cX12_isTaught 163 = .ok (.getfield 7, 3) := by decide +kernel
theorem dX12_isTaught_166 : decode cX12_isTaught 166 = .ok (.bipush 90, 2) := by decide +kernel
theorem dX12_isTaught_168 : decode cX12_isTaught 168 = .ok (.bipush 6, 2) := by decide +kernel
theorem dX12_isTaught_170 : decode cX12_isTaught 170 = .ok (.iload_n 1, 1) := by decide +kernel
theorem dX12_isTaught_171 : decode cX12_isTaught 171 = .ok (.imul, 1) := by decide +kernel
theorem dX12_isTaught_172 : decode cX12_isTaught 172 = .ok (.iadd, 1) := by decide +kernel
theorem dX12_isTaught_173 : decode cX12_isTaught 173 = .ok (.iload 5, 2) := by decide +kernel
theorem dX12_isTaught_175 : decode cX12_isTaught 175 = .ok (.iadd, 1) := by decide +kernel
theorem dX12_isTaught_176 : decode cX12_isTaught 176 = .ok (.aload_n 0, 1) := by decide +kernel
theorem dX12_isTaught_177 : decode cX12_isTaught 177 = .ok (.getfield 65, 3) := by decide +kernel
theorem dX12_isTaught_180 : decode cX12_isTaught 180 = .ok (.iload 5, 2) := by decide +kernel
theorem dX12_isTaught_182 : decode cX12_isTaught 182 = .ok (.iaload, 1) := by decide +kernel
theorem dX12_isTaught_183 : decode cX12_isTaught 183 = .ok (.iastore, 1) := by decide +kernel
theorem dX12_isTaught_184 : decode cX12_isTaught 184 = .ok (.iinc 5 1, 3) := by decide +kernel
theorem dX12_isTaught_187 : decode cX12_isTaught 187 = .ok (.goto (-32), 3) := by decide +kernel
theorem dX12_isTaught_190 : decode cX12_isTaught 190 = .ok (.iload 4, 2) := by decide +kernel
theorem dX12_isTaught_192 : decode cX12_isTaught 192 = .ok (.ireturn, 1) := by decide +kernel
def m12_isTaught : pMT := (yX12_isTaught, cX12_isTaught, 6, some .boolean)
theorem mo12_isTaught : mOK m12_isTaught 3 := ⟨tb_i 1968 (by decide +kernel), wi_RX12, ⟨wn_RX12.1, wn_RX12.2, by decide +kernel⟩, by decide, plainFor_of_name wp_RX12⟩
theorem mv12_isTaught : mV m12_isTaught := ⟨tb_i 1967 (by decide +kernel), tb_p 137 (by decide +kernel)⟩
def f12_isTaught_c155 (n : Nat) (O : (Nat → Nat → Option Nat)) : Nat → (Nat → Nat → Int32) → (Nat → Nat → Int64) → Nat → Int32 → Int32 → Int32 → Option (Int32 × (Nat → Nat → Int32) × (Nat → Nat → Int64))
  | 0, _, _, _, _, _, _ => none
  | m + 1, I, L, b0, y1, y4, y5 => (if (6 : Int32) ≤ y5 then some (y4, I, L) else (if y5 < 0 ∨ 6 ≤ y5.toNatClampNeg then none else (if (((90 : Int32) + ((6 : Int32) * y1)) + y5) < 0 ∨ 4371 ≤ (((90 : Int32) + ((6 : Int32) * y1)) + y5).toNatClampNeg then none else bl (sI I (rO O b0 0) (((90 : Int32) + ((6 : Int32) * y1)) + y5).toNatClampNeg (I (rO O b0 32) y5.toNatClampNeg)) fun I6 => f12_isTaught_c155 n O m I6 L b0 y1 y4 (y5 + 1))))
set_option maxHeartbeats 4000000 in
set_option maxRecDepth 20000 in
theorem o12_isTaught_c155 {g : pG} {Qx : Option Value → pW → Prop} {Z : pZ} {O : (Nat → Nat → Option Nat)} {n : Nat} {res : Int32 × (Nat → Nat → Int32) × (Nat → Nat → Int64)} (d : Nat) (hW : WT Z O) (hQ : (res.1 = 0 ∨ res.1 = 1) → Qx (some (.int res.1)) (Z, res.2.1, res.2.2, O)) : ∀ (m : Nat) (I : (Nat → Nat → Int32)) (L : (Nat → Nat → Int64)) (b0 : Nat) (y1 : Int32) (y4 : Int32) (y5 : Int32), (Z[b0]? = some (12, 34)) → (y4 = 0 ∨ y4 = 1) → f12_isTaught_c155 n O m I L b0 y1 y4 y5 = some res → Ok g (d + 11, RX12, cX12_isTaught, 6, false, 0, 0, Z.length, pSl Z) Qx 155 [(0, .ref b0), (1, .int y1), (4, .int y4), (5, .int y5)] [] (Z, I, L, O) := by
  intro m
  induction m with
  | zero => intro I L b0 y1 y4 y5 hZ_b0 hz_y4 h; rw [f12_isTaught_c155] at h; cases h
  | succ m ih =>
    intro I L b0 y1 y4 y5 hZ_b0 hz_y4 h
    rw [f12_isTaught_c155] at h
    refine ok_iload dX12_isTaught_155 3 rfl ?_
    refine ok_bipush (v := 6) dX12_isTaught_157 (by decide) ?_
    refine ok_icmp_ge (t := 190) dX12_isTaught_159 (by decide) (fun hc1 => ?_) (fun hc1 => ?_)
    · have h := (if_pos hc1).symm.trans h
      refine ok_iload dX12_isTaught_190 2 rfl ?_
      cases h
      exact ok_iret dX12_isTaught_192 (hQ hz_y4)
    · have h := (if_neg hc1).symm.trans h
      refine ok_aload_n dX12_isTaught_162 0 rfl ?_
      have hT2 : Z[(rO O b0 0)]? = some (13, 4371) := (wt_f (ci := 12) (k := 0) hW hZ_b0 rfl).2
      refine ok_getR (ci := 12) (k := 0) dX12_isTaught_163 flRX12_7 rfl hW hZ_b0 (by decide) ?_
      refine ok_bipush (v := 90) dX12_isTaught_166 (by decide) ?_
      refine ok_bipush (v := 6) dX12_isTaught_168 (by decide) ?_
      refine ok_iload_n dX12_isTaught_170 1 rfl ?_
      refine ok_imul dX12_isTaught_171 ?_
      refine ok_iadd dX12_isTaught_172 ?_
      refine ok_iload dX12_isTaught_173 3 rfl ?_
      refine ok_iadd dX12_isTaught_175 ?_
      refine ok_aload_n dX12_isTaught_176 0 rfl ?_
      have hT3 : Z[(rO O b0 32)]? = some (13, 6) := (wt_f (ci := 12) (k := 32) hW hZ_b0 rfl).2
      refine ok_getR (ci := 12) (k := 32) dX12_isTaught_177 flRX12_65 rfl hW hZ_b0 (by decide) ?_
      refine ok_iload dX12_isTaught_180 3 rfl ?_
      obtain ⟨hg4, h⟩ := gd h
      refine ok_iald2 (N := y5.toNatClampNeg) dX12_isTaught_182 hT3 hg4 rfl ?_
      obtain ⟨hg5, h⟩ := gd h
      obtain ⟨I6, eI6, h⟩ := blE h
      refine ok_iast3 dX12_isTaught_183 hT2 hg5 rfl eI6 ?_
      refine ok_iinc (u := (y5 + 1)) (l' := [(5, .int (y5 + 1)), (0, .ref b0), (1, .int y1), (4, .int y4)]) dX12_isTaught_184 3 rfl rfl (Nat.le_of_ble_eq_true rfl) rfl ?_
      refine ok_goto (t := 155) dX12_isTaught_187 (by decide) ?_
      refine ok_sub [1, 2, 3, 0] rfl ?_
      exact ih I6 L b0 y1 y4 (y5 + 1) hZ_b0 hz_y4 h
def f12_isTaught_c47 (n : Nat) (O : (Nat → Nat → Option Nat)) (k33 : ((Nat → Nat → Int32) → (Nat → Nat → Int64) → Nat → Int32 → Int32 → Int32 → Int32 → Option (Int32 × (Nat → Nat → Int32) × (Nat → Nat → Int64)))) : Nat → (Nat → Nat → Int32) → (Nat → Nat → Int64) → Nat → Int32 → Int32 → Int32 → Int32 → Int32 → Option (Int32 × (Nat → Nat → Int32) × (Nat → Nat → Int64))
  | 0, _, _, _, _, _, _, _, _ => none
  | m + 1, I, L, b0, y1, y2, y3, y4, y5 => (if ((114 : Int32) + y4) < 0 ∨ 4371 ≤ ((114 : Int32) + y4).toNatClampNeg then none else (if (I (rO O b0 0) ((114 : Int32) + y4).toNatClampNeg) ≤ y5 then k33 I L b0 y1 y2 y3 (y4 + 1) else (f12_isHole I O b0 y4 y5).bind fun r4 => (if r4 = 0 then f12_isTaught_c47 n O k33 m I L b0 y1 y2 y3 y4 (y5 + 1) else (f12_keyOf I O b0 y4 y5).bind fun r7 => (f12_keyOf I O b0 y4 y5).bind fun r9 => (f12_heardBy I O b0 y1 r9).bind fun r11 => (f12_timesOf n y3 y4).bind fun r13 => (f12_cut (r11 + r13).toInt64 (0 : Int32) (99 : Int32)).bind fun r15 => (if (((90 : Int32) + ((6 : Int32) * y1)) + r7) < 0 ∨ 4371 ≤ (((90 : Int32) + ((6 : Int32) * y1)) + r7).toNatClampNeg then none else bl (sI I (rO O b0 0) (((90 : Int32) + ((6 : Int32) * y1)) + r7).toNatClampNeg r15) fun I18 => f12_isTaught_c47 n O k33 m I18 L b0 y1 y2 y3 y4 (y5 + 1)))))
set_option maxHeartbeats 4000000 in
set_option maxRecDepth 20000 in
theorem o12_isTaught_c47 {g : pG} {Qx : Option Value → pW → Prop} {Z : pZ} {O : (Nat → Nat → Option Nat)} {n : Nat} {k33 : ((Nat → Nat → Int32) → (Nat → Nat → Int64) → Nat → Int32 → Int32 → Int32 → Int32 → Option (Int32 × (Nat → Nat → Int32) × (Nat → Nat → Int64)))} {res : Int32 × (Nat → Nat → Int32) × (Nat → Nat → Int64)} (d : Nat) (hW : WT Z O) (hQ : (res.1 = 0 ∨ res.1 = 1) → Qx (some (.int res.1)) (Z, res.2.1, res.2.2, O)) (hk33 : ∀ (I : (Nat → Nat → Int32)) (L : (Nat → Nat → Int64)) (b0 : Nat) (y1 : Int32) (y2 : Int32) (y3 : Int32) (y4 : Int32), (Z[b0]? = some (12, 34)) → k33 I L b0 y1 y2 y3 y4 = some res → Ok g (d + 11, RX12, cX12_isTaught, 6, false, 0, 0, Z.length, pSl Z) Qx 33 [(0, .ref b0), (1, .int y1), (2, .int y2), (3, .int y3), (4, .int y4)] [] (Z, I, L, O)) : ∀ (m : Nat) (I : (Nat → Nat → Int32)) (L : (Nat → Nat → Int64)) (b0 : Nat) (y1 : Int32) (y2 : Int32) (y3 : Int32) (y4 : Int32) (y5 : Int32), (Z[b0]? = some (12, 34)) → f12_isTaught_c47 n O k33 m I L b0 y1 y2 y3 y4 y5 = some res → Ok g (d + 11, RX12, cX12_isTaught, 6, false, 0, 0, Z.length, pSl Z) Qx 47 [(0, .ref b0), (1, .int y1), (2, .int y2), (3, .int y3), (4, .int y4), (5, .int y5)] [] (Z, I, L, O) := by
  intro m
  induction m with
  | zero => intro I L b0 y1 y2 y3 y4 y5 hZ_b0 h; rw [f12_isTaught_c47] at h; cases h
  | succ m ih =>
    intro I L b0 y1 y2 y3 y4 y5 hZ_b0 h
    rw [f12_isTaught_c47] at h
    refine ok_iload dX12_isTaught_47 5 rfl ?_
    refine ok_aload_n dX12_isTaught_49 0 rfl ?_
    have hT1 : Z[(rO O b0 0)]? = some (13, 4371) := (wt_f (ci := 12) (k := 0) hW hZ_b0 rfl).2
    refine ok_getR (ci := 12) (k := 0) dX12_isTaught_50 flRX12_7 rfl hW hZ_b0 (by decide) ?_
    refine ok_bipush (v := 114) dX12_isTaught_53 (by decide) ?_
    refine ok_iload dX12_isTaught_55 4 rfl ?_
    refine ok_iadd dX12_isTaught_57 ?_
    obtain ⟨hg2, h⟩ := gd h
    refine ok_iald2 (N := ((114 : Int32) + y4).toNatClampNeg) dX12_isTaught_58 hT1 hg2 rfl ?_
    refine ok_icmp_ge (t := 127) dX12_isTaught_59 (by decide) (fun hc3 => ?_) (fun hc3 => ?_)
    · have h := (if_pos hc3).symm.trans h
      refine ok_iinc (u := (y4 + 1)) (l' := [(4, .int (y4 + 1)), (0, .ref b0), (1, .int y1), (2, .int y2), (3, .int y3), (5, .int y5)]) dX12_isTaught_127 4 rfl rfl (Nat.le_of_ble_eq_true rfl) rfl ?_
      refine ok_goto (t := 33) dX12_isTaught_130 (by decide) ?_
      refine ok_sub [1, 2, 3, 4, 0] rfl ?_
      exact hk33 I L b0 y1 y2 y3 (y4 + 1) hZ_b0 h
    · have h := (if_neg hc3).symm.trans h
      refine ok_aload_n dX12_isTaught_62 0 rfl ?_
      refine ok_iload dX12_isTaught_63 4 rfl ?_
      refine ok_iload dX12_isTaught_65 5 rfl ?_
      obtain ⟨r4, hr5, h⟩ := bd h
      refine ok_callV (d := ((d + 6) + 4)) (mt := m12_isHole) (mc := 0) (ms := 0) (As := [.int y4, .int y5]) (r := []) dX12_isTaught_67 mo12_isHole mv12_isHole lkRX12_331 rfl hZ_b0 (q := (RX12, TX12, 34)) rfl rfl rfl (Nat.le_of_ble_eq_true rfl) (by show _ + 1 ≤ d + _; omega) (Nat.le_refl _) (Nat.le_refl _) (pRt_mono ?_)
      refine k12_isHole (d + 6) hW hZ_b0 hr5 ?_
      intro hbr4
      show Ok g _ Qx 70 [(0, .ref b0), (1, .int y1), (2, .int y2), (3, .int y3), (4, .int y4), (5, .int y5)] [.int r4] (Z, I, L, O)
      refine ok_if_eq (t := 121) dX12_isTaught_70 (by decide) (fun hc6 => ?_) (fun hc6 => ?_)
      · have h := (if_pos hc6).symm.trans h
        refine ok_iinc (u := (y5 + 1)) (l' := [(5, .int (y5 + 1)), (0, .ref b0), (1, .int y1), (2, .int y2), (3, .int y3), (4, .int y4)]) dX12_isTaught_121 5 rfl rfl (Nat.le_of_ble_eq_true rfl) rfl ?_
        refine ok_goto (t := 47) dX12_isTaught_124 (by decide) ?_
        refine ok_sub [1, 2, 3, 4, 5, 0] rfl ?_
        exact ih I L b0 y1 y2 y3 y4 (y5 + 1) hZ_b0 h
      · have h := (if_neg hc6).symm.trans h
        refine ok_aload_n dX12_isTaught_73 0 rfl ?_
        refine ok_getR (ci := 12) (k := 0) dX12_isTaught_74 flRX12_7 rfl hW hZ_b0 (by decide) ?_
        refine ok_bipush (v := 90) dX12_isTaught_77 (by decide) ?_
        refine ok_bipush (v := 6) dX12_isTaught_79 (by decide) ?_
        refine ok_iload_n dX12_isTaught_81 1 rfl ?_
        refine ok_imul dX12_isTaught_82 ?_
        refine ok_iadd dX12_isTaught_83 ?_
        refine ok_aload_n dX12_isTaught_84 0 rfl ?_
        refine ok_iload dX12_isTaught_85 4 rfl ?_
        refine ok_iload dX12_isTaught_87 5 rfl ?_
        obtain ⟨r7, hr8, h⟩ := bd h
        refine ok_callV (d := ((d + 8) + 2)) (mt := m12_keyOf) (mc := 0) (ms := 0) (As := [.int y4, .int y5]) (r := [.int ((90 : Int32) + ((6 : Int32) * y1)), .ref (rO O b0 0)]) dX12_isTaught_89 mo12_keyOf mv12_keyOf lkRX12_87 rfl hZ_b0 (q := (RX12, TX12, 34)) rfl rfl rfl (Nat.le_of_ble_eq_true rfl) (by show _ + 1 ≤ d + _; omega) (Nat.le_refl _) (Nat.le_refl _) (pRt_mono ?_)
        refine k12_keyOf (d + 8) hW hZ_b0 hr8 ?_
        intro _
        show Ok g _ Qx 92 [(0, .ref b0), (1, .int y1), (2, .int y2), (3, .int y3), (4, .int y4), (5, .int y5)] [.int r7, .int ((90 : Int32) + ((6 : Int32) * y1)), .ref (rO O b0 0)] (Z, I, L, O)
        refine ok_iadd dX12_isTaught_92 ?_
        refine ok_aload_n dX12_isTaught_93 0 rfl ?_
        refine ok_iload_n dX12_isTaught_94 1 rfl ?_
        refine ok_aload_n dX12_isTaught_95 0 rfl ?_
        refine ok_iload dX12_isTaught_96 4 rfl ?_
        refine ok_iload dX12_isTaught_98 5 rfl ?_
        obtain ⟨r9, hr10, h⟩ := bd h
        refine ok_callV (d := ((d + 8) + 2)) (mt := m12_keyOf) (mc := 0) (ms := 0) (As := [.int y4, .int y5]) (r := [.int y1, .ref b0, .int (((90 : Int32) + ((6 : Int32) * y1)) + r7), .ref (rO O b0 0)]) dX12_isTaught_100 mo12_keyOf mv12_keyOf lkRX12_87 rfl hZ_b0 (q := (RX12, TX12, 34)) rfl rfl rfl (Nat.le_of_ble_eq_true rfl) (by show _ + 1 ≤ d + _; omega) (Nat.le_refl _) (Nat.le_refl _) (pRt_mono ?_)
        refine k12_keyOf (d + 8) hW hZ_b0 hr10 ?_
        intro _
        show Ok g _ Qx 103 [(0, .ref b0), (1, .int y1), (2, .int y2), (3, .int y3), (4, .int y4), (5, .int y5)] [.int r9, .int y1, .ref b0, .int (((90 : Int32) + ((6 : Int32) * y1)) + r7), .ref (rO O b0 0)] (Z, I, L, O)
        obtain ⟨r11, hr12, h⟩ := bd h
        refine ok_callV (d := ((d + 8) + 2)) (mt := m12_heardBy) (mc := 0) (ms := 0) (As := [.int y1, .int r9]) (r := [.int (((90 : Int32) + ((6 : Int32) * y1)) + r7), .ref (rO O b0 0)]) dX12_isTaught_103 mo12_heardBy mv12_heardBy lkRX12_306 rfl hZ_b0 (q := (RX12, TX12, 34)) rfl rfl rfl (Nat.le_of_ble_eq_true rfl) (by show _ + 1 ≤ d + _; omega) (Nat.le_refl _) (Nat.le_refl _) (pRt_mono ?_)
        refine k12_heardBy (d + 8) hW hZ_b0 hr12 ?_
        intro _
        show Ok g _ Qx 106 [(0, .ref b0), (1, .int y1), (2, .int y2), (3, .int y3), (4, .int y4), (5, .int y5)] [.int r11, .int (((90 : Int32) + ((6 : Int32) * y1)) + r7), .ref (rO O b0 0)] (Z, I, L, O)
        refine ok_iload_n dX12_isTaught_106 3 rfl ?_
        refine ok_iload dX12_isTaught_107 4 rfl ?_
        obtain ⟨r13, hr14, h⟩ := bd h
        refine ok_callS (d := ((d + 8) + 2)) (mt := m12_timesOf) (mc := 0) (ms := 0) (As := [.int y3, .int y4]) (r := [.int r11, .int (((90 : Int32) + ((6 : Int32) * y1)) + r7), .ref (rO O b0 0)]) dX12_isTaught_109 mo12_timesOf mv12_timesOf lkRX12_468 rfl rfl (Nat.le_of_ble_eq_true rfl) (by show _ + 1 ≤ d + _; omega) (Nat.le_refl _) (Nat.le_refl _) (pRt_mono ?_)
        refine k12_timesOf (d + 8) hW  hr14 ?_
        intro _
        show Ok g _ Qx 112 [(0, .ref b0), (1, .int y1), (2, .int y2), (3, .int y3), (4, .int y4), (5, .int y5)] [.int r13, .int r11, .int (((90 : Int32) + ((6 : Int32) * y1)) + r7), .ref (rO O b0 0)] (Z, I, L, O)
        refine ok_iadd dX12_isTaught_112 ?_
        refine ok_i2l dX12_isTaught_113 ?_
        refine ok_iconst (v := 0) dX12_isTaught_114 (by decide) ?_
        refine ok_bipush (v := 99) dX12_isTaught_115 (by decide) ?_
        obtain ⟨r15, hr16, h⟩ := bd h
        refine ok_callS (d := ((d + 8) + 2)) (mt := m12_cut) (mc := 0) (ms := 0) (As := [.long (r11 + r13).toInt64, .int 0, .int 99]) (r := [.int (((90 : Int32) + ((6 : Int32) * y1)) + r7), .ref (rO O b0 0)]) dX12_isTaught_117 mo12_cut mv12_cut lkRX12_302 rfl rfl (Nat.le_of_ble_eq_true rfl) (by show _ + 1 ≤ d + _; omega) (Nat.le_refl _) (Nat.le_refl _) (pRt_mono ?_)
        refine k12_cut (d + 8) hW  hr16 ?_
        intro _
        show Ok g _ Qx 120 [(0, .ref b0), (1, .int y1), (2, .int y2), (3, .int y3), (4, .int y4), (5, .int y5)] [.int r15, .int (((90 : Int32) + ((6 : Int32) * y1)) + r7), .ref (rO O b0 0)] (Z, I, L, O)
        obtain ⟨hg17, h⟩ := gd h
        obtain ⟨I18, eI18, h⟩ := blE h
        refine ok_iast3 dX12_isTaught_120 hT1 hg17 rfl eI18 ?_
        refine ok_iinc (u := (y5 + 1)) (l' := [(5, .int (y5 + 1)), (0, .ref b0), (1, .int y1), (2, .int y2), (3, .int y3), (4, .int y4)]) dX12_isTaught_121 5 rfl rfl (Nat.le_of_ble_eq_true rfl) rfl ?_
        refine ok_goto (t := 47) dX12_isTaught_124 (by decide) ?_
        refine ok_sub [1, 2, 3, 4, 5, 0] rfl ?_
        exact ih I18 L b0 y1 y2 y3 y4 (y5 + 1) hZ_b0 h
def f12_isTaught_c33 (n : Nat) (O : (Nat → Nat → Option Nat)) : Nat → (Nat → Nat → Int32) → (Nat → Nat → Int64) → Nat → Int32 → Int32 → Int32 → Int32 → Option (Int32 × (Nat → Nat → Int32) × (Nat → Nat → Int64))
  | 0, _, _, _, _, _, _, _ => none
  | m + 1, I, L, b0, y1, y2, y3, y4 => (if (I (rO O b0 0) 0) ≤ y4 then (f12_learnt n I L O b0 y1).bind fun r3 => (if (y2 &&& (r3.1 ^^^ (-1))) = 0 then f12_isTaught_c155 n O n r3.2.1 r3.2.2 b0 y1 (1 : Int32) (0 : Int32) else f12_isTaught_c155 n O n r3.2.1 r3.2.2 b0 y1 (0 : Int32) (0 : Int32)) else f12_isTaught_c47 n O (f12_isTaught_c33 n O m) n I L b0 y1 y2 y3 y4 (0 : Int32))
set_option maxHeartbeats 4000000 in
set_option maxRecDepth 20000 in
theorem o12_isTaught_c33 {g : pG} {Qx : Option Value → pW → Prop} {Z : pZ} {O : (Nat → Nat → Option Nat)} {n : Nat} {res : Int32 × (Nat → Nat → Int32) × (Nat → Nat → Int64)} (d : Nat) (hW : WT Z O) (hQ : (res.1 = 0 ∨ res.1 = 1) → Qx (some (.int res.1)) (Z, res.2.1, res.2.2, O)) : ∀ (m : Nat) (I : (Nat → Nat → Int32)) (L : (Nat → Nat → Int64)) (b0 : Nat) (y1 : Int32) (y2 : Int32) (y3 : Int32) (y4 : Int32), (Z[b0]? = some (12, 34)) → f12_isTaught_c33 n O m I L b0 y1 y2 y3 y4 = some res → Ok g (d + 11, RX12, cX12_isTaught, 6, false, 0, 0, Z.length, pSl Z) Qx 33 [(0, .ref b0), (1, .int y1), (2, .int y2), (3, .int y3), (4, .int y4)] [] (Z, I, L, O) := by
  intro m
  induction m with
  | zero => intro I L b0 y1 y2 y3 y4 hZ_b0 h; rw [f12_isTaught_c33] at h; cases h
  | succ m ih =>
    intro I L b0 y1 y2 y3 y4 hZ_b0 h
    rw [f12_isTaught_c33] at h
    refine ok_iload dX12_isTaught_33 4 rfl ?_
    refine ok_aload_n dX12_isTaught_35 0 rfl ?_
    have hT1 : Z[(rO O b0 0)]? = some (13, 4371) := (wt_f (ci := 12) (k := 0) hW hZ_b0 rfl).2
    refine ok_getR (ci := 12) (k := 0) dX12_isTaught_36 flRX12_7 rfl hW hZ_b0 (by decide) ?_
    refine ok_iconst (v := 0) dX12_isTaught_39 (by decide) ?_
    refine ok_iald2 (N := 0) dX12_isTaught_40 hT1 (by unfold vp_in; decide) (by decide) ?_
    refine ok_icmp_ge (t := 133) dX12_isTaught_41 (by decide) (fun hc2 => ?_) (fun hc2 => ?_)
    · have h := (if_pos hc2).symm.trans h
      refine ok_iload_n dX12_isTaught_133 2 rfl ?_
      refine ok_aload_n dX12_isTaught_134 0 rfl ?_
      refine ok_iload_n dX12_isTaught_135 1 rfl ?_
      obtain ⟨r3, hr4, h⟩ := bd h
      refine ok_callV (d := ((d + 0) + 10)) (mt := m12_learnt) (mc := 0) (ms := 0) (As := [.int y1]) (r := [.int y2]) dX12_isTaught_136 mo12_learnt mv12_learnt lkRX12_395 rfl hZ_b0 (q := (RX12, TX12, 34)) rfl rfl rfl (Nat.le_of_ble_eq_true rfl) (by show _ + 1 ≤ d + _; omega) (Nat.le_refl _) (Nat.le_refl _) (pRt_mono ?_)
      refine k12_learnt (d + 0) hW hZ_b0 hr4 ?_
      intro _
      show Ok g _ Qx 139 [(0, .ref b0), (1, .int y1), (2, .int y2), (3, .int y3), (4, .int y4)] [.int r3.1, .int y2] (Z, r3.2.1, r3.2.2, O)
      refine ok_iconst (v := (-1)) dX12_isTaught_139 (by decide) ?_
      refine ok_ixor dX12_isTaught_140 ?_
      refine ok_iand dX12_isTaught_141 ?_
      refine ok_if_ne (t := 149) dX12_isTaught_142 (by decide) (fun hc5 => ?_) (fun hc5 => ?_)
      · have h := (if_neg hc5).symm.trans h
        refine ok_iconst (v := 0) dX12_isTaught_149 (by decide) ?_
        refine ok_istore (l' := [(4, .int 0), (0, .ref b0), (1, .int y1), (2, .int y2), (3, .int y3)]) dX12_isTaught_150 (Nat.le_of_ble_eq_true rfl) rfl ?_
        refine ok_iconst (v := 0) dX12_isTaught_152 (by decide) ?_
        refine ok_istore (l' := [(5, .int 0), (4, .int 0), (0, .ref b0), (1, .int y1), (2, .int y2), (3, .int y3)]) dX12_isTaught_153 (Nat.le_of_ble_eq_true rfl) rfl ?_
        refine ok_sub [2, 3, 1, 0] rfl ?_
        exact o12_isTaught_c155 d hW hQ  n r3.2.1 r3.2.2 b0 y1 (0 : Int32) (0 : Int32) hZ_b0 (Or.inl rfl) h
      · have h := (if_pos hc5).symm.trans h
        refine ok_iconst (v := 1) dX12_isTaught_145 (by decide) ?_
        refine ok_goto (t := 150) dX12_isTaught_146 (by decide) ?_
        refine ok_istore (l' := [(4, .int 1), (0, .ref b0), (1, .int y1), (2, .int y2), (3, .int y3)]) dX12_isTaught_150 (Nat.le_of_ble_eq_true rfl) rfl ?_
        refine ok_iconst (v := 0) dX12_isTaught_152 (by decide) ?_
        refine ok_istore (l' := [(5, .int 0), (4, .int 1), (0, .ref b0), (1, .int y1), (2, .int y2), (3, .int y3)]) dX12_isTaught_153 (Nat.le_of_ble_eq_true rfl) rfl ?_
        refine ok_sub [2, 3, 1, 0] rfl ?_
        exact o12_isTaught_c155 d hW hQ  n r3.2.1 r3.2.2 b0 y1 (1 : Int32) (0 : Int32) hZ_b0 (Or.inr rfl) h
    · have h := (if_neg hc2).symm.trans h
      refine ok_iconst (v := 0) dX12_isTaught_44 (by decide) ?_
      refine ok_istore (l' := [(5, .int 0), (0, .ref b0), (1, .int y1), (2, .int y2), (3, .int y3), (4, .int y4)]) dX12_isTaught_45 (Nat.le_of_ble_eq_true rfl) rfl ?_
      refine ok_sub [1, 2, 3, 4, 5, 0] rfl ?_
      exact o12_isTaught_c47 d hW hQ ih n I L b0 y1 y2 y3 y4 (0 : Int32) hZ_b0 h
def f12_isTaught_c3 (n : Nat) (O : (Nat → Nat → Option Nat)) : Nat → (Nat → Nat → Int32) → (Nat → Nat → Int64) → Nat → Int32 → Int32 → Int32 → Int32 → Option (Int32 × (Nat → Nat → Int32) × (Nat → Nat → Int64))
  | 0, _, _, _, _, _, _, _ => none
  | m + 1, I, L, b0, y1, y2, y3, y4 => (if (6 : Int32) ≤ y4 then f12_isTaught_c33 n O n I L b0 y1 y2 y3 (0 : Int32) else (f12_heardBy I O b0 y1 y4).bind fun r3 => (if y4 < 0 ∨ 6 ≤ y4.toNatClampNeg then none else bl (sI I (rO O b0 32) y4.toNatClampNeg r3) fun I6 => f12_isTaught_c3 n O m I6 L b0 y1 y2 y3 (y4 + 1)))
set_option maxHeartbeats 4000000 in
set_option maxRecDepth 20000 in
theorem o12_isTaught_c3 {g : pG} {Qx : Option Value → pW → Prop} {Z : pZ} {O : (Nat → Nat → Option Nat)} {n : Nat} {res : Int32 × (Nat → Nat → Int32) × (Nat → Nat → Int64)} (d : Nat) (hW : WT Z O) (hQ : (res.1 = 0 ∨ res.1 = 1) → Qx (some (.int res.1)) (Z, res.2.1, res.2.2, O)) : ∀ (m : Nat) (I : (Nat → Nat → Int32)) (L : (Nat → Nat → Int64)) (b0 : Nat) (y1 : Int32) (y2 : Int32) (y3 : Int32) (y4 : Int32), (Z[b0]? = some (12, 34)) → f12_isTaught_c3 n O m I L b0 y1 y2 y3 y4 = some res → Ok g (d + 11, RX12, cX12_isTaught, 6, false, 0, 0, Z.length, pSl Z) Qx 3 [(0, .ref b0), (1, .int y1), (2, .int y2), (3, .int y3), (4, .int y4)] [] (Z, I, L, O) := by
  intro m
  induction m with
  | zero => intro I L b0 y1 y2 y3 y4 hZ_b0 h; rw [f12_isTaught_c3] at h; cases h
  | succ m ih =>
    intro I L b0 y1 y2 y3 y4 hZ_b0 h
    rw [f12_isTaught_c3] at h
    refine ok_iload dX12_isTaught_3 4 rfl ?_
    refine ok_bipush (v := 6) dX12_isTaught_5 (by decide) ?_
    refine ok_icmp_ge (t := 30) dX12_isTaught_7 (by decide) (fun hc1 => ?_) (fun hc1 => ?_)
    · have h := (if_pos hc1).symm.trans h
      refine ok_iconst (v := 0) dX12_isTaught_30 (by decide) ?_
      refine ok_istore (l' := [(4, .int 0), (0, .ref b0), (1, .int y1), (2, .int y2), (3, .int y3)]) dX12_isTaught_31 (Nat.le_of_ble_eq_true rfl) rfl ?_
      refine ok_sub [1, 2, 3, 4, 0] rfl ?_
      exact o12_isTaught_c33 d hW hQ  n I L b0 y1 y2 y3 (0 : Int32) hZ_b0 h
    · have h := (if_neg hc1).symm.trans h
      refine ok_aload_n dX12_isTaught_10 0 rfl ?_
      have hT2 : Z[(rO O b0 32)]? = some (13, 6) := (wt_f (ci := 12) (k := 32) hW hZ_b0 rfl).2
      refine ok_getR (ci := 12) (k := 32) dX12_isTaught_11 flRX12_65 rfl hW hZ_b0 (by decide) ?_
      refine ok_iload dX12_isTaught_14 4 rfl ?_
      refine ok_aload_n dX12_isTaught_16 0 rfl ?_
      refine ok_iload_n dX12_isTaught_17 1 rfl ?_
      refine ok_iload dX12_isTaught_18 4 rfl ?_
      obtain ⟨r3, hr4, h⟩ := bd h
      refine ok_callV (d := ((d + 8) + 2)) (mt := m12_heardBy) (mc := 0) (ms := 0) (As := [.int y1, .int y4]) (r := [.int y4, .ref (rO O b0 32)]) dX12_isTaught_20 mo12_heardBy mv12_heardBy lkRX12_306 rfl hZ_b0 (q := (RX12, TX12, 34)) rfl rfl rfl (Nat.le_of_ble_eq_true rfl) (by show _ + 1 ≤ d + _; omega) (Nat.le_refl _) (Nat.le_refl _) (pRt_mono ?_)
      refine k12_heardBy (d + 8) hW hZ_b0 hr4 ?_
      intro _
      show Ok g _ Qx 23 [(0, .ref b0), (1, .int y1), (2, .int y2), (3, .int y3), (4, .int y4)] [.int r3, .int y4, .ref (rO O b0 32)] (Z, I, L, O)
      obtain ⟨hg5, h⟩ := gd h
      obtain ⟨I6, eI6, h⟩ := blE h
      refine ok_iast3 dX12_isTaught_23 hT2 hg5 rfl eI6 ?_
      refine ok_iinc (u := (y4 + 1)) (l' := [(4, .int (y4 + 1)), (0, .ref b0), (1, .int y1), (2, .int y2), (3, .int y3)]) dX12_isTaught_24 4 rfl rfl (Nat.le_of_ble_eq_true rfl) rfl ?_
      refine ok_goto (t := 3) dX12_isTaught_27 (by decide) ?_
      refine ok_sub [1, 2, 3, 4, 0] rfl ?_
      exact ih I6 L b0 y1 y2 y3 (y4 + 1) hZ_b0 h
def f12_isTaught (n : Nat) (I : (Nat → Nat → Int32)) (L : (Nat → Nat → Int64)) (O : (Nat → Nat → Option Nat)) (a0 : Nat) (x1 : Int32) (x2 : Int32) (x3 : Int32) : Option (Int32 × (Nat → Nat → Int32) × (Nat → Nat → Int64)) := f12_isTaught_c3 n O n I L a0 x1 x2 x3 (0 : Int32)
set_option maxHeartbeats 4000000 in
set_option maxRecDepth 20000 in
theorem o12_isTaught {g : pG} {Qx : Option Value → pW → Prop} {Z : pZ} {I : (Nat → Nat → Int32)} {L : (Nat → Nat → Int64)} {O : (Nat → Nat → Option Nat)} {n : Nat} {a0 : Nat} {x1 : Int32} {x2 : Int32} {x3 : Int32} {res : Int32 × (Nat → Nat → Int32) × (Nat → Nat → Int64)} (d : Nat) (hW : WT Z O) (hZ0 : Z[a0]? = some (12, 34)) (h : f12_isTaught n I L O a0 x1 x2 x3 = some res) (hQ : (res.1 = 0 ∨ res.1 = 1) → Qx (some (.int res.1)) (Z, res.2.1, res.2.2, O)) : Ok g (d + 11, RX12, cX12_isTaught, 6, false, 0, 0, Z.length, pSl Z) Qx 0 [(0, .ref a0), (1, .int x1), (2, .int x2), (3, .int x3)] [] (Z, I, L, O) := by
  unfold f12_isTaught at h
  refine ok_iconst (v := 0) dX12_isTaught_0 (by decide) ?_
  refine ok_istore (l' := [(4, .int 0), (0, .ref a0), (1, .int x1), (2, .int x2), (3, .int x3)]) dX12_isTaught_1 (Nat.le_of_ble_eq_true rfl) rfl ?_
  refine ok_sub [1, 2, 3, 4, 0] rfl ?_
  exact o12_isTaught_c3 d hW hQ  n I L a0 x1 x2 x3 (0 : Int32) hZ0 h
theorem k12_isTaught {g : pG} {Q : Option Value → pW → Prop} {Z : pZ} {I : (Nat → Nat → Int32)} {L : (Nat → Nat → Int64)} {O : (Nat → Nat → Option Nat)} {n : Nat} {a0 : Nat} {x1 : Int32} {x2 : Int32} {x3 : Int32} {res : Int32 × (Nat → Nat → Int32) × (Nat → Nat → Int64)} (d : Nat) (hW : WT Z O) (hZ0 : Z[a0]? = some (12, 34)) (h : f12_isTaught n I L O a0 x1 x2 x3 = some res) (hQ : Q (some (.int res.1)) (Z, res.2.1, res.2.2, O)) : CT g (d + 11) m12_isTaught 0 0 [.ref a0, .int x1, .int x2, .int x3] (Z, I, L, O) Q :=
  ct_of_ok (mt := m12_isTaught) (ini := false) mo12_isTaught.2.2.2.2 (fun h => by cases h) (Nat.le_of_ble_eq_true rfl) (o12_isTaught d hW hZ0 h (fun hb => ⟨hb, hQ, rfl, rfl⟩))
theorem dX12_teaches_0 : decode cX12_teaches 0 = .ok (.aload_n 0, 1) := by decide +kernel
theorem dX12_teaches_1 : decode cX12_teaches 1 = .ok (.iload_n 1, 1) := by decide +kernel
theorem dX12_teaches_2 : decode cX12_teaches 2 = .ok (.invokevirtual 353, 3) := by decide +kernel
theorem dX12_teaches_5 : decode cX12_teaches 5 = .ok (.ifCond .eq 36, 3) := by decide +kernel
theorem dX12_teaches_8 : decode cX12_teaches 8 = .ok (.iload_n 2, 1) := by decide +kernel
theorem dX12_teaches_9 : decode cX12_teaches 9 = .ok (.iconst 0, 1) := by decide +kernel
theorem dX12_teaches_10 : decode cX12_teaches 10 = .ok (.bipush 62, 2) := by decide +kernel
theorem dX12_teaches_12 : decode cX12_teaches 12 = .ok (.invokestatic 75, 3) := by decide +kernel
theorem dX12_teaches_15 : decode cX12_teaches 15 = .ok (.ifCond .eq 26, 3) := by decide +kernel
theorem dX12_teaches_18 : decode cX12_teaches 18 = .ok (.iload_n 2, 1) := by decide +kernel
theorem dX12_teaches_19 : decode cX12_teaches 19 = .ok (.iconst 2, 1) := by decide +kernel
theorem dX12_teaches_20 : decode cX12_teaches 20 = .ok (.irem, 1) := by decide +kernel
theorem dX12_teaches_21 : decode cX12_teaches 21 = .ok (.iconst 1, 1) := by decide +kernel
theorem dX12_teaches_22 : decode cX12_teaches 22 = .ok (.if_icmp .eq 19, 3) := by decide +kernel
theorem dX12_teaches_25 : decode cX12_teaches 25 = .ok (.iload_n 3, 1) := by decide +kernel
theorem dX12_teaches_26 : decode cX12_teaches 26 = .ok (.iconst (-1), 1) := by decide +kernel
theorem dX12_teaches_27 : decode cX12_teaches 27 = .ok (.aload_n 0, 1) := by decide +kernel
theorem dX12_teaches_28 : decode cX12_teaches 28 = .ok (.getfield 7, 3) := by decide +kernel
theorem dX12_teaches_31 : decode cX12_teaches 31 = .ok (.iconst 0, 1) := by decide +kernel
theorem dX12_teaches_32 : decode cX12_teaches 32 = .ok (.iaload, 1) := by decide +kernel
theorem dX12_teaches_33 : decode cX12_teaches 33 = .ok (.iconst 1, 1) := by decide +kernel
theorem dX12_teaches_34 : decode cX12_teaches 34 = .ok (.isub, 1) := by decide +kernel
theorem dX12_teaches_35 : decode cX12_teaches 35 = .ok (.invokestatic 75, 3) := by decide +kernel
theorem dX12_teaches_38 : decode cX12_teaches 38 = .ok (.ifCond .ne 6, 3) := by decide +kernel
theorem dX12_teaches_41 : decode cX12_teaches 41 = .ok (.bipush (-2), 2) := by decide +kernel
theorem dX12_teaches_43 : decode cX12_teaches 43 = .ok (.ireturn, 1) := by decide +kernel
theorem dX12_teaches_44 : decode cX12_teaches 44 = .ok (.iconst 1, 1) := by decide +kernel
theorem dX12_teaches_45 : decode cX12_teaches 45 = .ok (.istore 4, 2) := by decide +kernel
theorem dX12_teaches_47 : decode cX12_teaches 47 = .ok (.iconst 0, 1) := by decide +kernel
theorem dX12_teaches_48 : decode cX12_teaches 48 = .ok (.istore 5, 2) := by decide +kernel
theorem dX12_teaches_50 : decode cX12_teaches 50 = .ok (.iload 5, 2) := by decide +kernel
theorem dX12_teaches_52 : decode cX12_teaches 52 = .ok (.iconst 5, 1) := by decide +kernel
theorem dX12_teaches_53 : decode cX12_teaches 53 = .ok (.if_icmp .ge 16, 3) := by decide +kernel
theorem dX12_teaches_56 : decode cX12_teaches 56 = .ok (.iload 4, 2) := by decide +kernel
theorem dX12_teaches_58 : decode cX12_teaches 58 = .ok (.bipush 9, 2) := by decide +kernel
theorem dX12_teaches_60 : decode cX12_teaches 60 = .ok (.imul, 1) := by decide +kernel
theorem dX12_teaches_61 : decode cX12_teaches 61 = .ok (.istore 4, 2) := by decide +kernel
theorem dX12_teaches_63 : decode cX12_teaches 63 = .ok (.iinc 5 1, 3) := by decide +kernel
theorem dX12_teaches_66 : decode cX12_teaches 66 = .ok (.goto (-16), 3) := by decide +kernel
theorem dX12_teaches_69 : decode cX12_teaches 69 = .ok (.iconst 1, 1) := by decide +kernel
theorem dX12_teaches_70 : decode cX12_teaches 70 = .ok (.istore 5, 2) := by decide +kernel
theorem dX12_teaches_72 : decode cX12_teaches 72 = .ok (.aload_n 0, 1) := by decide +kernel
theorem dX12_teaches_73 : decode cX12_teaches 73 = .ok (.getfield 7, 3) := by decide +kernel
theorem dX12_teaches_76 : decode cX12_teaches 76 = .ok (.iconst 0, 1) := by decide +kernel
theorem dX12_teaches_77 : decode cX12_teaches 77 = .ok (.iaload, 1) := by decide +kernel
theorem dX12_teaches_78 : decode cX12_teaches 78 = .ok (.istore 6, 2) := by decide +kernel
theorem dX12_teaches_80 : decode cX12_teaches 80 = .ok (.iload 6, 2) := by decide +kernel
theorem dX12_teaches_82 : decode cX12_teaches 82 = .ok (.iconst 5, 1) := by decide +kernel
theorem dX12_teaches_83 : decode cX12_teaches 83 = .ok (.if_icmp .ge 16, 3) := by decide +kernel
theorem dX12_teaches_86 : decode cX12_teaches 86 = .ok (.iload 5, 2) := by decide +kernel
theorem dX12_teaches_88 : decode cX12_teaches 88 = .ok (.bipush 9, 2) := by decide +kernel
theorem dX12_teaches_90 : decode cX12_teaches 90 = .ok (.imul, 1) := by decide +kernel
theorem dX12_teaches_91 : decode cX12_teaches 91 = .ok (.istore 5, 2) := by decide +kernel
theorem dX12_teaches_93 : decode cX12_teaches 93 = .ok (.iinc 6 1, 3) := by decide +kernel
theorem dX12_teaches_96 : decode cX12_teaches 96 = .ok (.goto (-16), 3) := by decide +kernel
theorem dX12_teaches_99 : decode cX12_teaches 99 = .ok (.iconst (-1), 1) := by decide +kernel
theorem dX12_teaches_100 : decode cX12_teaches 100 = .ok (.istore 6, 2) := by decide +kernel
theorem dX12_teaches_102 : decode cX12_teaches 102 = .ok (.iconst 0, 1) := by decide +kernel
theorem dX12_teaches_103 : decode cX12_teaches 103 = .ok (.istore 7, 2) := by decide +kernel
theorem dX12_teaches_105 : decode cX12_teaches 105 = .ok (.iload 7, 2) := by decide +kernel
theorem dX12_teaches_107 : decode cX12_teaches 107 = .ok (.iload 4, 2) := by decide +kernel
theorem dX12_teaches_109 : decode cX12_teaches 109 = .ok (.if_icmp .ge 63, 3) := by decide +kernel
theorem dX12_teaches_112 : decode cX12_teaches 112 = .ok (.aload_n 0, 1) := by decide +kernel
theorem dX12_teaches_113 : decode cX12_teaches 113 = .ok (.iload 7, 2) := by decide +kernel
theorem dX12_teaches_115 : decode cX12_teaches 115 = .ok (.invokevirtual 471, 3) := by decide +kernel
theorem dX12_teaches_118 : decode cX12_teaches 118 = .ok (.istore 8, 2) := by decide +kernel
theorem dX12_teaches_120 : decode cX12_teaches 120 = .ok (.iload 8, 2) := by decide +kernel
theorem dX12_teaches_122 : decode cX12_teaches 122 = .ok (.bipush 8, 2) := by decide +kernel
theorem dX12_teaches_124 : decode cX12_teaches 124 = .ok (.if_icmp .gt 38, 3) := by decide +kernel
theorem dX12_teaches_127 : decode cX12_teaches 127 = .ok (.iload 6, 2) := by decide +kernel
theorem dX12_teaches_129 : decode cX12_teaches 129 = .ok (.iconst (-1), 1) := by decide +kernel
theorem dX12_teaches_130 : decode cX12_teaches 130 = .ok (.if_icmp .eq 14, 3) := by decide +kernel
theorem dX12_teaches_133 : decode cX12_teaches 133 = .ok (.iload 8, 2) := by decide +kernel
theorem dX12_teaches_135 : decode cX12_teaches 135 = .ok (.aload_n 0, 1) := by decide +kernel
theorem dX12_teaches_136 : decode cX12_teaches 136 = .ok (.iload 6, 2) := by decide +kernel
theorem dX12_teaches_138 : decode cX12_teaches 138 = .ok (.invokevirtual 471, 3) := by decide +kernel
theorem dX12_teaches_141 : decode cX12_teaches 141 = .ok (.if_icmp .gt 21, 3) := by decide +kernel
theorem dX12_teaches_144 : decode cX12_teaches 144 = .ok (.aload_n 0, 1) := by decide +kernel
theorem dX12_teaches_145 : decode cX12_teaches 145 = .ok (.iload_n 1, 1) := by decide +kernel
theorem dX12_teaches_146 : decode cX12_teaches 146 = .ok (.iload_n 2, 1) := by decide +kernel
theorem dX12_teaches_147 : decode cX12_teaches 147 = .ok (.iload 7, 2) := by decide +kernel
theorem dX12_teaches_149 : decode cX12_teaches 149 = .ok (.invokevirtual 474, 3) := by decide +kernel
theorem dX12_teaches_152 : decode cX12_teaches 152 = .ok (.ifCond .ne 6, 3) := by decide +kernel
theorem dX12_teaches_155 : decode cX12_teaches 155 = .ok (.goto 7, 3) := by decide +kernel
theorem dX12_teaches_158 : decode cX12_teaches 158 = .ok (.iload 7, 2) := by decide +kernel
theorem dX12_teaches_160 : decode cX12_teaches 160 = .ok (.istore 6, 2) := by decide +kernel
theorem dX12_teaches_162 : decode cX12_teaches 162 = .ok (.iload 7, 2) := by decide +kernel
theorem dX12_teaches_164 : decode cX12_teaches 164 = .ok (.iload 5, 2) := by decide +kernel
theorem dX12_teaches_166 : decode cX12_teaches 166 = .ok (.iadd, 1) := by decide +kernel
theorem dX12_teaches_167 : decode cX12_teaches 167 = .ok (.istore 7, 2) := by decide +kernel
theorem dX12_teaches_169 : decode cX12_teaches 169 = .ok (.goto (-64), 3) := by decide +kernel
theorem dX12_teaches_172 : decode cX12_teaches 172 = .ok (.iload 6, 2) := by decide +kernel
theorem dX12_teaches_174 : decode cX12_teaches 174 = .ok (.iconst (-1), 1) := by decide +kernel
theorem dX12_teaches_175 : decode cX12_teaches 175 = .ok (.if_icmp .ne 8, 3) := by decide +kernel
theorem dX12_teaches_178 : decode cX12_teaches 178 = .ok (.bipush (-2), 2) := by decide +kernel
theorem dX12_teaches_180 : decode cX12_teaches 180 = .ok (.goto 23, 3) := by decide +kernel
theorem dX12_teaches_183 : decode cX12_teaches 183 = .ok (.iload_n 3, 1) := by decide +kernel
theorem dX12_teaches_184 : decode cX12_teaches 184 = .ok (.iconst (-1), 1) := by decide +kernel
theorem dX12_teaches_185 : decode cX12_teaches 185 = .ok (.if_icmp .ne 12, 3) := by decide +kernel
theorem dX12_teaches_188 : decode cX12_teaches 188 = .ok (.aload_n 0, 1) := by decide +kernel
theorem dX12_teaches_189 : decode cX12_teaches 189 = .ok (.iload 6, 2) := by decide +kernel
theorem dX12_teaches_191 : decode cX12_teaches 191 = .ok (.invokevirtual 471, 3) := by decide +kernel
theorem dX12_teaches_194 : decode cX12_teaches 194 = .ok (.goto 9, 3) := by decide +kernel
theorem dX12_teaches_197 : decode cX12_teaches 197 = .ok (.iload 6, 2) := by decide +kernel
theorem dX12_teaches_199 : decode cX12_teaches 199 = .ok (.iload_n 3, 1) := by decide +kernel
theorem dX12_teaches_200 : decode cX12_teaches 200 = .ok (.invokestatic 468, 3) := by decide +kernel
theorem dX12_teaches_203 : decode cX12_teaches 203 = .ok (.ireturn, 1) := by decide +kernel
def m12_teaches : pMT := (yX12_teaches, cX12_teaches, 9, some .int)
theorem mo12_teaches : mOK m12_teaches 3 := ⟨tb_i 1957 (by decide +kernel), wi_RX12, ⟨wn_RX12.1, wn_RX12.2, by decide +kernel⟩, by decide, plainFor_of_name wp_RX12⟩
theorem mv12_teaches : mV m12_teaches := ⟨tb_i 1955 (by decide +kernel), tb_i 1956 (by decide +kernel)⟩
def f12_teaches_c144 (n : Nat) (O : (Nat → Nat → Option Nat)) (k105 : ((Nat → Nat → Int32) → (Nat → Nat → Int64) → Nat → Int32 → Int32 → Int32 → Int32 → Int32 → Int32 → Int32 → Option (Int32 × (Nat → Nat → Int32) × (Nat → Nat → Int64)))) (I : (Nat → Nat → Int32)) (L : (Nat → Nat → Int64)) (b0 : Nat) (y1 : Int32) (y2 : Int32) (y3 : Int32) (y4 : Int32) (y5 : Int32) (y6 : Int32) (y7 : Int32) : Option (Int32 × (Nat → Nat → Int32) × (Nat → Nat → Int64)) := (f12_isTaught n I L O b0 y1 y2 y7).bind fun r1 => (if r1.1 = 0 then k105 r1.2.1 r1.2.2 b0 y1 y2 y3 y4 y5 y6 (y7 + y5) else k105 r1.2.1 r1.2.2 b0 y1 y2 y3 y4 y5 y7 (y7 + y5))
set_option maxHeartbeats 4000000 in
set_option maxRecDepth 20000 in
theorem o12_teaches_c144 {g : pG} {Qx : Option Value → pW → Prop} {Z : pZ} {O : (Nat → Nat → Option Nat)} {n : Nat} {k105 : ((Nat → Nat → Int32) → (Nat → Nat → Int64) → Nat → Int32 → Int32 → Int32 → Int32 → Int32 → Int32 → Int32 → Option (Int32 × (Nat → Nat → Int32) × (Nat → Nat → Int64)))} {res : Int32 × (Nat → Nat → Int32) × (Nat → Nat → Int64)} (d : Nat) (hW : WT Z O) (hQ : Qx (some (.int res.1)) (Z, res.2.1, res.2.2, O)) (hk105 : ∀ (I : (Nat → Nat → Int32)) (L : (Nat → Nat → Int64)) (b0 : Nat) (y1 : Int32) (y2 : Int32) (y3 : Int32) (y4 : Int32) (y5 : Int32) (y6 : Int32) (y7 : Int32), (Z[b0]? = some (12, 34)) → k105 I L b0 y1 y2 y3 y4 y5 y6 y7 = some res → Ok g (d + 12, RX12, cX12_teaches, 9, false, 0, 0, Z.length, pSl Z) Qx 105 [(0, .ref b0), (1, .int y1), (2, .int y2), (3, .int y3), (4, .int y4), (5, .int y5), (6, .int y6), (7, .int y7)] [] (Z, I, L, O)) (I : (Nat → Nat → Int32)) (L : (Nat → Nat → Int64)) (b0 : Nat) (y1 : Int32) (y2 : Int32) (y3 : Int32) (y4 : Int32) (y5 : Int32) (y6 : Int32) (y7 : Int32) (hZ_b0 : Z[b0]? = some (12, 34)) (h : f12_teaches_c144 n O k105 I L b0 y1 y2 y3 y4 y5 y6 y7 = some res) : Ok g (d + 12, RX12, cX12_teaches, 9, false, 0, 0, Z.length, pSl Z) Qx 144 [(0, .ref b0), (1, .int y1), (2, .int y2), (3, .int y3), (4, .int y4), (5, .int y5), (6, .int y6), (7, .int y7)] [] (Z, I, L, O) := by
  unfold f12_teaches_c144 at h
  refine ok_aload_n dX12_teaches_144 0 rfl ?_
  refine ok_iload_n dX12_teaches_145 1 rfl ?_
  refine ok_iload_n dX12_teaches_146 2 rfl ?_
  refine ok_iload dX12_teaches_147 7 rfl ?_
  obtain ⟨r1, hr2, h⟩ := bd h
  refine ok_callV (d := ((d + 0) + 11)) (mt := m12_isTaught) (mc := 0) (ms := 0) (As := [.int y1, .int y2, .int y7]) (r := []) dX12_teaches_149 mo12_isTaught mv12_isTaught lkRX12_474 rfl hZ_b0 (q := (RX12, TX12, 34)) rfl rfl rfl (Nat.le_of_ble_eq_true rfl) (by show _ + 1 ≤ d + _; omega) (Nat.le_refl _) (Nat.le_refl _) (pRt_mono ?_)
  refine k12_isTaught (d + 0) hW hZ_b0 hr2 ?_
  intro hbr1
  show Ok g _ Qx 152 [(0, .ref b0), (1, .int y1), (2, .int y2), (3, .int y3), (4, .int y4), (5, .int y5), (6, .int y6), (7, .int y7)] [.int r1.1] (Z, r1.2.1, r1.2.2, O)
  refine ok_if_ne (t := 158) dX12_teaches_152 (by decide) (fun hc3 => ?_) (fun hc3 => ?_)
  · have h := (if_neg hc3).symm.trans h
    refine ok_iload dX12_teaches_158 7 rfl ?_
    refine ok_istore (l' := [(6, .int y7), (0, .ref b0), (1, .int y1), (2, .int y2), (3, .int y3), (4, .int y4), (5, .int y5), (7, .int y7)]) dX12_teaches_160 (Nat.le_of_ble_eq_true rfl) rfl ?_
    refine ok_iload dX12_teaches_162 7 rfl ?_
    refine ok_iload dX12_teaches_164 6 rfl ?_
    refine ok_iadd dX12_teaches_166 ?_
    refine ok_istore (l' := [(7, .int (y7 + y5)), (6, .int y7), (0, .ref b0), (1, .int y1), (2, .int y2), (3, .int y3), (4, .int y4), (5, .int y5)]) dX12_teaches_167 (Nat.le_of_ble_eq_true rfl) rfl ?_
    refine ok_goto (t := 105) dX12_teaches_169 (by decide) ?_
    refine ok_sub [2, 3, 4, 5, 6, 7, 1, 0] rfl ?_
    exact hk105 r1.2.1 r1.2.2 b0 y1 y2 y3 y4 y5 y7 (y7 + y5) hZ_b0 h
  · have h := (if_pos hc3).symm.trans h
    refine ok_goto (t := 162) dX12_teaches_155 (by decide) ?_
    refine ok_iload dX12_teaches_162 7 rfl ?_
    refine ok_iload dX12_teaches_164 5 rfl ?_
    refine ok_iadd dX12_teaches_166 ?_
    refine ok_istore (l' := [(7, .int (y7 + y5)), (0, .ref b0), (1, .int y1), (2, .int y2), (3, .int y3), (4, .int y4), (5, .int y5), (6, .int y6)]) dX12_teaches_167 (Nat.le_of_ble_eq_true rfl) rfl ?_
    refine ok_goto (t := 105) dX12_teaches_169 (by decide) ?_
    refine ok_sub [1, 2, 3, 4, 5, 6, 7, 0] rfl ?_
    exact hk105 r1.2.1 r1.2.2 b0 y1 y2 y3 y4 y5 y6 (y7 + y5) hZ_b0 h
def f12_teaches_c105 (n : Nat) (O : (Nat → Nat → Option Nat)) : Nat → (Nat → Nat → Int32) → (Nat → Nat → Int64) → Nat → Int32 → Int32 → Int32 → Int32 → Int32 → Int32 → Int32 → Option (Int32 × (Nat → Nat → Int32) × (Nat → Nat → Int64))
  | 0, _, _, _, _, _, _, _, _, _, _ => none
  | m + 1, I, L, b0, y1, y2, y3, y4, y5, y6, y7 => (if y4 ≤ y7 then (if y6 = (-1 : Int32) then some (((-2) : Int32), I, L) else (if y3 = (-1 : Int32) then (f12_timesIn n b0 y6).bind fun r6 => some (r6, I, L) else (f12_timesOf n y6 y3).bind fun r4 => some (r4, I, L))) else (f12_timesIn n b0 y7).bind fun r8 => (if (8 : Int32) < r8 then f12_teaches_c105 n O m I L b0 y1 y2 y3 y4 y5 y6 (y7 + y5) else (if y6 = (-1 : Int32) then f12_teaches_c144 n O (f12_teaches_c105 n O m) I L b0 y1 y2 y3 y4 y5 y6 y7 else (f12_timesIn n b0 y6).bind fun r12 => (if r12 < r8 then f12_teaches_c105 n O m I L b0 y1 y2 y3 y4 y5 y6 (y7 + y5) else f12_teaches_c144 n O (f12_teaches_c105 n O m) I L b0 y1 y2 y3 y4 y5 y6 y7))))
set_option maxHeartbeats 4000000 in
set_option maxRecDepth 20000 in
theorem o12_teaches_c105 {g : pG} {Qx : Option Value → pW → Prop} {Z : pZ} {O : (Nat → Nat → Option Nat)} {n : Nat} {res : Int32 × (Nat → Nat → Int32) × (Nat → Nat → Int64)} (d : Nat) (hW : WT Z O) (hQ : Qx (some (.int res.1)) (Z, res.2.1, res.2.2, O)) : ∀ (m : Nat) (I : (Nat → Nat → Int32)) (L : (Nat → Nat → Int64)) (b0 : Nat) (y1 : Int32) (y2 : Int32) (y3 : Int32) (y4 : Int32) (y5 : Int32) (y6 : Int32) (y7 : Int32), (Z[b0]? = some (12, 34)) → f12_teaches_c105 n O m I L b0 y1 y2 y3 y4 y5 y6 y7 = some res → Ok g (d + 12, RX12, cX12_teaches, 9, false, 0, 0, Z.length, pSl Z) Qx 105 [(0, .ref b0), (1, .int y1), (2, .int y2), (3, .int y3), (4, .int y4), (5, .int y5), (6, .int y6), (7, .int y7)] [] (Z, I, L, O) := by
  intro m
  induction m with
  | zero => intro I L b0 y1 y2 y3 y4 y5 y6 y7 hZ_b0 h; rw [f12_teaches_c105] at h; cases h
  | succ m ih =>
    intro I L b0 y1 y2 y3 y4 y5 y6 y7 hZ_b0 h
    rw [f12_teaches_c105] at h
    refine ok_iload dX12_teaches_105 7 rfl ?_
    refine ok_iload dX12_teaches_107 4 rfl ?_
    refine ok_icmp_ge (t := 172) dX12_teaches_109 (by decide) (fun hc1 => ?_) (fun hc1 => ?_)
    · have h := (if_pos hc1).symm.trans h
      refine ok_iload dX12_teaches_172 6 rfl ?_
      refine ok_iconst (v := (-1)) dX12_teaches_174 (by decide) ?_
      refine ok_icmp_ne (t := 183) dX12_teaches_175 (by decide) (fun hc2 => ?_) (fun hc2 => ?_)
      · have h := (if_neg hc2).symm.trans h
        refine ok_iload_n dX12_teaches_183 3 rfl ?_
        refine ok_iconst (v := (-1)) dX12_teaches_184 (by decide) ?_
        refine ok_icmp_ne (t := 197) dX12_teaches_185 (by decide) (fun hc3 => ?_) (fun hc3 => ?_)
        · have h := (if_neg hc3).symm.trans h
          refine ok_iload dX12_teaches_197 6 rfl ?_
          refine ok_iload_n dX12_teaches_199 3 rfl ?_
          obtain ⟨r4, hr5, h⟩ := bd h
          refine ok_callS (d := ((d + 9) + 2)) (mt := m12_timesOf) (mc := 0) (ms := 0) (As := [.int y6, .int y3]) (r := []) dX12_teaches_200 mo12_timesOf mv12_timesOf lkRX12_468 rfl rfl (Nat.le_of_ble_eq_true rfl) (by show _ + 1 ≤ d + _; omega) (Nat.le_refl _) (Nat.le_refl _) (pRt_mono ?_)
          refine k12_timesOf (d + 9) hW  hr5 ?_
          intro _
          show Ok g _ Qx 203 [(0, .ref b0), (1, .int y1), (2, .int y2), (3, .int y3), (4, .int y4), (5, .int y5), (6, .int y6), (7, .int y7)] [.int r4] (Z, I, L, O)
          cases h
          exact ok_iret dX12_teaches_203 hQ
        · have h := (if_pos hc3).symm.trans h
          refine ok_aload_n dX12_teaches_188 0 rfl ?_
          refine ok_iload dX12_teaches_189 6 rfl ?_
          obtain ⟨r6, hr7, h⟩ := bd h
          refine ok_callV (d := ((d + 8) + 3)) (mt := m12_timesIn) (mc := 0) (ms := 0) (As := [.int y6]) (r := []) dX12_teaches_191 mo12_timesIn mv12_timesIn lkRX12_471 rfl hZ_b0 (q := (RX12, TX12, 34)) rfl rfl rfl (Nat.le_of_ble_eq_true rfl) (by show _ + 1 ≤ d + _; omega) (Nat.le_refl _) (Nat.le_refl _) (pRt_mono ?_)
          refine k12_timesIn (d + 8) hW hZ_b0 hr7 ?_
          intro _
          show Ok g _ Qx 194 [(0, .ref b0), (1, .int y1), (2, .int y2), (3, .int y3), (4, .int y4), (5, .int y5), (6, .int y6), (7, .int y7)] [.int r6] (Z, I, L, O)
          refine ok_goto (t := 203) dX12_teaches_194 (by decide) ?_
          cases h
          exact ok_iret dX12_teaches_203 hQ
      · have h := (if_pos hc2).symm.trans h
        refine ok_bipush (v := (-2)) dX12_teaches_178 (by decide) ?_
        refine ok_goto (t := 203) dX12_teaches_180 (by decide) ?_
        cases h
        exact ok_iret dX12_teaches_203 hQ
    · have h := (if_neg hc1).symm.trans h
      refine ok_aload_n dX12_teaches_112 0 rfl ?_
      refine ok_iload dX12_teaches_113 7 rfl ?_
      obtain ⟨r8, hr9, h⟩ := bd h
      refine ok_callV (d := ((d + 8) + 3)) (mt := m12_timesIn) (mc := 0) (ms := 0) (As := [.int y7]) (r := []) dX12_teaches_115 mo12_timesIn mv12_timesIn lkRX12_471 rfl hZ_b0 (q := (RX12, TX12, 34)) rfl rfl rfl (Nat.le_of_ble_eq_true rfl) (by show _ + 1 ≤ d + _; omega) (Nat.le_refl _) (Nat.le_refl _) (pRt_mono ?_)
      refine k12_timesIn (d + 8) hW hZ_b0 hr9 ?_
      intro _
      show Ok g _ Qx 118 [(0, .ref b0), (1, .int y1), (2, .int y2), (3, .int y3), (4, .int y4), (5, .int y5), (6, .int y6), (7, .int y7)] [.int r8] (Z, I, L, O)
      refine ok_istore (l' := [(8, .int r8), (0, .ref b0), (1, .int y1), (2, .int y2), (3, .int y3), (4, .int y4), (5, .int y5), (6, .int y6), (7, .int y7)]) dX12_teaches_118 (Nat.le_of_ble_eq_true rfl) rfl ?_
      refine ok_iload dX12_teaches_120 0 rfl ?_
      refine ok_bipush (v := 8) dX12_teaches_122 (by decide) ?_
      refine ok_icmp_gt (t := 162) dX12_teaches_124 (by decide) (fun hc10 => ?_) (fun hc10 => ?_)
      · have h := (if_pos hc10).symm.trans h
        refine ok_iload dX12_teaches_162 8 rfl ?_
        refine ok_iload dX12_teaches_164 6 rfl ?_
        refine ok_iadd dX12_teaches_166 ?_
        refine ok_istore (l' := [(7, .int (y7 + y5)), (8, .int r8), (0, .ref b0), (1, .int y1), (2, .int y2), (3, .int y3), (4, .int y4), (5, .int y5), (6, .int y6)]) dX12_teaches_167 (Nat.le_of_ble_eq_true rfl) rfl ?_
        refine ok_goto (t := 105) dX12_teaches_169 (by decide) ?_
        refine ok_sub [2, 3, 4, 5, 6, 7, 8, 0] rfl ?_
        exact ih I L b0 y1 y2 y3 y4 y5 y6 (y7 + y5) hZ_b0 h
      · have h := (if_neg hc10).symm.trans h
        refine ok_iload dX12_teaches_127 7 rfl ?_
        refine ok_iconst (v := (-1)) dX12_teaches_129 (by decide) ?_
        refine ok_icmp_eq (t := 144) dX12_teaches_130 (by decide) (fun hc11 => ?_) (fun hc11 => ?_)
        · have h := (if_pos hc11).symm.trans h
          refine ok_sub [1, 2, 3, 4, 5, 6, 7, 8] rfl ?_
          exact o12_teaches_c144 d hW hQ ih I L b0 y1 y2 y3 y4 y5 y6 y7 hZ_b0 h
        · have h := (if_neg hc11).symm.trans h
          refine ok_iload dX12_teaches_133 0 rfl ?_
          refine ok_aload_n dX12_teaches_135 1 rfl ?_
          refine ok_iload dX12_teaches_136 7 rfl ?_
          obtain ⟨r12, hr13, h⟩ := bd h
          refine ok_callV (d := ((d + 8) + 3)) (mt := m12_timesIn) (mc := 0) (ms := 0) (As := [.int y6]) (r := [.int r8]) dX12_teaches_138 mo12_timesIn mv12_timesIn lkRX12_471 rfl hZ_b0 (q := (RX12, TX12, 34)) rfl rfl rfl (Nat.le_of_ble_eq_true rfl) (by show _ + 1 ≤ d + _; omega) (Nat.le_refl _) (Nat.le_refl _) (pRt_mono ?_)
          refine k12_timesIn (d + 8) hW hZ_b0 hr13 ?_
          intro _
          show Ok g _ Qx 141 [(8, .int r8), (0, .ref b0), (1, .int y1), (2, .int y2), (3, .int y3), (4, .int y4), (5, .int y5), (6, .int y6), (7, .int y7)] [.int r12, .int r8] (Z, I, L, O)
          refine ok_icmp_gt (t := 162) dX12_teaches_141 (by decide) (fun hc14 => ?_) (fun hc14 => ?_)
          · have h := (if_pos hc14).symm.trans h
            refine ok_iload dX12_teaches_162 8 rfl ?_
            refine ok_iload dX12_teaches_164 6 rfl ?_
            refine ok_iadd dX12_teaches_166 ?_
            refine ok_istore (l' := [(7, .int (y7 + y5)), (8, .int r8), (0, .ref b0), (1, .int y1), (2, .int y2), (3, .int y3), (4, .int y4), (5, .int y5), (6, .int y6)]) dX12_teaches_167 (Nat.le_of_ble_eq_true rfl) rfl ?_
            refine ok_goto (t := 105) dX12_teaches_169 (by decide) ?_
            refine ok_sub [2, 3, 4, 5, 6, 7, 8, 0] rfl ?_
            exact ih I L b0 y1 y2 y3 y4 y5 y6 (y7 + y5) hZ_b0 h
          · have h := (if_neg hc14).symm.trans h
            refine ok_sub [1, 2, 3, 4, 5, 6, 7, 8] rfl ?_
            exact o12_teaches_c144 d hW hQ ih I L b0 y1 y2 y3 y4 y5 y6 y7 hZ_b0 h
def f12_teaches_c80 (n : Nat) (O : (Nat → Nat → Option Nat)) : Nat → (Nat → Nat → Int32) → (Nat → Nat → Int64) → Nat → Int32 → Int32 → Int32 → Int32 → Int32 → Int32 → Option (Int32 × (Nat → Nat → Int32) × (Nat → Nat → Int64))
  | 0, _, _, _, _, _, _, _, _, _ => none
  | m + 1, I, L, b0, y1, y2, y3, y4, y5, y6 => (if (5 : Int32) ≤ y6 then f12_teaches_c105 n O n I L b0 y1 y2 y3 y4 y5 (-1 : Int32) (0 : Int32) else f12_teaches_c80 n O m I L b0 y1 y2 y3 y4 (y5 * 9) (y6 + 1))
set_option maxHeartbeats 4000000 in
set_option maxRecDepth 20000 in
theorem o12_teaches_c80 {g : pG} {Qx : Option Value → pW → Prop} {Z : pZ} {O : (Nat → Nat → Option Nat)} {n : Nat} {res : Int32 × (Nat → Nat → Int32) × (Nat → Nat → Int64)} (d : Nat) (hW : WT Z O) (hQ : Qx (some (.int res.1)) (Z, res.2.1, res.2.2, O)) : ∀ (m : Nat) (I : (Nat → Nat → Int32)) (L : (Nat → Nat → Int64)) (b0 : Nat) (y1 : Int32) (y2 : Int32) (y3 : Int32) (y4 : Int32) (y5 : Int32) (y6 : Int32), (Z[b0]? = some (12, 34)) → f12_teaches_c80 n O m I L b0 y1 y2 y3 y4 y5 y6 = some res → Ok g (d + 12, RX12, cX12_teaches, 9, false, 0, 0, Z.length, pSl Z) Qx 80 [(0, .ref b0), (1, .int y1), (2, .int y2), (3, .int y3), (4, .int y4), (5, .int y5), (6, .int y6)] [] (Z, I, L, O) := by
  intro m
  induction m with
  | zero => intro I L b0 y1 y2 y3 y4 y5 y6 hZ_b0 h; rw [f12_teaches_c80] at h; cases h
  | succ m ih =>
    intro I L b0 y1 y2 y3 y4 y5 y6 hZ_b0 h
    rw [f12_teaches_c80] at h
    refine ok_iload dX12_teaches_80 6 rfl ?_
    refine ok_iconst (v := 5) dX12_teaches_82 (by decide) ?_
    refine ok_icmp_ge (t := 99) dX12_teaches_83 (by decide) (fun hc1 => ?_) (fun hc1 => ?_)
    · have h := (if_pos hc1).symm.trans h
      refine ok_iconst (v := (-1)) dX12_teaches_99 (by decide) ?_
      refine ok_istore (l' := [(6, .int (-1)), (0, .ref b0), (1, .int y1), (2, .int y2), (3, .int y3), (4, .int y4), (5, .int y5)]) dX12_teaches_100 (Nat.le_of_ble_eq_true rfl) rfl ?_
      refine ok_iconst (v := 0) dX12_teaches_102 (by decide) ?_
      refine ok_istore (l' := [(7, .int 0), (6, .int (-1)), (0, .ref b0), (1, .int y1), (2, .int y2), (3, .int y3), (4, .int y4), (5, .int y5)]) dX12_teaches_103 (Nat.le_of_ble_eq_true rfl) rfl ?_
      refine ok_sub [2, 3, 4, 5, 6, 7, 1, 0] rfl ?_
      exact o12_teaches_c105 d hW hQ  n I L b0 y1 y2 y3 y4 y5 (-1 : Int32) (0 : Int32) hZ_b0 h
    · have h := (if_neg hc1).symm.trans h
      refine ok_iload dX12_teaches_86 5 rfl ?_
      refine ok_bipush (v := 9) dX12_teaches_88 (by decide) ?_
      refine ok_imul dX12_teaches_90 ?_
      refine ok_istore (l' := [(5, .int (y5 * 9)), (0, .ref b0), (1, .int y1), (2, .int y2), (3, .int y3), (4, .int y4), (6, .int y6)]) dX12_teaches_91 (Nat.le_of_ble_eq_true rfl) rfl ?_
      refine ok_iinc (u := (y6 + 1)) (l' := [(6, .int (y6 + 1)), (5, .int (y5 * 9)), (0, .ref b0), (1, .int y1), (2, .int y2), (3, .int y3), (4, .int y4)]) dX12_teaches_93 6 rfl rfl (Nat.le_of_ble_eq_true rfl) rfl ?_
      refine ok_goto (t := 80) dX12_teaches_96 (by decide) ?_
      refine ok_sub [2, 3, 4, 5, 6, 1, 0] rfl ?_
      exact ih I L b0 y1 y2 y3 y4 (y5 * 9) (y6 + 1) hZ_b0 h
def f12_teaches_c50 (n : Nat) (O : (Nat → Nat → Option Nat)) : Nat → (Nat → Nat → Int32) → (Nat → Nat → Int64) → Nat → Int32 → Int32 → Int32 → Int32 → Int32 → Option (Int32 × (Nat → Nat → Int32) × (Nat → Nat → Int64))
  | 0, _, _, _, _, _, _, _, _ => none
  | m + 1, I, L, b0, y1, y2, y3, y4, y5 => (if (5 : Int32) ≤ y5 then f12_teaches_c80 n O n I L b0 y1 y2 y3 y4 (1 : Int32) (I (rO O b0 0) 0) else f12_teaches_c50 n O m I L b0 y1 y2 y3 (y4 * 9) (y5 + 1))
set_option maxHeartbeats 4000000 in
set_option maxRecDepth 20000 in
theorem o12_teaches_c50 {g : pG} {Qx : Option Value → pW → Prop} {Z : pZ} {O : (Nat → Nat → Option Nat)} {n : Nat} {res : Int32 × (Nat → Nat → Int32) × (Nat → Nat → Int64)} (d : Nat) (hW : WT Z O) (hQ : Qx (some (.int res.1)) (Z, res.2.1, res.2.2, O)) : ∀ (m : Nat) (I : (Nat → Nat → Int32)) (L : (Nat → Nat → Int64)) (b0 : Nat) (y1 : Int32) (y2 : Int32) (y3 : Int32) (y4 : Int32) (y5 : Int32), (Z[b0]? = some (12, 34)) → f12_teaches_c50 n O m I L b0 y1 y2 y3 y4 y5 = some res → Ok g (d + 12, RX12, cX12_teaches, 9, false, 0, 0, Z.length, pSl Z) Qx 50 [(0, .ref b0), (1, .int y1), (2, .int y2), (3, .int y3), (4, .int y4), (5, .int y5)] [] (Z, I, L, O) := by
  intro m
  induction m with
  | zero => intro I L b0 y1 y2 y3 y4 y5 hZ_b0 h; rw [f12_teaches_c50] at h; cases h
  | succ m ih =>
    intro I L b0 y1 y2 y3 y4 y5 hZ_b0 h
    rw [f12_teaches_c50] at h
    refine ok_iload dX12_teaches_50 5 rfl ?_
    refine ok_iconst (v := 5) dX12_teaches_52 (by decide) ?_
    refine ok_icmp_ge (t := 69) dX12_teaches_53 (by decide) (fun hc1 => ?_) (fun hc1 => ?_)
    · have h := (if_pos hc1).symm.trans h
      refine ok_iconst (v := 1) dX12_teaches_69 (by decide) ?_
      refine ok_istore (l' := [(5, .int 1), (0, .ref b0), (1, .int y1), (2, .int y2), (3, .int y3), (4, .int y4)]) dX12_teaches_70 (Nat.le_of_ble_eq_true rfl) rfl ?_
      refine ok_aload_n dX12_teaches_72 1 rfl ?_
      have hT2 : Z[(rO O b0 0)]? = some (13, 4371) := (wt_f (ci := 12) (k := 0) hW hZ_b0 rfl).2
      refine ok_getR (ci := 12) (k := 0) dX12_teaches_73 flRX12_7 rfl hW hZ_b0 (by decide) ?_
      refine ok_iconst (v := 0) dX12_teaches_76 (by decide) ?_
      refine ok_iald2 (N := 0) dX12_teaches_77 hT2 (by unfold vp_in; decide) (by decide) ?_
      refine ok_istore (l' := [(6, .int (I (rO O b0 0) 0)), (5, .int 1), (0, .ref b0), (1, .int y1), (2, .int y2), (3, .int y3), (4, .int y4)]) dX12_teaches_78 (Nat.le_of_ble_eq_true rfl) rfl ?_
      refine ok_sub [2, 3, 4, 5, 6, 1, 0] rfl ?_
      exact o12_teaches_c80 d hW hQ  n I L b0 y1 y2 y3 y4 (1 : Int32) (I (rO O b0 0) 0) hZ_b0 h
    · have h := (if_neg hc1).symm.trans h
      refine ok_iload dX12_teaches_56 4 rfl ?_
      refine ok_bipush (v := 9) dX12_teaches_58 (by decide) ?_
      refine ok_imul dX12_teaches_60 ?_
      refine ok_istore (l' := [(4, .int (y4 * 9)), (0, .ref b0), (1, .int y1), (2, .int y2), (3, .int y3), (5, .int y5)]) dX12_teaches_61 (Nat.le_of_ble_eq_true rfl) rfl ?_
      refine ok_iinc (u := (y5 + 1)) (l' := [(5, .int (y5 + 1)), (4, .int (y4 * 9)), (0, .ref b0), (1, .int y1), (2, .int y2), (3, .int y3)]) dX12_teaches_63 5 rfl rfl (Nat.le_of_ble_eq_true rfl) rfl ?_
      refine ok_goto (t := 50) dX12_teaches_66 (by decide) ?_
      refine ok_sub [2, 3, 4, 5, 1, 0] rfl ?_
      exact ih I L b0 y1 y2 y3 (y4 * 9) (y5 + 1) hZ_b0 h
def f12_teaches (n : Nat) (I : (Nat → Nat → Int32)) (L : (Nat → Nat → Int64)) (O : (Nat → Nat → Option Nat)) (a0 : Nat) (x1 : Int32) (x2 : Int32) (x3 : Int32) : Option (Int32 × (Nat → Nat → Int32) × (Nat → Nat → Int64)) := (f12_isChild I O a0 x1).bind fun r1 => (if r1 = 0 then some (((-2) : Int32), I, L) else (f12_isIn x2 (0 : Int32) (62 : Int32)).bind fun r4 => (if r4 = 0 then some (((-2) : Int32), I, L) else (if (x2 - x2 / 2 * 2) = (1 : Int32) then some (((-2) : Int32), I, L) else (f12_isIn x3 (-1 : Int32) ((I (rO O a0 0) 0) - 1)).bind fun r9 => (if r9 = 0 then some (((-2) : Int32), I, L) else f12_teaches_c50 n O n I L a0 x1 x2 x3 (1 : Int32) (0 : Int32)))))
set_option maxHeartbeats 4000000 in
set_option maxRecDepth 20000 in
theorem o12_teaches {g : pG} {Qx : Option Value → pW → Prop} {Z : pZ} {I : (Nat → Nat → Int32)} {L : (Nat → Nat → Int64)} {O : (Nat → Nat → Option Nat)} {n : Nat} {a0 : Nat} {x1 : Int32} {x2 : Int32} {x3 : Int32} {res : Int32 × (Nat → Nat → Int32) × (Nat → Nat → Int64)} (d : Nat) (hW : WT Z O) (hZ0 : Z[a0]? = some (12, 34)) (h : f12_teaches n I L O a0 x1 x2 x3 = some res) (hQ : Qx (some (.int res.1)) (Z, res.2.1, res.2.2, O)) : Ok g (d + 12, RX12, cX12_teaches, 9, false, 0, 0, Z.length, pSl Z) Qx 0 [(0, .ref a0), (1, .int x1), (2, .int x2), (3, .int x3)] [] (Z, I, L, O) := by
  unfold f12_teaches at h
  refine ok_aload_n dX12_teaches_0 0 rfl ?_
  refine ok_iload_n dX12_teaches_1 1 rfl ?_
  obtain ⟨r1, hr2, h⟩ := bd h
  refine ok_callV (d := ((d + 8) + 3)) (mt := m12_isChild) (mc := 0) (ms := 0) (As := [.int x1]) (r := []) dX12_teaches_2 mo12_isChild mv12_isChild lkRX12_353 rfl hZ0 (q := (RX12, TX12, 34)) rfl rfl rfl (Nat.le_of_ble_eq_true rfl) (by show _ + 1 ≤ d + _; omega) (Nat.le_refl _) (Nat.le_refl _) (pRt_mono ?_)
  refine k12_isChild (d + 8) hW hZ0 hr2 ?_
  intro hbr1
  show Ok g _ Qx 5 [(0, .ref a0), (1, .int x1), (2, .int x2), (3, .int x3)] [.int r1] (Z, I, L, O)
  refine ok_if_eq (t := 41) dX12_teaches_5 (by decide) (fun hc3 => ?_) (fun hc3 => ?_)
  · have h := (if_pos hc3).symm.trans h
    refine ok_bipush (v := (-2)) dX12_teaches_41 (by decide) ?_
    cases h
    exact ok_iret dX12_teaches_43 hQ
  · have h := (if_neg hc3).symm.trans h
    refine ok_iload_n dX12_teaches_8 2 rfl ?_
    refine ok_iconst (v := 0) dX12_teaches_9 (by decide) ?_
    refine ok_bipush (v := 62) dX12_teaches_10 (by decide) ?_
    obtain ⟨r4, hr5, h⟩ := bd h
    refine ok_callS (d := ((d + 9) + 2)) (mt := m12_isIn) (mc := 0) (ms := 0) (As := [.int x2, .int 0, .int 62]) (r := []) dX12_teaches_12 mo12_isIn mv12_isIn lkRX12_75 rfl rfl (Nat.le_of_ble_eq_true rfl) (by show _ + 1 ≤ d + _; omega) (Nat.le_refl _) (Nat.le_refl _) (pRt_mono ?_)
    refine k12_isIn (d + 9) hW  hr5 ?_
    intro hbr4
    show Ok g _ Qx 15 [(0, .ref a0), (1, .int x1), (2, .int x2), (3, .int x3)] [.int r4] (Z, I, L, O)
    refine ok_if_eq (t := 41) dX12_teaches_15 (by decide) (fun hc6 => ?_) (fun hc6 => ?_)
    · have h := (if_pos hc6).symm.trans h
      refine ok_bipush (v := (-2)) dX12_teaches_41 (by decide) ?_
      cases h
      exact ok_iret dX12_teaches_43 hQ
    · have h := (if_neg hc6).symm.trans h
      refine ok_iload_n dX12_teaches_18 2 rfl ?_
      refine ok_iconst (v := 2) dX12_teaches_19 (by decide) ?_
      refine ok_irem dX12_teaches_20 (by decide) ?_
      refine ok_iconst (v := 1) dX12_teaches_21 (by decide) ?_
      refine ok_icmp_eq (t := 41) dX12_teaches_22 (by decide) (fun hc7 => ?_) (fun hc7 => ?_)
      · have h := (if_pos hc7).symm.trans h
        refine ok_bipush (v := (-2)) dX12_teaches_41 (by decide) ?_
        cases h
        exact ok_iret dX12_teaches_43 hQ
      · have h := (if_neg hc7).symm.trans h
        refine ok_iload_n dX12_teaches_25 3 rfl ?_
        refine ok_iconst (v := (-1)) dX12_teaches_26 (by decide) ?_
        refine ok_aload_n dX12_teaches_27 0 rfl ?_
        have hT8 : Z[(rO O a0 0)]? = some (13, 4371) := (wt_f (ci := 12) (k := 0) hW hZ0 rfl).2
        refine ok_getR (ci := 12) (k := 0) dX12_teaches_28 flRX12_7 rfl hW hZ0 (by decide) ?_
        refine ok_iconst (v := 0) dX12_teaches_31 (by decide) ?_
        refine ok_iald2 (N := 0) dX12_teaches_32 hT8 (by unfold vp_in; decide) (by decide) ?_
        refine ok_iconst (v := 1) dX12_teaches_33 (by decide) ?_
        refine ok_isub dX12_teaches_34 ?_
        obtain ⟨r9, hr10, h⟩ := bd h
        refine ok_callS (d := ((d + 9) + 2)) (mt := m12_isIn) (mc := 0) (ms := 0) (As := [.int x3, .int (-1), .int ((I (rO O a0 0) 0) - 1)]) (r := []) dX12_teaches_35 mo12_isIn mv12_isIn lkRX12_75 rfl rfl (Nat.le_of_ble_eq_true rfl) (by show _ + 1 ≤ d + _; omega) (Nat.le_refl _) (Nat.le_refl _) (pRt_mono ?_)
        refine k12_isIn (d + 9) hW  hr10 ?_
        intro hbr9
        show Ok g _ Qx 38 [(0, .ref a0), (1, .int x1), (2, .int x2), (3, .int x3)] [.int r9] (Z, I, L, O)
        refine ok_if_ne (t := 44) dX12_teaches_38 (by decide) (fun hc11 => ?_) (fun hc11 => ?_)
        · have h := (if_neg hc11).symm.trans h
          refine ok_iconst (v := 1) dX12_teaches_44 (by decide) ?_
          refine ok_istore (l' := [(4, .int 1), (0, .ref a0), (1, .int x1), (2, .int x2), (3, .int x3)]) dX12_teaches_45 (Nat.le_of_ble_eq_true rfl) rfl ?_
          refine ok_iconst (v := 0) dX12_teaches_47 (by decide) ?_
          refine ok_istore (l' := [(5, .int 0), (4, .int 1), (0, .ref a0), (1, .int x1), (2, .int x2), (3, .int x3)]) dX12_teaches_48 (Nat.le_of_ble_eq_true rfl) rfl ?_
          refine ok_sub [2, 3, 4, 5, 1, 0] rfl ?_
          exact o12_teaches_c50 d hW hQ  n I L a0 x1 x2 x3 (1 : Int32) (0 : Int32) hZ0 h
        · have h := (if_pos hc11).symm.trans h
          refine ok_bipush (v := (-2)) dX12_teaches_41 (by decide) ?_
          cases h
          exact ok_iret dX12_teaches_43 hQ
theorem k12_teaches {g : pG} {Q : Option Value → pW → Prop} {Z : pZ} {I : (Nat → Nat → Int32)} {L : (Nat → Nat → Int64)} {O : (Nat → Nat → Option Nat)} {n : Nat} {a0 : Nat} {x1 : Int32} {x2 : Int32} {x3 : Int32} {res : Int32 × (Nat → Nat → Int32) × (Nat → Nat → Int64)} (d : Nat) (hW : WT Z O) (hZ0 : Z[a0]? = some (12, 34)) (h : f12_teaches n I L O a0 x1 x2 x3 = some res) (hQ : Q (some (.int res.1)) (Z, res.2.1, res.2.2, O)) : CT g (d + 12) m12_teaches 0 0 [.ref a0, .int x1, .int x2, .int x3] (Z, I, L, O) Q :=
  ct_of_ok (mt := m12_teaches) (ini := false) mo12_teaches.2.2.2.2 (fun h => by cases h) (Nat.le_of_ble_eq_true rfl) (o12_teaches d hW hZ0 h ⟨trivial, hQ, rfl, rfl⟩)
theorem dX12_divisor_0 : decode cX12_divisor 0 = .ok (.lload_n 0, 1) := by decide +kernel
theorem dX12_divisor_1 : decode cX12_divisor 1 = .ok (.lstore 4, 2) := by decide +kernel
theorem dX12_divisor_3 : decode cX12_divisor 3 = .ok (.lload_n 2, 1) := by decide +kernel
theorem dX12_divisor_4 : decode cX12_divisor 4 = .ok (.lstore 6, 2) := by decide +kernel
theorem dX12_divisor_6 : decode cX12_divisor 6 = .ok (.lload 6, 2) := by decide +kernel
theorem dX12_divisor_8 : decode cX12_divisor 8 = .ok (.lconst 0, 1) := by decide +kernel
theorem dX12_divisor_9 : decode cX12_divisor 9 = .ok (.lcmp, 1) := by decide +kernel
theorem dX12_divisor_10 : decode cX12_divisor 10 = .ok (.ifCond .eq 21, 3) := by decide +kernel
theorem dX12_divisor_13 : decode cX12_divisor 13 = .ok (.lload 4, 2) := by decide +kernel
theorem dX12_divisor_15 : decode cX12_divisor 15 = .ok (.lload 6, 2) := by decide +kernel
theorem dX12_divisor_17 : decode cX12_divisor 17 = .ok (.lrem, 1) := by decide +kernel
theorem dX12_divisor_18 : decode cX12_divisor 18 = .ok (.lstore 8, 2) := by decide +kernel
theorem dX12_divisor_20 : decode cX12_divisor 20 = .ok (.lload 6, 2) := by decide +kernel
theorem dX12_divisor_22 : decode cX12_divisor 22 = .ok (.lstore 4, 2) := by decide +kernel
theorem dX12_divisor_24 : decode cX12_divisor 24 = .ok (.lload 8, 2) := by decide +kernel
theorem dX12_divisor_26 : decode cX12_divisor 26 = .ok (.lstore 6, 2) := by decide +kernel
theorem dX12_divisor_28 : decode cX12_divisor 28 = .ok (.goto (-22), 3) := by decide +kernel
theorem dX12_divisor_31 : decode cX12_divisor 31 = .ok (.lload 4, 2) := by decide +kernel
theorem dX12_divisor_33 : decode cX12_divisor 33 = .ok (.lreturn, 1) := by decide +kernel
def m12_divisor : pMT := (yX12_divisor, cX12_divisor, 10, some .long)
theorem mo12_divisor : mOK m12_divisor 2 := ⟨tb_i 1975 (by decide +kernel), wi_RX12, ⟨wn_RX12.1, wn_RX12.2, by decide +kernel⟩, by decide, plainFor_of_name wp_RX12⟩
theorem mv12_divisor : mS m12_divisor := (tb_i 1974 (by decide +kernel) : Cond.static yX12_divisor ∈ lw_tbl)
def f12_divisor_c6 (n : Nat) : Nat → Int64 → Int64 → Option (Int64)
  | 0, _, _ => none
  | m + 1, y4, y6 => (if (lg_cmp y6 (0 : Int64)) = 0 then some (y4) else if y6 = 0 then none else f12_divisor_c6 n m y6 (y4 - y4 / y6 * y6))
set_option maxHeartbeats 4000000 in
set_option maxRecDepth 20000 in
theorem o12_divisor_c6 {g : pG} {Qx : Option Value → pW → Prop} {Z : pZ} {I : (Nat → Nat → Int32)} {L : (Nat → Nat → Int64)} {O : (Nat → Nat → Option Nat)} {n : Nat} {res : Int64} (d : Nat) (hW : WT Z O) (hQ : Qx (some (.long res)) (Z, I, L, O)) : ∀ (m : Nat) (y4 : Int64) (y6 : Int64), f12_divisor_c6 n m y4 y6 = some res → Ok g (d + 2, RX12, cX12_divisor, 10, false, 0, 0, Z.length, pSl Z) Qx 6 [(4, .long y4), (6, .long y6)] [] (Z, I, L, O) := by
  intro m
  induction m with
  | zero => intro y4 y6 h; rw [f12_divisor_c6] at h; cases h
  | succ m ih =>
    intro y4 y6 h
    rw [f12_divisor_c6] at h
    refine ok_lload dX12_divisor_6 1 rfl ?_
    refine ok_lconst (v := 0) dX12_divisor_8 (by decide) ?_
    refine ok_lcmp dX12_divisor_9 ?_
    refine ok_if_eq (t := 31) dX12_divisor_10 (by decide) (fun hc1 => ?_) (fun hc1 => ?_)
    · have h := (if_pos hc1).symm.trans h
      refine ok_lload dX12_divisor_31 0 rfl ?_
      cases h
      exact ok_lret dX12_divisor_33 hQ
    · have h := (if_neg hc1).symm.trans h
      refine ok_lload dX12_divisor_13 0 rfl ?_
      refine ok_lload dX12_divisor_15 1 rfl ?_
      obtain ⟨hg2, h⟩ := gd h
      refine ok_lrem dX12_divisor_17 hg2 ?_
      refine ok_lstore (l' := [(8, .long (y4 - y4 / y6 * y6)), (4, .long y4), (6, .long y6)]) dX12_divisor_18 (Nat.le_of_ble_eq_true rfl) rfl ?_
      refine ok_lload dX12_divisor_20 2 rfl ?_
      refine ok_lstore (l' := [(4, .long y6), (8, .long (y4 - y4 / y6 * y6)), (6, .long y6)]) dX12_divisor_22 (Nat.le_of_ble_eq_true rfl) rfl ?_
      refine ok_lload dX12_divisor_24 1 rfl ?_
      refine ok_lstore (l' := [(6, .long (y4 - y4 / y6 * y6)), (4, .long y6), (8, .long (y4 - y4 / y6 * y6))]) dX12_divisor_26 (Nat.le_of_ble_eq_true rfl) rfl ?_
      refine ok_goto (t := 6) dX12_divisor_28 (by decide) ?_
      refine ok_sub [1, 0] rfl ?_
      exact ih y6 (y4 - y4 / y6 * y6)  h
def f12_divisor (n : Nat) (x0 : Int64) (x2 : Int64) : Option (Int64) := f12_divisor_c6 n n x0 x2
set_option maxHeartbeats 4000000 in
set_option maxRecDepth 20000 in
theorem o12_divisor {g : pG} {Qx : Option Value → pW → Prop} {Z : pZ} {I : (Nat → Nat → Int32)} {L : (Nat → Nat → Int64)} {O : (Nat → Nat → Option Nat)} {n : Nat} {x0 : Int64} {x2 : Int64} {res : Int64} (d : Nat) (hW : WT Z O) (h : f12_divisor n x0 x2 = some res) (hQ : Qx (some (.long res)) (Z, I, L, O)) : Ok g (d + 2, RX12, cX12_divisor, 10, false, 0, 0, Z.length, pSl Z) Qx 0 [(0, .long x0), (2, .long x2)] [] (Z, I, L, O) := by
  unfold f12_divisor at h
  refine ok_lload_n dX12_divisor_0 0 rfl ?_
  refine ok_lstore (l' := [(4, .long x0), (0, .long x0), (2, .long x2)]) dX12_divisor_1 (Nat.le_of_ble_eq_true rfl) rfl ?_
  refine ok_lload_n dX12_divisor_3 2 rfl ?_
  refine ok_lstore (l' := [(6, .long x2), (4, .long x0), (0, .long x0), (2, .long x2)]) dX12_divisor_4 (Nat.le_of_ble_eq_true rfl) rfl ?_
  refine ok_sub [1, 0] rfl ?_
  exact o12_divisor_c6 d hW hQ  n x0 x2  h
theorem k12_divisor {g : pG} {Q : Option Value → pW → Prop} {Z : pZ} {I : (Nat → Nat → Int32)} {L : (Nat → Nat → Int64)} {O : (Nat → Nat → Option Nat)} {n : Nat} {x0 : Int64} {x2 : Int64} {res : Int64} (d : Nat) (hW : WT Z O) (h : f12_divisor n x0 x2 = some res) (hQ : Q (some (.long res)) (Z, I, L, O)) : CT g (d + 2) m12_divisor 0 0 [.long x0, .long x2] (Z, I, L, O) Q :=
  ct_of_ok (mt := m12_divisor) (ini := false) mo12_divisor.2.2.2.2 (fun h => by cases h) (Nat.le_of_ble_eq_true rfl) (o12_divisor d hW  h ⟨trivial, hQ, rfl, rfl⟩)
theorem dX12_likely_0 : decode cX12_likely 0 = .ok (.aload_n 0, 1) := by decide +kernel
theorem dX12_likely_1 : decode cX12_likely 1 = .ok (.iload_n 1, 1) := by decide +kernel
theorem dX12_likely_2 : decode cX12_likely 2 = .ok (.invokevirtual 79, 3) := by decide +kernel
theorem dX12_likely_5 : decode cX12_likely 5 = .ok (.ifCond .eq 31, 3) := by decide +kernel
theorem dX12_likely_8 : decode cX12_likely 8 = .ok (.aload_n 0, 1) := by decide +kernel
theorem dX12_likely_9 : decode cX12_likely 9 = .ok (.iload_n 2, 1) := by decide +kernel
theorem dX12_likely_10 : decode cX12_likely 10 = .ok (.invokevirtual 353, 3) := by decide +kernel
theorem dX12_likely_13 : decode cX12_likely 13 = .ok (.ifCond .eq 23, 3) := by decide +kernel
theorem dX12_likely_16 : decode cX12_likely 16 = .ok (.iload_n 3, 1) := by decide +kernel
theorem dX12_likely_17 : decode cX12_likely 17 = .ok (.iconst 1, 1) := by decide +kernel
theorem dX12_likely_18 : decode cX12_likely 18 = .ok (.iconst 5, 1) := by decide +kernel
theorem dX12_likely_19 : decode cX12_likely 19 = .ok (.invokestatic 75, 3) := by decide +kernel
theorem dX12_likely_22 : decode cX12_likely 22 = .ok (.ifCond .eq 14, 3) := by decide +kernel
theorem dX12_likely_25 : decode cX12_likely 25 = .ok (.iload 4, 2) := by decide +kernel
theorem dX12_likely_27 : decode cX12_likely 27 = .ok (.iconst 0, 1) := by decide +kernel
theorem dX12_likely_28 : decode cX12_likely 28 = .ok (.bipush 16, 2) := by decide +kernel
theorem dX12_likely_30 : decode cX12_likely 30 = .ok (.invokestatic 75, 3) := by decide +kernel
theorem dX12_likely_33 : decode cX12_likely 33 = .ok (.ifCond .ne 7, 3) := by decide +kernel
theorem dX12_likely_36 : decode cX12_likely 36 = .ok (.ldc2_w 435, 3) := by decide +kernel
theorem dX12_likely_39 : decode cX12_likely 39 = .ok (.lreturn, 1) := by decide +kernel
theorem dX12_likely_40 : decode cX12_likely 40 = .ok (.iconst 0, 1) := by decide +kernel
theorem dX12_likely_41 : decode cX12_likely 41 = .ok (.istore 6, 2) := by decide +kernel
theorem dX12_likely_43 : decode cX12_likely 43 = .ok (.iload 6, 2) := by decide +kernel
theorem dX12_likely_45 : decode cX12_likely 45 = .ok (.bipush 17, 2) := by decide +kernel
theorem dX12_likely_47 : decode cX12_likely 47 = .ok (.if_icmp .ge 26, 3) := by decide +kernel
theorem dX12_likely_50 : decode cX12_likely 50 = .ok (.aload_n 0, 1) := by decide +kernel
theorem dX12_likely_51 : decode cX12_likely 51 = .ok (.getfield 68, 3) := by decide +kernel
theorem dX12_likely_54 : decode cX12_likely 54 = .ok (.iload 6, 2) := by decide +kernel
theorem dX12_likely_56 : decode cX12_likely 56 = .ok (.iload 6, 2) := by decide +kernel
theorem dX12_likely_58 : decode cX12_likely 58 = .ok (.ifCond .ne 7, 3) := by decide +kernel
theorem dX12_likely_61 : decode cX12_likely 61 = .ok (.lconst 1, 1) := by decide +kernel
theorem dX12_likely_62 : decode cX12_likely 62 = .ok (.goto 4, 3) := by decide +kernel
theorem dX12_likely_65 : decode cX12_likely 65 = .ok (.lconst 0, 1) := by decide +kernel
theorem dX12_likely_66 : decode cX12_likely 66 = .ok (.lastore, 1) := by decide +kernel
theorem dX12_likely_67 : decode cX12_likely 67 = .ok (.iinc 6 1, 3) := by decide +kernel
theorem dX12_likely_70 : decode cX12_likely 70 = .ok (.goto (-27), 3) := by decide +kernel
theorem dX12_likely_73 : decode cX12_likely 73 = .ok (.lconst 1, 1) := by decide +kernel
theorem dX12_likely_74 : decode cX12_likely 74 = .ok (.lstore 6, 2) := by decide +kernel
theorem dX12_likely_76 : decode cX12_likely 76 = .ok (.iconst 0, 1) := by decide +kernel
theorem dX12_likely_77 : decode cX12_likely 77 = .ok (.istore 8, 2) := by decide +kernel
theorem dX12_likely_79 : decode cX12_likely 79 = .ok (.iload 8, 2) := by decide +kernel
theorem dX12_likely_81 : decode cX12_likely 81 = .ok (.aload_n 0, 1) := by decide +kernel
theorem dX12_likely_82 : decode cX12_likely 82 = .ok (.getfield 7, 3) := by decide +kernel
theorem dX12_likely_85 : decode cX12_likely 85 = .ok (.bipush 114, 2) := by decide +kernel
theorem dX12_likely_87 : decode cX12_likely 87 = .ok (.iload_n 1, 1) := by decide +kernel
theorem dX12_likely_88 : decode cX12_likely 88 = .ok (.iadd, 1) := by decide +kernel
theorem dX12_likely_89 : decode cX12_likely 89 = .ok (.iaload, 1) := by decide +kernel
theorem dX12_likely_90 : decode cX12_likely 90 = .ok (.if_icmp .ge 110, 3) := by decide +kernel
theorem dX12_likely_93 : decode cX12_likely 93 = .ok (.aload_n 0, 1) := by decide +kernel
theorem dX12_likely_94 : decode cX12_likely 94 = .ok (.iload_n 1, 1) := by decide +kernel
theorem dX12_likely_95 : decode cX12_likely 95 = .ok (.iload 8, 2) := by decide +kernel
theorem dX12_likely_97 : decode cX12_likely 97 = .ok (.invokevirtual 331, 3) := by decide +kernel
theorem dX12_likely_100 : decode cX12_likely 100 = .ok (.ifCond .eq 94, 3) := by decide +kernel
theorem dX12_likely_103 : decode cX12_likely 103 = .ok (.aload_n 0, 1) := by decide +kernel
theorem dX12_likely_104 : decode cX12_likely 104 = .ok (.iload_n 1, 1) := by decide +kernel
theorem dX12_likely_105 : decode cX12_likely 105 = .ok (.iload 8, 2) := by decide +kernel
theorem dX12_likely_107 : decode cX12_likely 107 = .ok (.invokevirtual 87, 3) := by decide +kernel
theorem dX12_likely_110 : decode cX12_likely 110 = .ok (.iload_n 3, 1) := by decide +kernel
theorem dX12_likely_111 : decode cX12_likely 111 = .ok (.if_icmp .eq 6, 3) := by decide +kernel
theorem dX12_likely_114 : decode cX12_likely 114 = .ok (.goto 80, 3) := by decide +kernel
theorem dX12_likely_117 : decode cX12_likely 117 = .ok (.aload_n 0, 1) := by decide +kernel
theorem dX12_likely_118 : decode cX12_likely 118 = .ok (.iload_n 1, 1) := by decide +kernel
theorem dX12_likely_119 : decode cX12_likely 119 = .ok (.iload 8, 2) := by decide +kernel
theorem dX12_likely_121 : decode cX12_likely 121 = .ok (.iload_n 2, 1) := by decide +kernel
theorem dX12_likely_122 : decode cX12_likely 122 = .ok (.invokevirtual 334, 3) := by decide +kernel
theorem dX12_likely_125 : decode cX12_likely 125 = .ok (.istore 9, 2) := by decide +kernel
theorem dX12_likely_127 : decode cX12_likely 127 = .ok (.bipush 16, 2) := by decide +kernel
theorem dX12_likely_129 : decode cX12_likely 129 = .ok (.istore 10, 2) := by decide +kernel
theorem dX12_likely_131 : decode cX12_likely 131 = .ok (.iload 10, 2) := by decide +kernel
theorem dX12_likely_133 : decode cX12_likely 133 = .ok (.ifCond .lt 53, 3) := by decide +kernel
theorem dX12_likely_136 : decode cX12_likely 136 = .ok (.aload_n 0, 1) := by decide +kernel
theorem dX12_likely_137 : decode cX12_likely 137 = .ok (.getfield 68, 3) := by decide +kernel
theorem dX12_likely_140 : decode cX12_likely 140 = .ok (.iload 10, 2) := by decide +kernel
theorem dX12_likely_142 : decode cX12_likely 142 = .ok (.aload_n 0, 1) := by decide +kernel
theorem dX12_likely_143 : decode cX12_likely 143 = .ok (.getfield 68, 3) := by decide +kernel
theorem dX12_likely_146 : decode cX12_likely 146 = .ok (.iload 10, 2) := by decide +kernel
theorem dX12_likely_148 : decode cX12_likely 148 = .ok (.laload, 1) := by decide +kernel
theorem dX12_likely_149 : decode cX12_likely 149 = .ok (.iload 9, 2) := by decide +kernel
theorem dX12_likely_151 : decode cX12_likely 151 = .ok (.i2l, 1) := by decide +kernel
theorem dX12_likely_152 : decode cX12_likely 152 = .ok (.lmul, 1) := by decide +kernel
theorem dX12_likely_153 : decode cX12_likely 153 = .ok (.iload 10, 2) := by decide +kernel
theorem dX12_likely_155 : decode cX12_likely 155 = .ok (.ifCond .le 22, 3) := by decide +kernel
theorem dX12_likely_158 : decode cX12_likely 158 = .ok (.aload_n 0, 1) := by decide +kernel
theorem dX12_likely_159 : decode cX12_likely 159 = .ok (.getfield 68, 3) := by decide +kernel
theorem dX12_likely_162 : decode cX12_likely 162 = .ok (.iload 10, 2) := by decide +kernel
theorem dX12_likely_164 : decode cX12_likely 164 = .ok (.iconst 1, 1) := by decide +kernel
theorem dX12_likely_165 : decode cX12_likely 165 = .ok (.isub, 1) := by decide +kernel
theorem dX12_likely_166 : decode cX12_likely 166 = .ok (.laload, 1) := by decide +kernel
theorem dX12_likely_167 : decode cX12_likely 167 = .ok (.bipush 10, 2) := by decide +kernel
theorem dX12_likely_169 : decode cX12_likely 169 = .ok (.iload 9, 2) := by decide +kernel
theorem dX12_likely_171 : decode cX12_likely 171 = .ok (.isub, 1) := by decide +kernel
theorem dX12_likely_172 : decode cX12_likely 172 = .ok (.i2l, 1) := by decide +kernel
theorem dX12_likely_173 : decode cX12_likely 173 = .ok (.lmul, 1) := by decide +kernel
theorem dX12_likely_174 : decode cX12_likely 174 = .ok (.goto 4, 3) := by decide +kernel
theorem dX12_likely_177 : decode cX12_likely 177 = .ok (.lconst 0, 1) := by decide +kernel
theorem dX12_likely_178 : decode cX12_likely 178 = .ok (.ladd, 1) := by decide +kernel
theorem dX12_likely_179 : decode cX12_likely 179 = .ok (.lastore, 1) := by decide +kernel
theorem dX12_likely_180 : decode cX12_likely 180 = .ok (.iinc 10 (-1), 3) := by decide +kernel
theorem dX12_likely_183 : decode cX12_likely 183 = .ok (.goto (-52), 3) := by decide +kernel
theorem dX12_likely_186 : decode cX12_likely 186 = .ok (.lload 6, 2) := by decide +kernel
theorem dX12_likely_188 : decode cX12_likely 188 = .ok (.ldc2_w 275, 3) := by decide +kernel
theorem dX12_likely_191 : decode cX12_likely 191 = .ok (.lmul, 1) := by decide +kernel
theorem dX12_likely_192 : decode cX12_likely 192 = .ok (.lstore 6, 2) := by decide +kernel
theorem dX12_likely_194 : decode cX12_likely 194 = .ok (.iinc 8 1, 3) := by decide +kernel
theorem dX12_likely_197 : decode cX12_likely 197 = .ok (.goto (-118), 3) := by decide +kernel
theorem dX12_likely_200 : decode cX12_likely 200 = .ok (.lconst 0, 1) := by decide +kernel
theorem dX12_likely_201 : decode cX12_likely 201 = .ok (.lstore 8, 2) := by decide +kernel
theorem dX12_likely_203 : decode cX12_likely 203 = .ok (.iload 4, 2) := by decide +kernel
theorem dX12_likely_205 : decode cX12_likely 205 = .ok (.istore 10, 2) := by decide +kernel
theorem dX12_likely_207 : decode cX12_likely 207 = .ok (.iload 10, 2) := by decide +kernel
theorem dX12_likely_209 : decode cX12_likely 209 = .ok (.bipush 17, 2) := by decide +kernel
theorem dX12_likely_211 : decode cX12_likely 211 = .ok (.if_icmp .ge 21, 3) := by decide +kernel
theorem dX12_likely_214 : decode cX12_likely 214 = .ok (.lload 8, 2) := by decide +kernel
theorem dX12_likely_216 : decode cX12_likely 216 = .ok (.aload_n 0, 1) := by decide +kernel
theorem dX12_likely_217 : decode cX12_likely 217 = .ok (.getfield 68, 3) := by decide +kernel
theorem dX12_likely_220 : decode cX12_likely 220 = .ok (.iload 10, 2) := by decide +kernel
theorem dX12_likely_222 : decode cX12_likely 222 = .ok (.laload, 1) := by decide +kernel
theorem dX12_likely_223 : decode cX12_likely 223 = .ok (.ladd, 1) := by decide +kernel
theorem dX12_likely_224 : decode cX12_likely 224 = .ok (.lstore 8, 2) := by decide +kernel
theorem dX12_likely_226 : decode cX12_likely 226 = .ok (.iinc 10 1, 3) := by decide +kernel
theorem dX12_likely_229 : decode cX12_likely 229 = .ok (.goto (-22), 3) := by decide +kernel
theorem dX12_likely_232 : decode cX12_likely 232 = .ok (.iload 5, 2) := by decide +kernel
theorem dX12_likely_234 : decode cX12_likely 234 = .ok (.ifCond .eq 8, 3) := by decide +kernel
theorem dX12_likely_237 : decode cX12_likely 237 = .ok (.lload 6, 2) := by decide +kernel
theorem dX12_likely_239 : decode cX12_likely 239 = .ok (.goto 5, 3) := by decide +kernel
theorem dX12_likely_242 : decode cX12_likely 242 = .ok (.lload 8, 2) := by decide +kernel
theorem dX12_likely_244 : decode cX12_likely 244 = .ok (.lload 8, 2) := by decide +kernel
theorem dX12_likely_246 : decode cX12_likely 246 = .ok (.lload 6, 2) := by decide +kernel
theorem dX12_likely_248 : decode cX12_likely 248 = .ok (.invokestatic 477, 3) := by decide +kernel
theorem dX12_likely_251 : decode cX12_likely 251 = .ok (.ldiv, 1) := by decide +kernel
theorem dX12_likely_252 : decode cX12_likely 252 = .ok (.lreturn, 1) := by decide +kernel
def m12_likely : pMT := (yX12_likely, cX12_likely, 11, some .long)
theorem mo12_likely : mOK m12_likely 5 := ⟨tb_i 1972 (by decide +kernel), wi_RX12, ⟨wn_RX12.1, wn_RX12.2, by decide +kernel⟩, by decide, plainFor_of_name wp_RX12⟩
theorem mv12_likely : mV m12_likely := ⟨tb_i 1970 (by decide +kernel), tb_i 1971 (by decide +kernel)⟩
def f12_likely_c207 (n : Nat) (O : (Nat → Nat → Option Nat)) : Nat → (Nat → Nat → Int32) → (Nat → Nat → Int64) → Nat → Int32 → Int64 → Int64 → Int32 → Option (Int64 × (Nat → Nat → Int32) × (Nat → Nat → Int64))
  | 0, _, _, _, _, _, _, _ => none
  | m + 1, I, L, b0, y5, y6, y8, y10 => (if (17 : Int32) ≤ y10 then (if y5 = 0 then (f12_divisor n y8 y6).bind fun r3 => if r3 = 0 then none else some ((y8 / r3), I, L) else (f12_divisor n y8 y6).bind fun r6 => if r6 = 0 then none else some ((y6 / r6), I, L)) else (if y10 < 0 ∨ 17 ≤ y10.toNatClampNeg then none else bl ((y8 + (L (rO O b0 33) y10.toNatClampNeg)) : Int64) fun z11 => f12_likely_c207 n O m I L b0 y5 y6 z11 (y10 + 1)))
set_option maxHeartbeats 4000000 in
set_option maxRecDepth 20000 in
theorem o12_likely_c207 {g : pG} {Qx : Option Value → pW → Prop} {Z : pZ} {O : (Nat → Nat → Option Nat)} {n : Nat} {res : Int64 × (Nat → Nat → Int32) × (Nat → Nat → Int64)} (d : Nat) (hW : WT Z O) (hQ : Qx (some (.long res.1)) (Z, res.2.1, res.2.2, O)) : ∀ (m : Nat) (I : (Nat → Nat → Int32)) (L : (Nat → Nat → Int64)) (b0 : Nat) (y5 : Int32) (y6 : Int64) (y8 : Int64) (y10 : Int32), (Z[b0]? = some (12, 34)) → f12_likely_c207 n O m I L b0 y5 y6 y8 y10 = some res → Ok g (d + 9, RX12, cX12_likely, 11, false, 0, 0, Z.length, pSl Z) Qx 207 [(0, .ref b0), (5, .int y5), (6, .long y6), (8, .long y8), (10, .int y10)] [] (Z, I, L, O) := by
  intro m
  induction m with
  | zero => intro I L b0 y5 y6 y8 y10 hZ_b0 h; rw [f12_likely_c207] at h; cases h
  | succ m ih =>
    intro I L b0 y5 y6 y8 y10 hZ_b0 h
    rw [f12_likely_c207] at h
    refine ok_iload dX12_likely_207 4 rfl ?_
    refine ok_bipush (v := 17) dX12_likely_209 (by decide) ?_
    refine ok_icmp_ge (t := 232) dX12_likely_211 (by decide) (fun hc1 => ?_) (fun hc1 => ?_)
    · have h := (if_pos hc1).symm.trans h
      refine ok_iload dX12_likely_232 1 rfl ?_
      refine ok_if_eq (t := 242) dX12_likely_234 (by decide) (fun hc2 => ?_) (fun hc2 => ?_)
      · have h := (if_pos hc2).symm.trans h
        refine ok_lload dX12_likely_242 3 rfl ?_
        refine ok_lload dX12_likely_244 3 rfl ?_
        refine ok_lload dX12_likely_246 2 rfl ?_
        obtain ⟨r3, hr4, h⟩ := bd h
        refine ok_callS (d := ((d + 6) + 2)) (mt := m12_divisor) (mc := 0) (ms := 0) (As := [.long y8, .long y6]) (r := [.long y8]) dX12_likely_248 mo12_divisor mv12_divisor lkRX12_477 rfl rfl (Nat.le_of_ble_eq_true rfl) (by show _ + 1 ≤ d + _; omega) (Nat.le_refl _) (Nat.le_refl _) (pRt_mono ?_)
        refine k12_divisor (d + 6) hW  hr4 ?_
        intro _
        show Ok g _ Qx 251 [(0, .ref b0), (5, .int y5), (6, .long y6), (8, .long y8), (10, .int y10)] [.long r3, .long y8] (Z, I, L, O)
        obtain ⟨hg5, h⟩ := gd h
        refine ok_ldiv dX12_likely_251 hg5 ?_
        cases h
        exact ok_lret dX12_likely_252 hQ
      · have h := (if_neg hc2).symm.trans h
        refine ok_lload dX12_likely_237 2 rfl ?_
        refine ok_goto (t := 244) dX12_likely_239 (by decide) ?_
        refine ok_lload dX12_likely_244 3 rfl ?_
        refine ok_lload dX12_likely_246 2 rfl ?_
        obtain ⟨r6, hr7, h⟩ := bd h
        refine ok_callS (d := ((d + 6) + 2)) (mt := m12_divisor) (mc := 0) (ms := 0) (As := [.long y8, .long y6]) (r := [.long y6]) dX12_likely_248 mo12_divisor mv12_divisor lkRX12_477 rfl rfl (Nat.le_of_ble_eq_true rfl) (by show _ + 1 ≤ d + _; omega) (Nat.le_refl _) (Nat.le_refl _) (pRt_mono ?_)
        refine k12_divisor (d + 6) hW  hr7 ?_
        intro _
        show Ok g _ Qx 251 [(0, .ref b0), (5, .int y5), (6, .long y6), (8, .long y8), (10, .int y10)] [.long r6, .long y6] (Z, I, L, O)
        obtain ⟨hg8, h⟩ := gd h
        refine ok_ldiv dX12_likely_251 hg8 ?_
        cases h
        exact ok_lret dX12_likely_252 hQ
    · have h := (if_neg hc1).symm.trans h
      refine ok_lload dX12_likely_214 3 rfl ?_
      refine ok_aload_n dX12_likely_216 0 rfl ?_
      have hT9 : Z[(rO O b0 33)]? = some (14, 17) := (wt_f (ci := 12) (k := 33) hW hZ_b0 rfl).2
      refine ok_getR (ci := 12) (k := 33) dX12_likely_217 flRX12_68 rfl hW hZ_b0 (by decide) ?_
      refine ok_iload dX12_likely_220 4 rfl ?_
      obtain ⟨hg10, h⟩ := gd h
      refine ok_lald2 (N := y10.toNatClampNeg) dX12_likely_222 hT9 hg10 rfl ?_
      refine ok_ladd dX12_likely_223 ?_
      obtain ⟨z11, ez11, h⟩ := blE h
      refine ok_nmJ ez11 ?_
      refine ok_lstore (l' := [(8, .long z11), (0, .ref b0), (5, .int y5), (6, .long y6), (10, .int y10)]) dX12_likely_224 (Nat.le_of_ble_eq_true rfl) rfl ?_
      refine ok_iinc (u := (y10 + 1)) (l' := [(10, .int (y10 + 1)), (8, .long z11), (0, .ref b0), (5, .int y5), (6, .long y6)]) dX12_likely_226 4 rfl rfl (Nat.le_of_ble_eq_true rfl) rfl ?_
      refine ok_goto (t := 207) dX12_likely_229 (by decide) ?_
      refine ok_sub [2, 3, 4, 1, 0] rfl ?_
      exact ih I L b0 y5 y6 z11 (y10 + 1) hZ_b0 h
def f12_likely_c131 (n : Nat) (O : (Nat → Nat → Option Nat)) (k79 : ((Nat → Nat → Int32) → (Nat → Nat → Int64) → Nat → Int32 → Int32 → Int32 → Int32 → Int32 → Int64 → Int32 → Option (Int64 × (Nat → Nat → Int32) × (Nat → Nat → Int64)))) : Nat → (Nat → Nat → Int32) → (Nat → Nat → Int64) → Nat → Int32 → Int32 → Int32 → Int32 → Int32 → Int64 → Int32 → Int32 → Int32 → Option (Int64 × (Nat → Nat → Int32) × (Nat → Nat → Int64))
  | 0, _, _, _, _, _, _, _, _, _, _, _, _ => none
  | m + 1, I, L, b0, y1, y2, y3, y4, y5, y6, y8, y9, y10 => (if y10 < 0 then k79 I L b0 y1 y2 y3 y4 y5 (y6 * 10) (y8 + 1) else (if y10 < 0 ∨ 17 ≤ y10.toNatClampNeg then none else (if y10 ≤ 0 then (if y10 < 0 ∨ 17 ≤ y10.toNatClampNeg then none else bl (sL L (rO O b0 33) y10.toNatClampNeg (((L (rO O b0 33) y10.toNatClampNeg) * y9.toInt64) + 0)) fun L6 => f12_likely_c131 n O k79 m I L6 b0 y1 y2 y3 y4 y5 y6 y8 y9 (y10 + (-1))) else (if (y10 - 1) < 0 ∨ 17 ≤ (y10 - 1).toNatClampNeg then none else (if y10 < 0 ∨ 17 ≤ y10.toNatClampNeg then none else bl (sL L (rO O b0 33) y10.toNatClampNeg (((L (rO O b0 33) y10.toNatClampNeg) * y9.toInt64) + ((L (rO O b0 33) (y10 - 1).toNatClampNeg) * ((10 : Int32) - y9).toInt64))) fun L9 => f12_likely_c131 n O k79 m I L9 b0 y1 y2 y3 y4 y5 y6 y8 y9 (y10 + (-1)))))))
set_option maxHeartbeats 4000000 in
set_option maxRecDepth 20000 in
theorem o12_likely_c131 {g : pG} {Qx : Option Value → pW → Prop} {Z : pZ} {O : (Nat → Nat → Option Nat)} {n : Nat} {k79 : ((Nat → Nat → Int32) → (Nat → Nat → Int64) → Nat → Int32 → Int32 → Int32 → Int32 → Int32 → Int64 → Int32 → Option (Int64 × (Nat → Nat → Int32) × (Nat → Nat → Int64)))} {res : Int64 × (Nat → Nat → Int32) × (Nat → Nat → Int64)} (d : Nat) (hW : WT Z O) (hQ : Qx (some (.long res.1)) (Z, res.2.1, res.2.2, O)) (hk79 : ∀ (I : (Nat → Nat → Int32)) (L : (Nat → Nat → Int64)) (b0 : Nat) (y1 : Int32) (y2 : Int32) (y3 : Int32) (y4 : Int32) (y5 : Int32) (y6 : Int64) (y8 : Int32), (Z[b0]? = some (12, 34)) → k79 I L b0 y1 y2 y3 y4 y5 y6 y8 = some res → Ok g (d + 9, RX12, cX12_likely, 11, false, 0, 0, Z.length, pSl Z) Qx 79 [(0, .ref b0), (1, .int y1), (2, .int y2), (3, .int y3), (4, .int y4), (5, .int y5), (6, .long y6), (8, .int y8)] [] (Z, I, L, O)) : ∀ (m : Nat) (I : (Nat → Nat → Int32)) (L : (Nat → Nat → Int64)) (b0 : Nat) (y1 : Int32) (y2 : Int32) (y3 : Int32) (y4 : Int32) (y5 : Int32) (y6 : Int64) (y8 : Int32) (y9 : Int32) (y10 : Int32), (Z[b0]? = some (12, 34)) → f12_likely_c131 n O k79 m I L b0 y1 y2 y3 y4 y5 y6 y8 y9 y10 = some res → Ok g (d + 9, RX12, cX12_likely, 11, false, 0, 0, Z.length, pSl Z) Qx 131 [(0, .ref b0), (1, .int y1), (2, .int y2), (3, .int y3), (4, .int y4), (5, .int y5), (6, .long y6), (8, .int y8), (9, .int y9), (10, .int y10)] [] (Z, I, L, O) := by
  intro m
  induction m with
  | zero => intro I L b0 y1 y2 y3 y4 y5 y6 y8 y9 y10 hZ_b0 h; rw [f12_likely_c131] at h; cases h
  | succ m ih =>
    intro I L b0 y1 y2 y3 y4 y5 y6 y8 y9 y10 hZ_b0 h
    rw [f12_likely_c131] at h
    refine ok_iload dX12_likely_131 9 rfl ?_
    refine ok_if_lt (t := 186) dX12_likely_133 (by decide) (fun hc1 => ?_) (fun hc1 => ?_)
    · have h := (if_pos hc1).symm.trans h
      refine ok_lload dX12_likely_186 6 rfl ?_
      refine ok_ldc2 (v := 10) dX12_likely_188 (tb_i (c := Cond.constantLong RX12 275 (10)) 1663 (by decide +kernel)) ?_
      refine ok_lmul dX12_likely_191 ?_
      refine ok_lstore (l' := [(6, .long (y6 * 10)), (0, .ref b0), (1, .int y1), (2, .int y2), (3, .int y3), (4, .int y4), (5, .int y5), (8, .int y8), (9, .int y9), (10, .int y10)]) dX12_likely_192 (Nat.le_of_ble_eq_true rfl) rfl ?_
      refine ok_iinc (u := (y8 + 1)) (l' := [(8, .int (y8 + 1)), (6, .long (y6 * 10)), (0, .ref b0), (1, .int y1), (2, .int y2), (3, .int y3), (4, .int y4), (5, .int y5), (9, .int y9), (10, .int y10)]) dX12_likely_194 7 rfl rfl (Nat.le_of_ble_eq_true rfl) rfl ?_
      refine ok_goto (t := 79) dX12_likely_197 (by decide) ?_
      refine ok_sub [2, 3, 4, 5, 6, 7, 1, 0] rfl ?_
      exact hk79 I L b0 y1 y2 y3 y4 y5 (y6 * 10) (y8 + 1) hZ_b0 h
    · have h := (if_neg hc1).symm.trans h
      refine ok_aload_n dX12_likely_136 0 rfl ?_
      have hT2 : Z[(rO O b0 33)]? = some (14, 17) := (wt_f (ci := 12) (k := 33) hW hZ_b0 rfl).2
      refine ok_getR (ci := 12) (k := 33) dX12_likely_137 flRX12_68 rfl hW hZ_b0 (by decide) ?_
      refine ok_iload dX12_likely_140 9 rfl ?_
      refine ok_aload_n dX12_likely_142 0 rfl ?_
      refine ok_getR (ci := 12) (k := 33) dX12_likely_143 flRX12_68 rfl hW hZ_b0 (by decide) ?_
      refine ok_iload dX12_likely_146 9 rfl ?_
      obtain ⟨hg3, h⟩ := gd h
      refine ok_lald2 (N := y10.toNatClampNeg) dX12_likely_148 hT2 hg3 rfl ?_
      refine ok_iload dX12_likely_149 8 rfl ?_
      refine ok_i2l dX12_likely_151 ?_
      refine ok_lmul dX12_likely_152 ?_
      refine ok_iload dX12_likely_153 9 rfl ?_
      refine ok_if_le (t := 177) dX12_likely_155 (by decide) (fun hc4 => ?_) (fun hc4 => ?_)
      · have h := (if_pos hc4).symm.trans h
        refine ok_lconst (v := 0) dX12_likely_177 (by decide) ?_
        refine ok_ladd dX12_likely_178 ?_
        obtain ⟨hg5, h⟩ := gd h
        obtain ⟨L6, eL6, h⟩ := blE h
        refine ok_last3 dX12_likely_179 hT2 hg5 rfl eL6 ?_
        refine ok_iinc (u := (y10 + (-1))) (l' := [(10, .int (y10 + (-1))), (0, .ref b0), (1, .int y1), (2, .int y2), (3, .int y3), (4, .int y4), (5, .int y5), (6, .long y6), (8, .int y8), (9, .int y9)]) dX12_likely_180 9 rfl rfl (Nat.le_of_ble_eq_true rfl) rfl ?_
        refine ok_goto (t := 131) dX12_likely_183 (by decide) ?_
        refine ok_sub [1, 2, 3, 4, 5, 6, 7, 8, 9, 0] rfl ?_
        exact ih I L6 b0 y1 y2 y3 y4 y5 y6 y8 y9 (y10 + (-1)) hZ_b0 h
      · have h := (if_neg hc4).symm.trans h
        refine ok_aload_n dX12_likely_158 0 rfl ?_
        refine ok_getR (ci := 12) (k := 33) dX12_likely_159 flRX12_68 rfl hW hZ_b0 (by decide) ?_
        refine ok_iload dX12_likely_162 9 rfl ?_
        refine ok_iconst (v := 1) dX12_likely_164 (by decide) ?_
        refine ok_isub dX12_likely_165 ?_
        obtain ⟨hg7, h⟩ := gd h
        refine ok_lald2 (N := (y10 - 1).toNatClampNeg) dX12_likely_166 hT2 hg7 rfl ?_
        refine ok_bipush (v := 10) dX12_likely_167 (by decide) ?_
        refine ok_iload dX12_likely_169 8 rfl ?_
        refine ok_isub dX12_likely_171 ?_
        refine ok_i2l dX12_likely_172 ?_
        refine ok_lmul dX12_likely_173 ?_
        refine ok_goto (t := 178) dX12_likely_174 (by decide) ?_
        refine ok_ladd dX12_likely_178 ?_
        obtain ⟨hg8, h⟩ := gd h
        obtain ⟨L9, eL9, h⟩ := blE h
        refine ok_last3 dX12_likely_179 hT2 hg8 rfl eL9 ?_
        refine ok_iinc (u := (y10 + (-1))) (l' := [(10, .int (y10 + (-1))), (0, .ref b0), (1, .int y1), (2, .int y2), (3, .int y3), (4, .int y4), (5, .int y5), (6, .long y6), (8, .int y8), (9, .int y9)]) dX12_likely_180 9 rfl rfl (Nat.le_of_ble_eq_true rfl) rfl ?_
        refine ok_goto (t := 131) dX12_likely_183 (by decide) ?_
        refine ok_sub [1, 2, 3, 4, 5, 6, 7, 8, 9, 0] rfl ?_
        exact ih I L9 b0 y1 y2 y3 y4 y5 y6 y8 y9 (y10 + (-1)) hZ_b0 h
def f12_likely_c79 (n : Nat) (O : (Nat → Nat → Option Nat)) : Nat → (Nat → Nat → Int32) → (Nat → Nat → Int64) → Nat → Int32 → Int32 → Int32 → Int32 → Int32 → Int64 → Int32 → Option (Int64 × (Nat → Nat → Int32) × (Nat → Nat → Int64))
  | 0, _, _, _, _, _, _, _, _, _, _ => none
  | m + 1, I, L, b0, y1, y2, y3, y4, y5, y6, y8 => (if ((114 : Int32) + y1) < 0 ∨ 4371 ≤ ((114 : Int32) + y1).toNatClampNeg then none else (if (I (rO O b0 0) ((114 : Int32) + y1).toNatClampNeg) ≤ y8 then f12_likely_c207 n O n I L b0 y5 y6 (0 : Int64) y4 else (f12_isHole I O b0 y1 y8).bind fun r4 => (if r4 = 0 then f12_likely_c79 n O m I L b0 y1 y2 y3 y4 y5 y6 (y8 + 1) else (f12_keyOf I O b0 y1 y8).bind fun r7 => (if r7 = y3 then (f12_blursOf n I L O b0 y1 y8 y2).bind fun r10 => f12_likely_c131 n O (f12_likely_c79 n O m) n r10.2.1 r10.2.2 b0 y1 y2 y3 y4 y5 y6 y8 r10.1 (16 : Int32) else f12_likely_c79 n O m I L b0 y1 y2 y3 y4 y5 y6 (y8 + 1)))))
set_option maxHeartbeats 4000000 in
set_option maxRecDepth 20000 in
theorem o12_likely_c79 {g : pG} {Qx : Option Value → pW → Prop} {Z : pZ} {O : (Nat → Nat → Option Nat)} {n : Nat} {res : Int64 × (Nat → Nat → Int32) × (Nat → Nat → Int64)} (d : Nat) (hW : WT Z O) (hQ : Qx (some (.long res.1)) (Z, res.2.1, res.2.2, O)) : ∀ (m : Nat) (I : (Nat → Nat → Int32)) (L : (Nat → Nat → Int64)) (b0 : Nat) (y1 : Int32) (y2 : Int32) (y3 : Int32) (y4 : Int32) (y5 : Int32) (y6 : Int64) (y8 : Int32), (Z[b0]? = some (12, 34)) → f12_likely_c79 n O m I L b0 y1 y2 y3 y4 y5 y6 y8 = some res → Ok g (d + 9, RX12, cX12_likely, 11, false, 0, 0, Z.length, pSl Z) Qx 79 [(0, .ref b0), (1, .int y1), (2, .int y2), (3, .int y3), (4, .int y4), (5, .int y5), (6, .long y6), (8, .int y8)] [] (Z, I, L, O) := by
  intro m
  induction m with
  | zero => intro I L b0 y1 y2 y3 y4 y5 y6 y8 hZ_b0 h; rw [f12_likely_c79] at h; cases h
  | succ m ih =>
    intro I L b0 y1 y2 y3 y4 y5 y6 y8 hZ_b0 h
    rw [f12_likely_c79] at h
    refine ok_iload dX12_likely_79 7 rfl ?_
    refine ok_aload_n dX12_likely_81 0 rfl ?_
    have hT1 : Z[(rO O b0 0)]? = some (13, 4371) := (wt_f (ci := 12) (k := 0) hW hZ_b0 rfl).2
    refine ok_getR (ci := 12) (k := 0) dX12_likely_82 flRX12_7 rfl hW hZ_b0 (by decide) ?_
    refine ok_bipush (v := 114) dX12_likely_85 (by decide) ?_
    refine ok_iload_n dX12_likely_87 1 rfl ?_
    refine ok_iadd dX12_likely_88 ?_
    obtain ⟨hg2, h⟩ := gd h
    refine ok_iald2 (N := ((114 : Int32) + y1).toNatClampNeg) dX12_likely_89 hT1 hg2 rfl ?_
    refine ok_icmp_ge (t := 200) dX12_likely_90 (by decide) (fun hc3 => ?_) (fun hc3 => ?_)
    · have h := (if_pos hc3).symm.trans h
      refine ok_lconst (v := 0) dX12_likely_200 (by decide) ?_
      refine ok_lstore (l' := [(8, .long 0), (0, .ref b0), (1, .int y1), (2, .int y2), (3, .int y3), (4, .int y4), (5, .int y5), (6, .long y6)]) dX12_likely_201 (Nat.le_of_ble_eq_true rfl) rfl ?_
      refine ok_iload dX12_likely_203 5 rfl ?_
      refine ok_istore (l' := [(10, .int y4), (8, .long 0), (0, .ref b0), (1, .int y1), (2, .int y2), (3, .int y3), (4, .int y4), (5, .int y5), (6, .long y6)]) dX12_likely_205 (Nat.le_of_ble_eq_true rfl) rfl ?_
      refine ok_sub [2, 7, 8, 1, 0] rfl ?_
      exact o12_likely_c207 d hW hQ  n I L b0 y5 y6 (0 : Int64) y4 hZ_b0 h
    · have h := (if_neg hc3).symm.trans h
      refine ok_aload_n dX12_likely_93 0 rfl ?_
      refine ok_iload_n dX12_likely_94 1 rfl ?_
      refine ok_iload dX12_likely_95 7 rfl ?_
      obtain ⟨r4, hr5, h⟩ := bd h
      refine ok_callV (d := ((d + 4) + 4)) (mt := m12_isHole) (mc := 0) (ms := 0) (As := [.int y1, .int y8]) (r := []) dX12_likely_97 mo12_isHole mv12_isHole lkRX12_331 rfl hZ_b0 (q := (RX12, TX12, 34)) rfl rfl rfl (Nat.le_of_ble_eq_true rfl) (by show _ + 1 ≤ d + _; omega) (Nat.le_refl _) (Nat.le_refl _) (pRt_mono ?_)
      refine k12_isHole (d + 4) hW hZ_b0 hr5 ?_
      intro hbr4
      show Ok g _ Qx 100 [(0, .ref b0), (1, .int y1), (2, .int y2), (3, .int y3), (4, .int y4), (5, .int y5), (6, .long y6), (8, .int y8)] [.int r4] (Z, I, L, O)
      refine ok_if_eq (t := 194) dX12_likely_100 (by decide) (fun hc6 => ?_) (fun hc6 => ?_)
      · have h := (if_pos hc6).symm.trans h
        refine ok_iinc (u := (y8 + 1)) (l' := [(8, .int (y8 + 1)), (0, .ref b0), (1, .int y1), (2, .int y2), (3, .int y3), (4, .int y4), (5, .int y5), (6, .long y6)]) dX12_likely_194 7 rfl rfl (Nat.le_of_ble_eq_true rfl) rfl ?_
        refine ok_goto (t := 79) dX12_likely_197 (by decide) ?_
        refine ok_sub [1, 2, 3, 4, 5, 6, 7, 0] rfl ?_
        exact ih I L b0 y1 y2 y3 y4 y5 y6 (y8 + 1) hZ_b0 h
      · have h := (if_neg hc6).symm.trans h
        refine ok_aload_n dX12_likely_103 0 rfl ?_
        refine ok_iload_n dX12_likely_104 1 rfl ?_
        refine ok_iload dX12_likely_105 7 rfl ?_
        obtain ⟨r7, hr8, h⟩ := bd h
        refine ok_callV (d := ((d + 6) + 2)) (mt := m12_keyOf) (mc := 0) (ms := 0) (As := [.int y1, .int y8]) (r := []) dX12_likely_107 mo12_keyOf mv12_keyOf lkRX12_87 rfl hZ_b0 (q := (RX12, TX12, 34)) rfl rfl rfl (Nat.le_of_ble_eq_true rfl) (by show _ + 1 ≤ d + _; omega) (Nat.le_refl _) (Nat.le_refl _) (pRt_mono ?_)
        refine k12_keyOf (d + 6) hW hZ_b0 hr8 ?_
        intro _
        show Ok g _ Qx 110 [(0, .ref b0), (1, .int y1), (2, .int y2), (3, .int y3), (4, .int y4), (5, .int y5), (6, .long y6), (8, .int y8)] [.int r7] (Z, I, L, O)
        refine ok_iload_n dX12_likely_110 3 rfl ?_
        refine ok_icmp_eq (t := 117) dX12_likely_111 (by decide) (fun hc9 => ?_) (fun hc9 => ?_)
        · have h := (if_pos hc9).symm.trans h
          refine ok_aload_n dX12_likely_117 0 rfl ?_
          refine ok_iload_n dX12_likely_118 1 rfl ?_
          refine ok_iload dX12_likely_119 7 rfl ?_
          refine ok_iload_n dX12_likely_121 2 rfl ?_
          obtain ⟨r10, hr11, h⟩ := bd h
          refine ok_callV (d := ((d + 0) + 8)) (mt := m12_blursOf) (mc := 0) (ms := 0) (As := [.int y1, .int y8, .int y2]) (r := []) dX12_likely_122 mo12_blursOf mv12_blursOf lkRX12_334 rfl hZ_b0 (q := (RX12, TX12, 34)) rfl rfl rfl (Nat.le_of_ble_eq_true rfl) (by show _ + 1 ≤ d + _; omega) (Nat.le_refl _) (Nat.le_refl _) (pRt_mono ?_)
          refine k12_blursOf (d + 0) hW hZ_b0 hr11 ?_
          intro _
          show Ok g _ Qx 125 [(0, .ref b0), (1, .int y1), (2, .int y2), (3, .int y3), (4, .int y4), (5, .int y5), (6, .long y6), (8, .int y8)] [.int r10.1] (Z, r10.2.1, r10.2.2, O)
          refine ok_istore (l' := [(9, .int r10.1), (0, .ref b0), (1, .int y1), (2, .int y2), (3, .int y3), (4, .int y4), (5, .int y5), (6, .long y6), (8, .int y8)]) dX12_likely_125 (Nat.le_of_ble_eq_true rfl) rfl ?_
          refine ok_bipush (v := 16) dX12_likely_127 (by decide) ?_
          refine ok_istore (l' := [(10, .int 16), (9, .int r10.1), (0, .ref b0), (1, .int y1), (2, .int y2), (3, .int y3), (4, .int y4), (5, .int y5), (6, .long y6), (8, .int y8)]) dX12_likely_129 (Nat.le_of_ble_eq_true rfl) rfl ?_
          refine ok_sub [2, 3, 4, 5, 6, 7, 8, 9, 1, 0] rfl ?_
          exact o12_likely_c131 d hW hQ ih n r10.2.1 r10.2.2 b0 y1 y2 y3 y4 y5 y6 y8 r10.1 (16 : Int32) hZ_b0 h
        · have h := (if_neg hc9).symm.trans h
          refine ok_goto (t := 194) dX12_likely_114 (by decide) ?_
          refine ok_iinc (u := (y8 + 1)) (l' := [(8, .int (y8 + 1)), (0, .ref b0), (1, .int y1), (2, .int y2), (3, .int y3), (4, .int y4), (5, .int y5), (6, .long y6)]) dX12_likely_194 7 rfl rfl (Nat.le_of_ble_eq_true rfl) rfl ?_
          refine ok_goto (t := 79) dX12_likely_197 (by decide) ?_
          refine ok_sub [1, 2, 3, 4, 5, 6, 7, 0] rfl ?_
          exact ih I L b0 y1 y2 y3 y4 y5 y6 (y8 + 1) hZ_b0 h
def f12_likely_c43 (n : Nat) (O : (Nat → Nat → Option Nat)) : Nat → (Nat → Nat → Int32) → (Nat → Nat → Int64) → Nat → Int32 → Int32 → Int32 → Int32 → Int32 → Int32 → Option (Int64 × (Nat → Nat → Int32) × (Nat → Nat → Int64))
  | 0, _, _, _, _, _, _, _, _, _ => none
  | m + 1, I, L, b0, y1, y2, y3, y4, y5, y6 => (if (17 : Int32) ≤ y6 then f12_likely_c79 n O n I L b0 y1 y2 y3 y4 y5 (1 : Int64) (0 : Int32) else (if y6 = 0 then (if y6 < 0 ∨ 17 ≤ y6.toNatClampNeg then none else bl (sL L (rO O b0 33) y6.toNatClampNeg (1 : Int64)) fun L7 => f12_likely_c43 n O m I L7 b0 y1 y2 y3 y4 y5 (y6 + 1)) else (if y6 < 0 ∨ 17 ≤ y6.toNatClampNeg then none else bl (sL L (rO O b0 33) y6.toNatClampNeg (0 : Int64)) fun L5 => f12_likely_c43 n O m I L5 b0 y1 y2 y3 y4 y5 (y6 + 1))))
set_option maxHeartbeats 4000000 in
set_option maxRecDepth 20000 in
theorem o12_likely_c43 {g : pG} {Qx : Option Value → pW → Prop} {Z : pZ} {O : (Nat → Nat → Option Nat)} {n : Nat} {res : Int64 × (Nat → Nat → Int32) × (Nat → Nat → Int64)} (d : Nat) (hW : WT Z O) (hQ : Qx (some (.long res.1)) (Z, res.2.1, res.2.2, O)) : ∀ (m : Nat) (I : (Nat → Nat → Int32)) (L : (Nat → Nat → Int64)) (b0 : Nat) (y1 : Int32) (y2 : Int32) (y3 : Int32) (y4 : Int32) (y5 : Int32) (y6 : Int32), (Z[b0]? = some (12, 34)) → f12_likely_c43 n O m I L b0 y1 y2 y3 y4 y5 y6 = some res → Ok g (d + 9, RX12, cX12_likely, 11, false, 0, 0, Z.length, pSl Z) Qx 43 [(0, .ref b0), (1, .int y1), (2, .int y2), (3, .int y3), (4, .int y4), (5, .int y5), (6, .int y6)] [] (Z, I, L, O) := by
  intro m
  induction m with
  | zero => intro I L b0 y1 y2 y3 y4 y5 y6 hZ_b0 h; rw [f12_likely_c43] at h; cases h
  | succ m ih =>
    intro I L b0 y1 y2 y3 y4 y5 y6 hZ_b0 h
    rw [f12_likely_c43] at h
    refine ok_iload dX12_likely_43 6 rfl ?_
    refine ok_bipush (v := 17) dX12_likely_45 (by decide) ?_
    refine ok_icmp_ge (t := 73) dX12_likely_47 (by decide) (fun hc1 => ?_) (fun hc1 => ?_)
    · have h := (if_pos hc1).symm.trans h
      refine ok_lconst (v := 1) dX12_likely_73 (by decide) ?_
      refine ok_lstore (l' := [(6, .long 1), (0, .ref b0), (1, .int y1), (2, .int y2), (3, .int y3), (4, .int y4), (5, .int y5)]) dX12_likely_74 (Nat.le_of_ble_eq_true rfl) rfl ?_
      refine ok_iconst (v := 0) dX12_likely_76 (by decide) ?_
      refine ok_istore (l' := [(8, .int 0), (6, .long 1), (0, .ref b0), (1, .int y1), (2, .int y2), (3, .int y3), (4, .int y4), (5, .int y5)]) dX12_likely_77 (Nat.le_of_ble_eq_true rfl) rfl ?_
      refine ok_sub [2, 3, 4, 5, 6, 7, 1, 0] rfl ?_
      exact o12_likely_c79 d hW hQ  n I L b0 y1 y2 y3 y4 y5 (1 : Int64) (0 : Int32) hZ_b0 h
    · have h := (if_neg hc1).symm.trans h
      refine ok_aload_n dX12_likely_50 0 rfl ?_
      have hT2 : Z[(rO O b0 33)]? = some (14, 17) := (wt_f (ci := 12) (k := 33) hW hZ_b0 rfl).2
      refine ok_getR (ci := 12) (k := 33) dX12_likely_51 flRX12_68 rfl hW hZ_b0 (by decide) ?_
      refine ok_iload dX12_likely_54 6 rfl ?_
      refine ok_iload dX12_likely_56 6 rfl ?_
      refine ok_if_ne (t := 65) dX12_likely_58 (by decide) (fun hc3 => ?_) (fun hc3 => ?_)
      · have h := (if_neg hc3).symm.trans h
        refine ok_lconst (v := 0) dX12_likely_65 (by decide) ?_
        obtain ⟨hg4, h⟩ := gd h
        obtain ⟨L5, eL5, h⟩ := blE h
        refine ok_last3 dX12_likely_66 hT2 hg4 rfl eL5 ?_
        refine ok_iinc (u := (y6 + 1)) (l' := [(6, .int (y6 + 1)), (0, .ref b0), (1, .int y1), (2, .int y2), (3, .int y3), (4, .int y4), (5, .int y5)]) dX12_likely_67 6 rfl rfl (Nat.le_of_ble_eq_true rfl) rfl ?_
        refine ok_goto (t := 43) dX12_likely_70 (by decide) ?_
        refine ok_sub [1, 2, 3, 4, 5, 6, 0] rfl ?_
        exact ih I L5 b0 y1 y2 y3 y4 y5 (y6 + 1) hZ_b0 h
      · have h := (if_pos hc3).symm.trans h
        refine ok_lconst (v := 1) dX12_likely_61 (by decide) ?_
        refine ok_goto (t := 66) dX12_likely_62 (by decide) ?_
        obtain ⟨hg6, h⟩ := gd h
        obtain ⟨L7, eL7, h⟩ := blE h
        refine ok_last3 dX12_likely_66 hT2 hg6 rfl eL7 ?_
        refine ok_iinc (u := (y6 + 1)) (l' := [(6, .int (y6 + 1)), (0, .ref b0), (1, .int y1), (2, .int y2), (3, .int y3), (4, .int y4), (5, .int y5)]) dX12_likely_67 6 rfl rfl (Nat.le_of_ble_eq_true rfl) rfl ?_
        refine ok_goto (t := 43) dX12_likely_70 (by decide) ?_
        refine ok_sub [1, 2, 3, 4, 5, 6, 0] rfl ?_
        exact ih I L7 b0 y1 y2 y3 y4 y5 (y6 + 1) hZ_b0 h
def f12_likely (n : Nat) (I : (Nat → Nat → Int32)) (L : (Nat → Nat → Int64)) (O : (Nat → Nat → Option Nat)) (a0 : Nat) (x1 : Int32) (x2 : Int32) (x3 : Int32) (x4 : Int32) (x5 : Int32) : Option (Int64 × (Nat → Nat → Int32) × (Nat → Nat → Int64)) := (f12_isRoll I O a0 x1).bind fun r1 => (if r1 = 0 then some (((-1) : Int64), I, L) else (f12_isChild I O a0 x2).bind fun r4 => (if r4 = 0 then some (((-1) : Int64), I, L) else (f12_isIn x3 (1 : Int32) (5 : Int32)).bind fun r7 => (if r7 = 0 then some (((-1) : Int64), I, L) else (f12_isIn x4 (0 : Int32) (16 : Int32)).bind fun r10 => (if r10 = 0 then some (((-1) : Int64), I, L) else f12_likely_c43 n O n I L a0 x1 x2 x3 x4 x5 (0 : Int32)))))
set_option maxHeartbeats 4000000 in
set_option maxRecDepth 20000 in
theorem o12_likely {g : pG} {Qx : Option Value → pW → Prop} {Z : pZ} {I : (Nat → Nat → Int32)} {L : (Nat → Nat → Int64)} {O : (Nat → Nat → Option Nat)} {n : Nat} {a0 : Nat} {x1 : Int32} {x2 : Int32} {x3 : Int32} {x4 : Int32} {x5 : Int32} {res : Int64 × (Nat → Nat → Int32) × (Nat → Nat → Int64)} (d : Nat) (hW : WT Z O) (hZ0 : Z[a0]? = some (12, 34)) (h : f12_likely n I L O a0 x1 x2 x3 x4 x5 = some res) (hQ : Qx (some (.long res.1)) (Z, res.2.1, res.2.2, O)) : Ok g (d + 9, RX12, cX12_likely, 11, false, 0, 0, Z.length, pSl Z) Qx 0 [(0, .ref a0), (1, .int x1), (2, .int x2), (3, .int x3), (4, .int x4), (5, .int x5)] [] (Z, I, L, O) := by
  unfold f12_likely at h
  refine ok_aload_n dX12_likely_0 0 rfl ?_
  refine ok_iload_n dX12_likely_1 1 rfl ?_
  obtain ⟨r1, hr2, h⟩ := bd h
  refine ok_callV (d := ((d + 5) + 3)) (mt := m12_isRoll) (mc := 0) (ms := 0) (As := [.int x1]) (r := []) dX12_likely_2 mo12_isRoll mv12_isRoll lkRX12_79 rfl hZ0 (q := (RX12, TX12, 34)) rfl rfl rfl (Nat.le_of_ble_eq_true rfl) (by show _ + 1 ≤ d + _; omega) (Nat.le_refl _) (Nat.le_refl _) (pRt_mono ?_)
  refine k12_isRoll (d + 5) hW hZ0 hr2 ?_
  intro hbr1
  show Ok g _ Qx 5 [(0, .ref a0), (1, .int x1), (2, .int x2), (3, .int x3), (4, .int x4), (5, .int x5)] [.int r1] (Z, I, L, O)
  refine ok_if_eq (t := 36) dX12_likely_5 (by decide) (fun hc3 => ?_) (fun hc3 => ?_)
  · have h := (if_pos hc3).symm.trans h
    refine ok_ldc2 (v := (-1)) dX12_likely_36 (tb_i (c := Cond.constantLong RX12 435 (-1)) 1888 (by decide +kernel)) ?_
    cases h
    exact ok_lret dX12_likely_39 hQ
  · have h := (if_neg hc3).symm.trans h
    refine ok_aload_n dX12_likely_8 0 rfl ?_
    refine ok_iload_n dX12_likely_9 2 rfl ?_
    obtain ⟨r4, hr5, h⟩ := bd h
    refine ok_callV (d := ((d + 5) + 3)) (mt := m12_isChild) (mc := 0) (ms := 0) (As := [.int x2]) (r := []) dX12_likely_10 mo12_isChild mv12_isChild lkRX12_353 rfl hZ0 (q := (RX12, TX12, 34)) rfl rfl rfl (Nat.le_of_ble_eq_true rfl) (by show _ + 1 ≤ d + _; omega) (Nat.le_refl _) (Nat.le_refl _) (pRt_mono ?_)
    refine k12_isChild (d + 5) hW hZ0 hr5 ?_
    intro hbr4
    show Ok g _ Qx 13 [(0, .ref a0), (1, .int x1), (2, .int x2), (3, .int x3), (4, .int x4), (5, .int x5)] [.int r4] (Z, I, L, O)
    refine ok_if_eq (t := 36) dX12_likely_13 (by decide) (fun hc6 => ?_) (fun hc6 => ?_)
    · have h := (if_pos hc6).symm.trans h
      refine ok_ldc2 (v := (-1)) dX12_likely_36 (tb_i (c := Cond.constantLong RX12 435 (-1)) 1888 (by decide +kernel)) ?_
      cases h
      exact ok_lret dX12_likely_39 hQ
    · have h := (if_neg hc6).symm.trans h
      refine ok_iload_n dX12_likely_16 3 rfl ?_
      refine ok_iconst (v := 1) dX12_likely_17 (by decide) ?_
      refine ok_iconst (v := 5) dX12_likely_18 (by decide) ?_
      obtain ⟨r7, hr8, h⟩ := bd h
      refine ok_callS (d := ((d + 6) + 2)) (mt := m12_isIn) (mc := 0) (ms := 0) (As := [.int x3, .int 1, .int 5]) (r := []) dX12_likely_19 mo12_isIn mv12_isIn lkRX12_75 rfl rfl (Nat.le_of_ble_eq_true rfl) (by show _ + 1 ≤ d + _; omega) (Nat.le_refl _) (Nat.le_refl _) (pRt_mono ?_)
      refine k12_isIn (d + 6) hW  hr8 ?_
      intro hbr7
      show Ok g _ Qx 22 [(0, .ref a0), (1, .int x1), (2, .int x2), (3, .int x3), (4, .int x4), (5, .int x5)] [.int r7] (Z, I, L, O)
      refine ok_if_eq (t := 36) dX12_likely_22 (by decide) (fun hc9 => ?_) (fun hc9 => ?_)
      · have h := (if_pos hc9).symm.trans h
        refine ok_ldc2 (v := (-1)) dX12_likely_36 (tb_i (c := Cond.constantLong RX12 435 (-1)) 1888 (by decide +kernel)) ?_
        cases h
        exact ok_lret dX12_likely_39 hQ
      · have h := (if_neg hc9).symm.trans h
        refine ok_iload dX12_likely_25 4 rfl ?_
        refine ok_iconst (v := 0) dX12_likely_27 (by decide) ?_
        refine ok_bipush (v := 16) dX12_likely_28 (by decide) ?_
        obtain ⟨r10, hr11, h⟩ := bd h
        refine ok_callS (d := ((d + 6) + 2)) (mt := m12_isIn) (mc := 0) (ms := 0) (As := [.int x4, .int 0, .int 16]) (r := []) dX12_likely_30 mo12_isIn mv12_isIn lkRX12_75 rfl rfl (Nat.le_of_ble_eq_true rfl) (by show _ + 1 ≤ d + _; omega) (Nat.le_refl _) (Nat.le_refl _) (pRt_mono ?_)
        refine k12_isIn (d + 6) hW  hr11 ?_
        intro hbr10
        show Ok g _ Qx 33 [(0, .ref a0), (1, .int x1), (2, .int x2), (3, .int x3), (4, .int x4), (5, .int x5)] [.int r10] (Z, I, L, O)
        refine ok_if_ne (t := 40) dX12_likely_33 (by decide) (fun hc12 => ?_) (fun hc12 => ?_)
        · have h := (if_neg hc12).symm.trans h
          refine ok_iconst (v := 0) dX12_likely_40 (by decide) ?_
          refine ok_istore (l' := [(6, .int 0), (0, .ref a0), (1, .int x1), (2, .int x2), (3, .int x3), (4, .int x4), (5, .int x5)]) dX12_likely_41 (Nat.le_of_ble_eq_true rfl) rfl ?_
          refine ok_sub [1, 2, 3, 4, 5, 6, 0] rfl ?_
          exact o12_likely_c43 d hW hQ  n I L a0 x1 x2 x3 x4 x5 (0 : Int32) hZ0 h
        · have h := (if_pos hc12).symm.trans h
          refine ok_ldc2 (v := (-1)) dX12_likely_36 (tb_i (c := Cond.constantLong RX12 435 (-1)) 1888 (by decide +kernel)) ?_
          cases h
          exact ok_lret dX12_likely_39 hQ
theorem k12_likely {g : pG} {Q : Option Value → pW → Prop} {Z : pZ} {I : (Nat → Nat → Int32)} {L : (Nat → Nat → Int64)} {O : (Nat → Nat → Option Nat)} {n : Nat} {a0 : Nat} {x1 : Int32} {x2 : Int32} {x3 : Int32} {x4 : Int32} {x5 : Int32} {res : Int64 × (Nat → Nat → Int32) × (Nat → Nat → Int64)} (d : Nat) (hW : WT Z O) (hZ0 : Z[a0]? = some (12, 34)) (h : f12_likely n I L O a0 x1 x2 x3 x4 x5 = some res) (hQ : Q (some (.long res.1)) (Z, res.2.1, res.2.2, O)) : CT g (d + 9) m12_likely 0 0 [.ref a0, .int x1, .int x2, .int x3, .int x4, .int x5] (Z, I, L, O) Q :=
  ct_of_ok (mt := m12_likely) (ini := false) mo12_likely.2.2.2.2 (fun h => by cases h) (Nat.le_of_ble_eq_true rfl) (o12_likely d hW hZ0 h ⟨trivial, hQ, rfl, rfl⟩)
theorem dX12_said_0 : decode cX12_said 0 = .ok (.iload_n 1, 1) := by decide +kernel
theorem dX12_said_1 : decode cX12_said 1 = .ok (.iconst (-1), 1) := by decide +kernel
theorem dX12_said_2 : decode cX12_said 2 = .ok (.if_icmp .ne 13, 3) := by decide +kernel
theorem dX12_said_5 : decode cX12_said 5 = .ok (.aload_n 0, 1) := by decide +kernel
theorem dX12_said_6 : decode cX12_said 6 = .ok (.getfield 7, 3) := by decide +kernel
theorem dX12_said_9 : decode cX12_said 9 = .ok (.bipush 6, 2) := by decide +kernel
theorem dX12_said_11 : decode cX12_said 11 = .ok (.iconst 0, 1) := by decide +kernel
theorem dX12_said_12 : decode cX12_said 12 = .ok (.iastore, 1) := by decide +kernel
theorem dX12_said_13 : decode cX12_said 13 = .ok (.iconst 0, 1) := by decide +kernel
theorem dX12_said_14 : decode cX12_said 14 = .ok (.ireturn, 1) := by decide +kernel
theorem dX12_said_15 : decode cX12_said 15 = .ok (.aload_n 0, 1) := by decide +kernel
theorem dX12_said_16 : decode cX12_said 16 = .ok (.iload_n 1, 1) := by decide +kernel
theorem dX12_said_17 : decode cX12_said 17 = .ok (.invokevirtual 353, 3) := by decide +kernel
theorem dX12_said_20 : decode cX12_said 20 = .ok (.ifCond .eq 34, 3) := by decide +kernel
theorem dX12_said_23 : decode cX12_said 23 = .ok (.iload_n 2, 1) := by decide +kernel
theorem dX12_said_24 : decode cX12_said 24 = .ok (.iconst 1, 1) := by decide +kernel
theorem dX12_said_25 : decode cX12_said 25 = .ok (.iconst 5, 1) := by decide +kernel
theorem dX12_said_26 : decode cX12_said 26 = .ok (.invokestatic 75, 3) := by decide +kernel
theorem dX12_said_29 : decode cX12_said 29 = .ok (.ifCond .eq 25, 3) := by decide +kernel
theorem dX12_said_32 : decode cX12_said 32 = .ok (.iload_n 3, 1) := by decide +kernel
theorem dX12_said_33 : decode cX12_said 33 = .ok (.iconst 0, 1) := by decide +kernel
theorem dX12_said_34 : decode cX12_said 34 = .ok (.bipush 99, 2) := by decide +kernel
theorem dX12_said_36 : decode cX12_said 36 = .ok (.invokestatic 75, 3) := by decide +kernel
theorem dX12_said_39 : decode cX12_said 39 = .ok (.ifCond .eq 15, 3) := by decide +kernel
theorem dX12_said_42 : decode cX12_said 42 = .ok (.aload_n 0, 1) := by decide +kernel
theorem dX12_said_43 : decode cX12_said 43 = .ok (.getfield 7, 3) := by decide +kernel
theorem dX12_said_46 : decode cX12_said 46 = .ok (.bipush 6, 2) := by decide +kernel
theorem dX12_said_48 : decode cX12_said 48 = .ok (.iaload, 1) := by decide +kernel
theorem dX12_said_49 : decode cX12_said 49 = .ok (.bipush 8, 2) := by decide +kernel
theorem dX12_said_51 : decode cX12_said 51 = .ok (.if_icmp .ne 6, 3) := by decide +kernel
theorem dX12_said_54 : decode cX12_said 54 = .ok (.bipush (-2), 2) := by decide +kernel
theorem dX12_said_56 : decode cX12_said 56 = .ok (.ireturn, 1) := by decide +kernel
theorem dX12_said_57 : decode cX12_said 57 = .ok (.sipush 207, 3) := by decide +kernel
theorem dX12_said_60 : decode cX12_said 60 = .ok (.iconst 3, 1) := by decide +kernel
theorem dX12_said_61 : decode cX12_said 61 = .ok (.aload_n 0, 1) := by decide +kernel
theorem dX12_said_62 : decode cX12_said 62 = .ok (.getfield 7, 3) := by decide +kernel
theorem dX12_said_65 : decode cX12_said 65 = .ok (.bipush 6, 2) := by decide +kernel
theorem dX12_said_67 : decode cX12_said 67 = .ok (.iaload, 1) := by decide +kernel
theorem dX12_said_68 : decode cX12_said 68 = .ok (.imul, 1) := by decide +kernel
theorem dX12_said_69 : decode cX12_said 69 = .ok (.iadd, 1) := by decide +kernel
theorem dX12_said_70 : decode cX12_said 70 = .ok (.istore 4, 2) := by decide +kernel
theorem dX12_said_72 : decode cX12_said 72 = .ok (.aload_n 0, 1) := by decide +kernel
theorem dX12_said_73 : decode cX12_said 73 = .ok (.getfield 7, 3) := by decide +kernel
theorem dX12_said_76 : decode cX12_said 76 = .ok (.iload 4, 2) := by decide +kernel
theorem dX12_said_78 : decode cX12_said 78 = .ok (.iload_n 1, 1) := by decide +kernel
theorem dX12_said_79 : decode cX12_said 79 = .ok (.iastore, 1) := by decide +kernel
theorem dX12_said_80 : decode cX12_said 80 = .ok (.aload_n 0, 1) := by decide +kernel
theorem dX12_said_81 : decode cX12_said 81 = .ok (.getfield 7, 3) := by decide +kernel
theorem dX12_said_84 : decode cX12_said 84 = .ok (.iload 4, 2) := by decide +kernel
theorem dX12_said_86 : decode cX12_said 86 = .ok (.iconst 1, 1) := by decide +kernel
theorem dX12_said_87 : decode cX12_said 87 = .ok (.iadd, 1) := by decide +kernel
theorem dX12_said_88 : decode cX12_said 88 = .ok (.iload_n 2, 1) := by decide +kernel
theorem dX12_said_89 : decode cX12_said 89 = .ok (.iastore, 1) := by decide +kernel
theorem dX12_said_90 : decode cX12_said 90 = .ok (.aload_n 0, 1) := by decide +kernel
theorem dX12_said_91 : decode cX12_said 91 = .ok (.getfield 7, 3) := by decide +kernel
theorem dX12_said_94 : decode cX12_said 94 = .ok (.iload 4, 2) := by decide +kernel
theorem dX12_said_96 : decode cX12_said 96 = .ok (.iconst 2, 1) := by decide +kernel
theorem dX12_said_97 : decode cX12_said 97 = .ok (.iadd, 1) := by decide +kernel
theorem dX12_said_98 : decode cX12_said 98 = .ok (.iload_n 3, 1) := by decide +kernel
theorem dX12_said_99 : decode cX12_said 99 = .ok (.iastore, 1) := by decide +kernel
theorem dX12_said_100 : decode cX12_said 100 = .ok (.aload_n 0, 1) := by decide +kernel
theorem dX12_said_101 : decode cX12_said 101 = .ok (.getfield 7, 3) := by decide +kernel
theorem dX12_said_104 : decode cX12_said 104 = .ok (.bipush 6, 2) := by decide +kernel
theorem dX12_said_106 : decode cX12_said 106 = .ok (.dup2, 1) := by decide +kernel
theorem dX12_said_107 : decode cX12_said 107 = .ok (.iaload, 1) := by decide +kernel
theorem dX12_said_108 : decode cX12_said 108 = .ok (.iconst 1, 1) := by decide +kernel
theorem dX12_said_109 : decode cX12_said 109 = .ok (.iadd, 1) := by decide +kernel
theorem dX12_said_110 : decode cX12_said 110 = .ok (.iastore, 1) := by decide +kernel
theorem dX12_said_111 : decode cX12_said 111 = .ok (.aload_n 0, 1) := by decide +kernel
theorem dX12_said_112 : decode cX12_said 112 = .ok (.getfield 7, 3) := by decide +kernel
theorem dX12_said_115 : decode cX12_said 115 = .ok (.bipush 6, 2) := by decide +kernel
theorem dX12_said_117 : decode cX12_said 117 = .ok (.iaload, 1) := by decide +kernel
theorem dX12_said_118 : decode cX12_said 118 = .ok (.ireturn, 1) := by decide +kernel
def m12_said : pMT := (yX12_said, cX12_said, 5, some .int)
theorem mo12_said : mOK m12_said 3 := ⟨tb_i 1979 (by decide +kernel), wi_RX12, ⟨wn_RX12.1, wn_RX12.2, by decide +kernel⟩, by decide, plainFor_of_name wp_RX12⟩
theorem mv12_said : mV m12_said := ⟨tb_i 1977 (by decide +kernel), tb_i 1978 (by decide +kernel)⟩
def f12_said (I : (Nat → Nat → Int32)) (O : (Nat → Nat → Option Nat)) (a0 : Nat) (x1 : Int32) (x2 : Int32) (x3 : Int32) : Option (Int32 × (Nat → Nat → Int32)) := (if x1 = (-1 : Int32) then bl (sI I (rO O a0 0) 6 (0 : Int32)) fun I22 => some ((0 : Int32), I22) else (f12_isChild I O a0 x1).bind fun r2 => (if r2 = 0 then some (((-2) : Int32), I) else (f12_isIn x2 (1 : Int32) (5 : Int32)).bind fun r5 => (if r5 = 0 then some (((-2) : Int32), I) else (f12_isIn x3 (0 : Int32) (99 : Int32)).bind fun r8 => (if r8 = 0 then some (((-2) : Int32), I) else (if (I (rO O a0 0) 6) = (8 : Int32) then some (((-2) : Int32), I) else bl (((207 : Int32) + ((3 : Int32) * (I (rO O a0 0) 6))) : Int32) fun z13 => (if z13 < 0 ∨ 4371 ≤ z13.toNatClampNeg then none else bl (sI I (rO O a0 0) z13.toNatClampNeg x1) fun I15 => (if (z13 + 1) < 0 ∨ 4371 ≤ (z13 + 1).toNatClampNeg then none else bl (sI I15 (rO O a0 0) (z13 + 1).toNatClampNeg x2) fun I17 => (if (z13 + 2) < 0 ∨ 4371 ≤ (z13 + 2).toNatClampNeg then none else bl (sI I17 (rO O a0 0) (z13 + 2).toNatClampNeg x3) fun I19 => bl (sI I19 (rO O a0 0) 6 ((I19 (rO O a0 0) 6) + 1)) fun I20 => some ((I20 (rO O a0 0) 6), I20)))))))))
set_option maxHeartbeats 4000000 in
set_option maxRecDepth 20000 in
theorem o12_said {g : pG} {Qx : Option Value → pW → Prop} {Z : pZ} {I : (Nat → Nat → Int32)} {L : (Nat → Nat → Int64)} {O : (Nat → Nat → Option Nat)} {a0 : Nat} {x1 : Int32} {x2 : Int32} {x3 : Int32} {res : Int32 × (Nat → Nat → Int32)} (d : Nat) (hW : WT Z O) (hZ0 : Z[a0]? = some (12, 34)) (h : f12_said I O a0 x1 x2 x3 = some res) (hQ : Qx (some (.int res.1)) (Z, res.2, L, O)) : Ok g (d + 4, RX12, cX12_said, 5, false, 0, 0, Z.length, pSl Z) Qx 0 [(0, .ref a0), (1, .int x1), (2, .int x2), (3, .int x3)] [] (Z, I, L, O) := by
  unfold f12_said at h
  refine ok_iload_n dX12_said_0 1 rfl ?_
  refine ok_iconst (v := (-1)) dX12_said_1 (by decide) ?_
  refine ok_icmp_ne (t := 15) dX12_said_2 (by decide) (fun hc1 => ?_) (fun hc1 => ?_)
  · have h := (if_neg hc1).symm.trans h
    refine ok_aload_n dX12_said_15 0 rfl ?_
    refine ok_iload_n dX12_said_16 1 rfl ?_
    obtain ⟨r2, hr3, h⟩ := bd h
    refine ok_callV (d := ((d + 0) + 3)) (mt := m12_isChild) (mc := 0) (ms := 0) (As := [.int x1]) (r := []) dX12_said_17 mo12_isChild mv12_isChild lkRX12_353 rfl hZ0 (q := (RX12, TX12, 34)) rfl rfl rfl (Nat.le_of_ble_eq_true rfl) (by show _ + 1 ≤ d + _; omega) (Nat.le_refl _) (Nat.le_refl _) (pRt_mono ?_)
    refine k12_isChild (d + 0) hW hZ0 hr3 ?_
    intro hbr2
    show Ok g _ Qx 20 [(0, .ref a0), (1, .int x1), (2, .int x2), (3, .int x3)] [.int r2] (Z, I, L, O)
    refine ok_if_eq (t := 54) dX12_said_20 (by decide) (fun hc4 => ?_) (fun hc4 => ?_)
    · have h := (if_pos hc4).symm.trans h
      refine ok_bipush (v := (-2)) dX12_said_54 (by decide) ?_
      cases h
      exact ok_iret dX12_said_56 hQ
    · have h := (if_neg hc4).symm.trans h
      refine ok_iload_n dX12_said_23 2 rfl ?_
      refine ok_iconst (v := 1) dX12_said_24 (by decide) ?_
      refine ok_iconst (v := 5) dX12_said_25 (by decide) ?_
      obtain ⟨r5, hr6, h⟩ := bd h
      refine ok_callS (d := ((d + 1) + 2)) (mt := m12_isIn) (mc := 0) (ms := 0) (As := [.int x2, .int 1, .int 5]) (r := []) dX12_said_26 mo12_isIn mv12_isIn lkRX12_75 rfl rfl (Nat.le_of_ble_eq_true rfl) (by show _ + 1 ≤ d + _; omega) (Nat.le_refl _) (Nat.le_refl _) (pRt_mono ?_)
      refine k12_isIn (d + 1) hW  hr6 ?_
      intro hbr5
      show Ok g _ Qx 29 [(0, .ref a0), (1, .int x1), (2, .int x2), (3, .int x3)] [.int r5] (Z, I, L, O)
      refine ok_if_eq (t := 54) dX12_said_29 (by decide) (fun hc7 => ?_) (fun hc7 => ?_)
      · have h := (if_pos hc7).symm.trans h
        refine ok_bipush (v := (-2)) dX12_said_54 (by decide) ?_
        cases h
        exact ok_iret dX12_said_56 hQ
      · have h := (if_neg hc7).symm.trans h
        refine ok_iload_n dX12_said_32 3 rfl ?_
        refine ok_iconst (v := 0) dX12_said_33 (by decide) ?_
        refine ok_bipush (v := 99) dX12_said_34 (by decide) ?_
        obtain ⟨r8, hr9, h⟩ := bd h
        refine ok_callS (d := ((d + 1) + 2)) (mt := m12_isIn) (mc := 0) (ms := 0) (As := [.int x3, .int 0, .int 99]) (r := []) dX12_said_36 mo12_isIn mv12_isIn lkRX12_75 rfl rfl (Nat.le_of_ble_eq_true rfl) (by show _ + 1 ≤ d + _; omega) (Nat.le_refl _) (Nat.le_refl _) (pRt_mono ?_)
        refine k12_isIn (d + 1) hW  hr9 ?_
        intro hbr8
        show Ok g _ Qx 39 [(0, .ref a0), (1, .int x1), (2, .int x2), (3, .int x3)] [.int r8] (Z, I, L, O)
        refine ok_if_eq (t := 54) dX12_said_39 (by decide) (fun hc10 => ?_) (fun hc10 => ?_)
        · have h := (if_pos hc10).symm.trans h
          refine ok_bipush (v := (-2)) dX12_said_54 (by decide) ?_
          cases h
          exact ok_iret dX12_said_56 hQ
        · have h := (if_neg hc10).symm.trans h
          refine ok_aload_n dX12_said_42 0 rfl ?_
          have hT11 : Z[(rO O a0 0)]? = some (13, 4371) := (wt_f (ci := 12) (k := 0) hW hZ0 rfl).2
          refine ok_getR (ci := 12) (k := 0) dX12_said_43 flRX12_7 rfl hW hZ0 (by decide) ?_
          refine ok_bipush (v := 6) dX12_said_46 (by decide) ?_
          refine ok_iald2 (N := 6) dX12_said_48 hT11 (by unfold vp_in; decide) (by decide) ?_
          refine ok_bipush (v := 8) dX12_said_49 (by decide) ?_
          refine ok_icmp_ne (t := 57) dX12_said_51 (by decide) (fun hc12 => ?_) (fun hc12 => ?_)
          · have h := (if_neg hc12).symm.trans h
            refine ok_sipush (v := 207) dX12_said_57 (by decide) ?_
            refine ok_iconst (v := 3) dX12_said_60 (by decide) ?_
            refine ok_aload_n dX12_said_61 0 rfl ?_
            refine ok_getR (ci := 12) (k := 0) dX12_said_62 flRX12_7 rfl hW hZ0 (by decide) ?_
            refine ok_bipush (v := 6) dX12_said_65 (by decide) ?_
            refine ok_iald2 (N := 6) dX12_said_67 hT11 (by unfold vp_in; decide) (by decide) ?_
            refine ok_imul dX12_said_68 ?_
            refine ok_iadd dX12_said_69 ?_
            obtain ⟨z13, ez13, h⟩ := blE h
            refine ok_nm ez13 ?_
            refine ok_istore (l' := [(4, .int z13), (0, .ref a0), (1, .int x1), (2, .int x2), (3, .int x3)]) dX12_said_70 (Nat.le_of_ble_eq_true rfl) rfl ?_
            refine ok_aload_n dX12_said_72 1 rfl ?_
            refine ok_getR (ci := 12) (k := 0) dX12_said_73 flRX12_7 rfl hW hZ0 (by decide) ?_
            refine ok_iload dX12_said_76 0 rfl ?_
            refine ok_iload_n dX12_said_78 2 rfl ?_
            obtain ⟨hg14, h⟩ := gd h
            obtain ⟨I15, eI15, h⟩ := blE h
            refine ok_iast3 dX12_said_79 hT11 hg14 rfl eI15 ?_
            refine ok_aload_n dX12_said_80 1 rfl ?_
            refine ok_getR (ci := 12) (k := 0) dX12_said_81 flRX12_7 rfl hW hZ0 (by decide) ?_
            refine ok_iload dX12_said_84 0 rfl ?_
            refine ok_iconst (v := 1) dX12_said_86 (by decide) ?_
            refine ok_iadd dX12_said_87 ?_
            refine ok_iload_n dX12_said_88 3 rfl ?_
            obtain ⟨hg16, h⟩ := gd h
            obtain ⟨I17, eI17, h⟩ := blE h
            refine ok_iast3 dX12_said_89 hT11 hg16 rfl eI17 ?_
            refine ok_aload_n dX12_said_90 1 rfl ?_
            refine ok_getR (ci := 12) (k := 0) dX12_said_91 flRX12_7 rfl hW hZ0 (by decide) ?_
            refine ok_iload dX12_said_94 0 rfl ?_
            refine ok_iconst (v := 2) dX12_said_96 (by decide) ?_
            refine ok_iadd dX12_said_97 ?_
            refine ok_iload_n dX12_said_98 4 rfl ?_
            obtain ⟨hg18, h⟩ := gd h
            obtain ⟨I19, eI19, h⟩ := blE h
            refine ok_iast3 dX12_said_99 hT11 hg18 rfl eI19 ?_
            refine ok_aload_n dX12_said_100 1 rfl ?_
            refine ok_getR (ci := 12) (k := 0) dX12_said_101 flRX12_7 rfl hW hZ0 (by decide) ?_
            refine ok_bipush (v := 6) dX12_said_104 (by decide) ?_
            refine ok_dup2 dX12_said_106 rfl rfl ?_
            refine ok_iald2 (N := 6) dX12_said_107 hT11 (by unfold vp_in; decide) (by decide) ?_
            refine ok_iconst (v := 1) dX12_said_108 (by decide) ?_
            refine ok_iadd dX12_said_109 ?_
            obtain ⟨I20, eI20, h⟩ := blE h
            refine ok_iast3 dX12_said_110 hT11 (by unfold vp_in; decide) (by decide) eI20 ?_
            refine ok_aload_n dX12_said_111 1 rfl ?_
            refine ok_getR (ci := 12) (k := 0) dX12_said_112 flRX12_7 rfl hW hZ0 (by decide) ?_
            refine ok_bipush (v := 6) dX12_said_115 (by decide) ?_
            refine ok_iald2 (N := 6) dX12_said_117 hT11 (by unfold vp_in; decide) (by decide) ?_
            cases h
            exact ok_iret dX12_said_118 hQ
          · have h := (if_pos hc12).symm.trans h
            refine ok_bipush (v := (-2)) dX12_said_54 (by decide) ?_
            cases h
            exact ok_iret dX12_said_56 hQ
  · have h := (if_pos hc1).symm.trans h
    refine ok_aload_n dX12_said_5 0 rfl ?_
    have hT21 : Z[(rO O a0 0)]? = some (13, 4371) := (wt_f (ci := 12) (k := 0) hW hZ0 rfl).2
    refine ok_getR (ci := 12) (k := 0) dX12_said_6 flRX12_7 rfl hW hZ0 (by decide) ?_
    refine ok_bipush (v := 6) dX12_said_9 (by decide) ?_
    refine ok_iconst (v := 0) dX12_said_11 (by decide) ?_
    obtain ⟨I22, eI22, h⟩ := blE h
    refine ok_iast3 dX12_said_12 hT21 (by unfold vp_in; decide) (by decide) eI22 ?_
    refine ok_iconst (v := 0) dX12_said_13 (by decide) ?_
    cases h
    exact ok_iret dX12_said_14 hQ
theorem k12_said {g : pG} {Q : Option Value → pW → Prop} {Z : pZ} {I : (Nat → Nat → Int32)} {L : (Nat → Nat → Int64)} {O : (Nat → Nat → Option Nat)} {a0 : Nat} {x1 : Int32} {x2 : Int32} {x3 : Int32} {res : Int32 × (Nat → Nat → Int32)} (d : Nat) (hW : WT Z O) (hZ0 : Z[a0]? = some (12, 34)) (h : f12_said I O a0 x1 x2 x3 = some res) (hQ : Q (some (.int res.1)) (Z, res.2, L, O)) : CT g (d + 4) m12_said 0 0 [.ref a0, .int x1, .int x2, .int x3] (Z, I, L, O) Q :=
  ct_of_ok (mt := m12_said) (ini := false) mo12_said.2.2.2.2 (fun h => by cases h) (Nat.le_of_ble_eq_true rfl) (o12_said d hW hZ0 h ⟨trivial, hQ, rfl, rfl⟩)
theorem dX12_whose_0 : decode cX12_whose 0 = .ok (.iconst 0, 1) := by decide +kernel
theorem dX12_whose_1 : decode cX12_whose 1 = .ok (.istore_n 1, 1) := by decide +kernel
theorem dX12_whose_2 : decode cX12_whose 2 = .ok (.iconst 0, 1) := by decide +kernel
theorem dX12_whose_3 : decode cX12_whose 3 = .ok (.istore_n 2, 1) := by decide +kernel
theorem dX12_whose_4 : decode cX12_whose 4 = .ok (.iload_n 2, 1) := by decide +kernel
theorem dX12_whose_5 : decode cX12_whose 5 = .ok (.aload_n 0, 1) := by decide +kernel
theorem dX12_whose_6 : decode cX12_whose 6 = .ok (.getfield 7, 3) := by decide +kernel
theorem dX12_whose_9 : decode cX12_whose 9 = .ok (.iconst 2, 1) := by decide +kernel
theorem dX12_whose_10 : decode cX12_whose 10 = .ok (.iaload, 1) := by decide +kernel
theorem dX12_whose_11 : decode cX12_whose 11 = .ok (.if_icmp .ge 97, 3) := by decide +kernel
theorem dX12_whose_14 : decode cX12_whose 14 = .ok (.iconst 1, 1) := by decide +kernel
theorem dX12_whose_15 : decode cX12_whose 15 = .ok (.istore_n 3, 1) := by decide +kernel
theorem dX12_whose_16 : decode cX12_whose 16 = .ok (.sipush 207, 3) := by decide +kernel
theorem dX12_whose_19 : decode cX12_whose 19 = .ok (.istore 4, 2) := by decide +kernel
theorem dX12_whose_21 : decode cX12_whose 21 = .ok (.iload 4, 2) := by decide +kernel
theorem dX12_whose_23 : decode cX12_whose 23 = .ok (.sipush 207, 3) := by decide +kernel
theorem dX12_whose_26 : decode cX12_whose 26 = .ok (.iconst 3, 1) := by decide +kernel
theorem dX12_whose_27 : decode cX12_whose 27 = .ok (.aload_n 0, 1) := by decide +kernel
theorem dX12_whose_28 : decode cX12_whose 28 = .ok (.getfield 7, 3) := by decide +kernel
theorem dX12_whose_31 : decode cX12_whose 31 = .ok (.bipush 6, 2) := by decide +kernel
theorem dX12_whose_33 : decode cX12_whose 33 = .ok (.iaload, 1) := by decide +kernel
theorem dX12_whose_34 : decode cX12_whose 34 = .ok (.imul, 1) := by decide +kernel
theorem dX12_whose_35 : decode cX12_whose 35 = .ok (.iadd, 1) := by decide +kernel
theorem dX12_whose_36 : decode cX12_whose 36 = .ok (.if_icmp .ge 52, 3) := by decide +kernel
theorem dX12_whose_39 : decode cX12_whose 39 = .ok (.iload_n 3, 1) := by decide +kernel
theorem dX12_whose_40 : decode cX12_whose 40 = .ok (.ifCond .eq 40, 3) := by decide +kernel
theorem dX12_whose_43 : decode cX12_whose 43 = .ok (.aload_n 0, 1) := by decide +kernel
theorem dX12_whose_44 : decode cX12_whose 44 = .ok (.iload_n 2, 1) := by decide +kernel
theorem dX12_whose_45 : decode cX12_whose 45 = .ok (.aload_n 0, 1) := by decide +kernel
theorem dX12_whose_46 : decode cX12_whose 46 = .ok (.getfield 7, 3) := by decide +kernel
theorem dX12_whose_49 : decode cX12_whose 49 = .ok (.iload 4, 2) := by decide +kernel
theorem dX12_whose_51 : decode cX12_whose 51 = .ok (.iaload, 1) := by decide +kernel
theorem dX12_whose_52 : decode cX12_whose 52 = .ok (.aload_n 0, 1) := by decide +kernel
theorem dX12_whose_53 : decode cX12_whose 53 = .ok (.getfield 7, 3) := by decide +kernel
theorem dX12_whose_56 : decode cX12_whose 56 = .ok (.iload 4, 2) := by decide +kernel
theorem dX12_whose_58 : decode cX12_whose 58 = .ok (.iconst 1, 1) := by decide +kernel
theorem dX12_whose_59 : decode cX12_whose 59 = .ok (.iadd, 1) := by decide +kernel
theorem dX12_whose_60 : decode cX12_whose 60 = .ok (.iaload, 1) := by decide +kernel
theorem dX12_whose_61 : decode cX12_whose 61 = .ok (.invokevirtual 319, 3) := by decide +kernel
theorem dX12_whose_64 : decode cX12_whose 64 = .ok (.aload_n 0, 1) := by decide +kernel
theorem dX12_whose_65 : decode cX12_whose 65 = .ok (.getfield 7, 3) := by decide +kernel
theorem dX12_whose_68 : decode cX12_whose 68 = .ok (.iload 4, 2) := by decide +kernel
theorem dX12_whose_70 : decode cX12_whose 70 = .ok (.iconst 2, 1) := by decide +kernel
theorem dX12_whose_71 : decode cX12_whose 71 = .ok (.iadd, 1) := by decide +kernel
theorem dX12_whose_72 : decode cX12_whose 72 = .ok (.iaload, 1) := by decide +kernel
theorem dX12_whose_73 : decode cX12_whose 73 = .ok (.if_icmp .ne 7, 3) := by decide +kernel
theorem dX12_whose_76 : decode cX12_whose 76 = .ok (.iconst 1, 1) := by decide +kernel
theorem dX12_whose_77 : decode cX12_whose 77 = .ok (.goto 4, 3) := by decide +kernel
theorem dX12_whose_80 : decode cX12_whose 80 = .ok (.iconst 0, 1) := by decide +kernel
theorem dX12_whose_81 : decode cX12_whose 81 = .ok (.istore_n 3, 1) := by decide +kernel
theorem dX12_whose_82 : decode cX12_whose 82 = .ok (.iinc 4 3, 3) := by decide +kernel
theorem dX12_whose_85 : decode cX12_whose 85 = .ok (.goto (-64), 3) := by decide +kernel
theorem dX12_whose_88 : decode cX12_whose 88 = .ok (.iload_n 1, 1) := by decide +kernel
theorem dX12_whose_89 : decode cX12_whose 89 = .ok (.iload_n 3, 1) := by decide +kernel
theorem dX12_whose_90 : decode cX12_whose 90 = .ok (.ifCond .eq 9, 3) := by decide +kernel
theorem dX12_whose_93 : decode cX12_whose 93 = .ok (.iconst 1, 1) := by decide +kernel
theorem dX12_whose_94 : decode cX12_whose 94 = .ok (.iload_n 2, 1) := by decide +kernel
theorem dX12_whose_95 : decode cX12_whose 95 = .ok (.ishl, 1) := by decide +kernel
theorem dX12_whose_96 : decode cX12_whose 96 = .ok (.goto 4, 3) := by decide +kernel
theorem dX12_whose_99 : decode cX12_whose 99 = .ok (.iconst 0, 1) := by decide +kernel
theorem dX12_whose_100 : decode cX12_whose 100 = .ok (.ior, 1) := by decide +kernel
theorem dX12_whose_101 : decode cX12_whose 101 = .ok (.istore_n 1, 1) := by decide +kernel
theorem dX12_whose_102 : decode cX12_whose 102 = .ok (.iinc 2 1, 3) := by decide +kernel
theorem dX12_whose_105 : decode cX12_whose 105 = .ok (.goto (-101), 3) := by decide +kernel
theorem dX12_whose_108 : decode cX12_whose 108 = .ok (.iload_n 1, 1) := by decide +kernel
theorem dX12_whose_109 : decode cX12_whose 109 = .ok (.ireturn, 1) := by decide +kernel
def m12_whose : pMT := (yX12_whose, cX12_whose, 5, some .int)
theorem mo12_whose : mOK m12_whose 0 := ⟨tb_i 1983 (by decide +kernel), wi_RX12, ⟨wn_RX12.1, wn_RX12.2, by decide +kernel⟩, by decide, plainFor_of_name wp_RX12⟩
theorem mv12_whose : mV m12_whose := ⟨tb_i 1981 (by decide +kernel), tb_i 1982 (by decide +kernel)⟩
def f12_whose_c21 (n : Nat) (O : (Nat → Nat → Option Nat)) (k4 : ((Nat → Nat → Int32) → (Nat → Nat → Int64) → Nat → Int32 → Int32 → Option (Int32 × (Nat → Nat → Int32) × (Nat → Nat → Int64)))) : Nat → (Nat → Nat → Int32) → (Nat → Nat → Int64) → Nat → Int32 → Int32 → Int32 → Int32 → Option (Int32 × (Nat → Nat → Int32) × (Nat → Nat → Int64))
  | 0, _, _, _, _, _, _, _ => none
  | m + 1, I, L, b0, y1, y2, y3, y4 => (if ((207 : Int32) + ((3 : Int32) * (I (rO O b0 0) 6))) ≤ y4 then (if y3 = 0 then k4 I L b0 (y1 ||| 0) (y2 + 1) else bl ((y1 ||| ((1 : Int32) <<< (y2 &&& 31))) : Int32) fun z4 => k4 I L b0 z4 (y2 + 1)) else (if y3 = 0 then f12_whose_c21 n O k4 m I L b0 y1 y2 (0 : Int32) (y4 + 3) else (if y4 < 0 ∨ 4371 ≤ y4.toNatClampNeg then none else (if (y4 + 1) < 0 ∨ 4371 ≤ (y4 + 1).toNatClampNeg then none else (f12_learnsOf n I L O b0 y2 (I (rO O b0 0) y4.toNatClampNeg) (I (rO O b0 0) (y4 + 1).toNatClampNeg)).bind fun r8 => (if (y4 + 2) < 0 ∨ 4371 ≤ (y4 + 2).toNatClampNeg then none else (if r8.1 = (r8.2.1 (rO O b0 0) (y4 + 2).toNatClampNeg) then f12_whose_c21 n O k4 m r8.2.1 r8.2.2 b0 y1 y2 (1 : Int32) (y4 + 3) else f12_whose_c21 n O k4 m r8.2.1 r8.2.2 b0 y1 y2 (0 : Int32) (y4 + 3)))))))
set_option maxHeartbeats 4000000 in
set_option maxRecDepth 20000 in
theorem o12_whose_c21 {g : pG} {Qx : Option Value → pW → Prop} {Z : pZ} {O : (Nat → Nat → Option Nat)} {n : Nat} {k4 : ((Nat → Nat → Int32) → (Nat → Nat → Int64) → Nat → Int32 → Int32 → Option (Int32 × (Nat → Nat → Int32) × (Nat → Nat → Int64)))} {res : Int32 × (Nat → Nat → Int32) × (Nat → Nat → Int64)} (d : Nat) (hW : WT Z O) (hQ : Qx (some (.int res.1)) (Z, res.2.1, res.2.2, O)) (hk4 : ∀ (I : (Nat → Nat → Int32)) (L : (Nat → Nat → Int64)) (b0 : Nat) (y1 : Int32) (y2 : Int32), (Z[b0]? = some (12, 34)) → k4 I L b0 y1 y2 = some res → Ok g (d + 9, RX12, cX12_whose, 5, false, 0, 0, Z.length, pSl Z) Qx 4 [(0, .ref b0), (1, .int y1), (2, .int y2)] [] (Z, I, L, O)) : ∀ (m : Nat) (I : (Nat → Nat → Int32)) (L : (Nat → Nat → Int64)) (b0 : Nat) (y1 : Int32) (y2 : Int32) (y3 : Int32) (y4 : Int32), (Z[b0]? = some (12, 34)) → f12_whose_c21 n O k4 m I L b0 y1 y2 y3 y4 = some res → Ok g (d + 9, RX12, cX12_whose, 5, false, 0, 0, Z.length, pSl Z) Qx 21 [(0, .ref b0), (1, .int y1), (2, .int y2), (3, .int y3), (4, .int y4)] [] (Z, I, L, O) := by
  intro m
  induction m with
  | zero => intro I L b0 y1 y2 y3 y4 hZ_b0 h; rw [f12_whose_c21] at h; cases h
  | succ m ih =>
    intro I L b0 y1 y2 y3 y4 hZ_b0 h
    rw [f12_whose_c21] at h
    refine ok_iload dX12_whose_21 4 rfl ?_
    refine ok_sipush (v := 207) dX12_whose_23 (by decide) ?_
    refine ok_iconst (v := 3) dX12_whose_26 (by decide) ?_
    refine ok_aload_n dX12_whose_27 0 rfl ?_
    have hT1 : Z[(rO O b0 0)]? = some (13, 4371) := (wt_f (ci := 12) (k := 0) hW hZ_b0 rfl).2
    refine ok_getR (ci := 12) (k := 0) dX12_whose_28 flRX12_7 rfl hW hZ_b0 (by decide) ?_
    refine ok_bipush (v := 6) dX12_whose_31 (by decide) ?_
    refine ok_iald2 (N := 6) dX12_whose_33 hT1 (by unfold vp_in; decide) (by decide) ?_
    refine ok_imul dX12_whose_34 ?_
    refine ok_iadd dX12_whose_35 ?_
    refine ok_icmp_ge (t := 88) dX12_whose_36 (by decide) (fun hc2 => ?_) (fun hc2 => ?_)
    · have h := (if_pos hc2).symm.trans h
      refine ok_iload_n dX12_whose_88 1 rfl ?_
      refine ok_iload_n dX12_whose_89 3 rfl ?_
      refine ok_if_eq (t := 99) dX12_whose_90 (by decide) (fun hc3 => ?_) (fun hc3 => ?_)
      · have h := (if_pos hc3).symm.trans h
        refine ok_iconst (v := 0) dX12_whose_99 (by decide) ?_
        refine ok_ior dX12_whose_100 ?_
        refine ok_istore_n (l' := [(1, .int (y1 ||| 0)), (0, .ref b0), (2, .int y2), (3, .int y3), (4, .int y4)]) dX12_whose_101 rfl (Nat.le_of_ble_eq_true rfl) rfl ?_
        refine ok_iinc (u := (y2 + 1)) (l' := [(2, .int (y2 + 1)), (1, .int (y1 ||| 0)), (0, .ref b0), (3, .int y3), (4, .int y4)]) dX12_whose_102 2 rfl rfl (Nat.le_of_ble_eq_true rfl) rfl ?_
        refine ok_goto (t := 4) dX12_whose_105 (by decide) ?_
        refine ok_sub [2, 1, 0] rfl ?_
        exact hk4 I L b0 (y1 ||| 0) (y2 + 1) hZ_b0 h
      · have h := (if_neg hc3).symm.trans h
        refine ok_iconst (v := 1) dX12_whose_93 (by decide) ?_
        refine ok_iload_n dX12_whose_94 2 rfl ?_
        refine ok_ishl dX12_whose_95 ?_
        refine ok_goto (t := 100) dX12_whose_96 (by decide) ?_
        refine ok_ior dX12_whose_100 ?_
        obtain ⟨z4, ez4, h⟩ := blE h
        refine ok_nm ez4 ?_
        refine ok_istore_n (l' := [(1, .int z4), (0, .ref b0), (2, .int y2), (3, .int y3), (4, .int y4)]) dX12_whose_101 rfl (Nat.le_of_ble_eq_true rfl) rfl ?_
        refine ok_iinc (u := (y2 + 1)) (l' := [(2, .int (y2 + 1)), (1, .int z4), (0, .ref b0), (3, .int y3), (4, .int y4)]) dX12_whose_102 2 rfl rfl (Nat.le_of_ble_eq_true rfl) rfl ?_
        refine ok_goto (t := 4) dX12_whose_105 (by decide) ?_
        refine ok_sub [2, 1, 0] rfl ?_
        exact hk4 I L b0 z4 (y2 + 1) hZ_b0 h
    · have h := (if_neg hc2).symm.trans h
      refine ok_iload_n dX12_whose_39 3 rfl ?_
      refine ok_if_eq (t := 80) dX12_whose_40 (by decide) (fun hc5 => ?_) (fun hc5 => ?_)
      · have h := (if_pos hc5).symm.trans h
        refine ok_iconst (v := 0) dX12_whose_80 (by decide) ?_
        refine ok_istore_n (l' := [(3, .int 0), (0, .ref b0), (1, .int y1), (2, .int y2), (4, .int y4)]) dX12_whose_81 rfl (Nat.le_of_ble_eq_true rfl) rfl ?_
        refine ok_iinc (u := (y4 + 3)) (l' := [(4, .int (y4 + 3)), (3, .int 0), (0, .ref b0), (1, .int y1), (2, .int y2)]) dX12_whose_82 4 rfl rfl (Nat.le_of_ble_eq_true rfl) rfl ?_
        refine ok_goto (t := 21) dX12_whose_85 (by decide) ?_
        refine ok_sub [2, 3, 4, 1, 0] rfl ?_
        exact ih I L b0 y1 y2 (0 : Int32) (y4 + 3) hZ_b0 h
      · have h := (if_neg hc5).symm.trans h
        refine ok_aload_n dX12_whose_43 0 rfl ?_
        refine ok_iload_n dX12_whose_44 2 rfl ?_
        refine ok_aload_n dX12_whose_45 0 rfl ?_
        refine ok_getR (ci := 12) (k := 0) dX12_whose_46 flRX12_7 rfl hW hZ_b0 (by decide) ?_
        refine ok_iload dX12_whose_49 4 rfl ?_
        obtain ⟨hg6, h⟩ := gd h
        refine ok_iald2 (N := y4.toNatClampNeg) dX12_whose_51 hT1 hg6 rfl ?_
        refine ok_aload_n dX12_whose_52 0 rfl ?_
        refine ok_getR (ci := 12) (k := 0) dX12_whose_53 flRX12_7 rfl hW hZ_b0 (by decide) ?_
        refine ok_iload dX12_whose_56 4 rfl ?_
        refine ok_iconst (v := 1) dX12_whose_58 (by decide) ?_
        refine ok_iadd dX12_whose_59 ?_
        obtain ⟨hg7, h⟩ := gd h
        refine ok_iald2 (N := (y4 + 1).toNatClampNeg) dX12_whose_60 hT1 hg7 rfl ?_
        obtain ⟨r8, hr9, h⟩ := bd h
        refine ok_callV (d := ((d + 0) + 8)) (mt := m12_learnsOf) (mc := 0) (ms := 0) (As := [.int y2, .int (I (rO O b0 0) y4.toNatClampNeg), .int (I (rO O b0 0) (y4 + 1).toNatClampNeg)]) (r := []) dX12_whose_61 mo12_learnsOf mv12_learnsOf lkRX12_319 rfl hZ_b0 (q := (RX12, TX12, 34)) rfl rfl rfl (Nat.le_of_ble_eq_true rfl) (by show _ + 1 ≤ d + _; omega) (Nat.le_refl _) (Nat.le_refl _) (pRt_mono ?_)
        refine k12_learnsOf (d + 0) hW hZ_b0 hr9 ?_
        intro _
        show Ok g _ Qx 64 [(0, .ref b0), (1, .int y1), (2, .int y2), (3, .int y3), (4, .int y4)] [.int r8.1] (Z, r8.2.1, r8.2.2, O)
        refine ok_aload_n dX12_whose_64 0 rfl ?_
        refine ok_getR (ci := 12) (k := 0) dX12_whose_65 flRX12_7 rfl hW hZ_b0 (by decide) ?_
        refine ok_iload dX12_whose_68 4 rfl ?_
        refine ok_iconst (v := 2) dX12_whose_70 (by decide) ?_
        refine ok_iadd dX12_whose_71 ?_
        obtain ⟨hg10, h⟩ := gd h
        refine ok_iald2 (N := (y4 + 2).toNatClampNeg) dX12_whose_72 hT1 hg10 rfl ?_
        refine ok_icmp_ne (t := 80) dX12_whose_73 (by decide) (fun hc11 => ?_) (fun hc11 => ?_)
        · have h := (if_neg hc11).symm.trans h
          refine ok_iconst (v := 0) dX12_whose_80 (by decide) ?_
          refine ok_istore_n (l' := [(3, .int 0), (0, .ref b0), (1, .int y1), (2, .int y2), (4, .int y4)]) dX12_whose_81 rfl (Nat.le_of_ble_eq_true rfl) rfl ?_
          refine ok_iinc (u := (y4 + 3)) (l' := [(4, .int (y4 + 3)), (3, .int 0), (0, .ref b0), (1, .int y1), (2, .int y2)]) dX12_whose_82 4 rfl rfl (Nat.le_of_ble_eq_true rfl) rfl ?_
          refine ok_goto (t := 21) dX12_whose_85 (by decide) ?_
          refine ok_sub [2, 3, 4, 1, 0] rfl ?_
          exact ih r8.2.1 r8.2.2 b0 y1 y2 (0 : Int32) (y4 + 3) hZ_b0 h
        · have h := (if_pos hc11).symm.trans h
          refine ok_iconst (v := 1) dX12_whose_76 (by decide) ?_
          refine ok_goto (t := 81) dX12_whose_77 (by decide) ?_
          refine ok_istore_n (l' := [(3, .int 1), (0, .ref b0), (1, .int y1), (2, .int y2), (4, .int y4)]) dX12_whose_81 rfl (Nat.le_of_ble_eq_true rfl) rfl ?_
          refine ok_iinc (u := (y4 + 3)) (l' := [(4, .int (y4 + 3)), (3, .int 1), (0, .ref b0), (1, .int y1), (2, .int y2)]) dX12_whose_82 4 rfl rfl (Nat.le_of_ble_eq_true rfl) rfl ?_
          refine ok_goto (t := 21) dX12_whose_85 (by decide) ?_
          refine ok_sub [2, 3, 4, 1, 0] rfl ?_
          exact ih r8.2.1 r8.2.2 b0 y1 y2 (1 : Int32) (y4 + 3) hZ_b0 h
def f12_whose_c4 (n : Nat) (O : (Nat → Nat → Option Nat)) : Nat → (Nat → Nat → Int32) → (Nat → Nat → Int64) → Nat → Int32 → Int32 → Option (Int32 × (Nat → Nat → Int32) × (Nat → Nat → Int64))
  | 0, _, _, _, _, _ => none
  | m + 1, I, L, b0, y1, y2 => (if (I (rO O b0 0) 2) ≤ y2 then some (y1, I, L) else f12_whose_c21 n O (f12_whose_c4 n O m) n I L b0 y1 y2 (1 : Int32) (207 : Int32))
set_option maxHeartbeats 4000000 in
set_option maxRecDepth 20000 in
theorem o12_whose_c4 {g : pG} {Qx : Option Value → pW → Prop} {Z : pZ} {O : (Nat → Nat → Option Nat)} {n : Nat} {res : Int32 × (Nat → Nat → Int32) × (Nat → Nat → Int64)} (d : Nat) (hW : WT Z O) (hQ : Qx (some (.int res.1)) (Z, res.2.1, res.2.2, O)) : ∀ (m : Nat) (I : (Nat → Nat → Int32)) (L : (Nat → Nat → Int64)) (b0 : Nat) (y1 : Int32) (y2 : Int32), (Z[b0]? = some (12, 34)) → f12_whose_c4 n O m I L b0 y1 y2 = some res → Ok g (d + 9, RX12, cX12_whose, 5, false, 0, 0, Z.length, pSl Z) Qx 4 [(0, .ref b0), (1, .int y1), (2, .int y2)] [] (Z, I, L, O) := by
  intro m
  induction m with
  | zero => intro I L b0 y1 y2 hZ_b0 h; rw [f12_whose_c4] at h; cases h
  | succ m ih =>
    intro I L b0 y1 y2 hZ_b0 h
    rw [f12_whose_c4] at h
    refine ok_iload_n dX12_whose_4 2 rfl ?_
    refine ok_aload_n dX12_whose_5 0 rfl ?_
    have hT1 : Z[(rO O b0 0)]? = some (13, 4371) := (wt_f (ci := 12) (k := 0) hW hZ_b0 rfl).2
    refine ok_getR (ci := 12) (k := 0) dX12_whose_6 flRX12_7 rfl hW hZ_b0 (by decide) ?_
    refine ok_iconst (v := 2) dX12_whose_9 (by decide) ?_
    refine ok_iald2 (N := 2) dX12_whose_10 hT1 (by unfold vp_in; decide) (by decide) ?_
    refine ok_icmp_ge (t := 108) dX12_whose_11 (by decide) (fun hc2 => ?_) (fun hc2 => ?_)
    · have h := (if_pos hc2).symm.trans h
      refine ok_iload_n dX12_whose_108 1 rfl ?_
      cases h
      exact ok_iret dX12_whose_109 hQ
    · have h := (if_neg hc2).symm.trans h
      refine ok_iconst (v := 1) dX12_whose_14 (by decide) ?_
      refine ok_istore_n (l' := [(3, .int 1), (0, .ref b0), (1, .int y1), (2, .int y2)]) dX12_whose_15 rfl (Nat.le_of_ble_eq_true rfl) rfl ?_
      refine ok_sipush (v := 207) dX12_whose_16 (by decide) ?_
      refine ok_istore (l' := [(4, .int 207), (3, .int 1), (0, .ref b0), (1, .int y1), (2, .int y2)]) dX12_whose_19 (Nat.le_of_ble_eq_true rfl) rfl ?_
      refine ok_sub [2, 3, 4, 1, 0] rfl ?_
      exact o12_whose_c21 d hW hQ ih n I L b0 y1 y2 (1 : Int32) (207 : Int32) hZ_b0 h
def f12_whose (n : Nat) (I : (Nat → Nat → Int32)) (L : (Nat → Nat → Int64)) (O : (Nat → Nat → Option Nat)) (a0 : Nat) : Option (Int32 × (Nat → Nat → Int32) × (Nat → Nat → Int64)) := f12_whose_c4 n O n I L a0 (0 : Int32) (0 : Int32)
set_option maxHeartbeats 4000000 in
set_option maxRecDepth 20000 in
theorem o12_whose {g : pG} {Qx : Option Value → pW → Prop} {Z : pZ} {I : (Nat → Nat → Int32)} {L : (Nat → Nat → Int64)} {O : (Nat → Nat → Option Nat)} {n : Nat} {a0 : Nat} {res : Int32 × (Nat → Nat → Int32) × (Nat → Nat → Int64)} (d : Nat) (hW : WT Z O) (hZ0 : Z[a0]? = some (12, 34)) (h : f12_whose n I L O a0 = some res) (hQ : Qx (some (.int res.1)) (Z, res.2.1, res.2.2, O)) : Ok g (d + 9, RX12, cX12_whose, 5, false, 0, 0, Z.length, pSl Z) Qx 0 [(0, .ref a0)] [] (Z, I, L, O) := by
  unfold f12_whose at h
  refine ok_iconst (v := 0) dX12_whose_0 (by decide) ?_
  refine ok_istore_n (l' := [(1, .int 0), (0, .ref a0)]) dX12_whose_1 rfl (Nat.le_of_ble_eq_true rfl) rfl ?_
  refine ok_iconst (v := 0) dX12_whose_2 (by decide) ?_
  refine ok_istore_n (l' := [(2, .int 0), (1, .int 0), (0, .ref a0)]) dX12_whose_3 rfl (Nat.le_of_ble_eq_true rfl) rfl ?_
  refine ok_sub [2, 1, 0] rfl ?_
  exact o12_whose_c4 d hW hQ  n I L a0 (0 : Int32) (0 : Int32) hZ0 h
theorem k12_whose {g : pG} {Q : Option Value → pW → Prop} {Z : pZ} {I : (Nat → Nat → Int32)} {L : (Nat → Nat → Int64)} {O : (Nat → Nat → Option Nat)} {n : Nat} {a0 : Nat} {res : Int32 × (Nat → Nat → Int32) × (Nat → Nat → Int64)} (d : Nat) (hW : WT Z O) (hZ0 : Z[a0]? = some (12, 34)) (h : f12_whose n I L O a0 = some res) (hQ : Q (some (.int res.1)) (Z, res.2.1, res.2.2, O)) : CT g (d + 9) m12_whose 0 0 [.ref a0] (Z, I, L, O) Q :=
  ct_of_ok (mt := m12_whose) (ini := false) mo12_whose.2.2.2.2 (fun h => by cases h) (Nat.le_of_ble_eq_true rfl) (o12_whose d hW hZ0 h ⟨trivial, hQ, rfl, rfl⟩)
theorem dX12_image_0 : decode cX12_image 0 = .ok (.aload_n 0, 1) := by decide +kernel
theorem dX12_image_1 : decode cX12_image 1 = .ok (.getfield 7, 3) := by decide +kernel
theorem dX12_image_4 : decode cX12_image 4 = .ok (.aload_n 0, 1) := by decide +kernel
theorem dX12_image_5 : decode cX12_image 5 = .ok (.getfield 13, 3) := by decide +kernel
theorem dX12_image_8 : decode cX12_image 8 = .ok (.invokestatic 71, 3) := by decide +kernel
theorem dX12_image_11 : decode cX12_image 11 = .ok (.aload_n 0, 1) := by decide +kernel
theorem dX12_image_12 : decode cX12_image 12 = .ok (.getfield 7, 3) := by decide +kernel
theorem dX12_image_15 : decode cX12_image 15 = .ok (.bipush 7, 2) := by decide +kernel
theorem dX12_image_17 : decode cX12_image 17 = .ok (.iaload, 1) := by decide +kernel
theorem dX12_image_18 : decode cX12_image 18 = .ok (.ireturn, 1) := by decide +kernel
def m12_image : pMT := (yX12_image, cX12_image, 1, some .int)
theorem mo12_image : mOK m12_image 0 := ⟨tb_i 1987 (by decide +kernel), wi_RX12, ⟨wn_RX12.1, wn_RX12.2, by decide +kernel⟩, by decide, plainFor_of_name wp_RX12⟩
theorem mv12_image : mV m12_image := ⟨tb_i 1985 (by decide +kernel), tb_i 1986 (by decide +kernel)⟩
def f12_image (n : Nat) (I : (Nat → Nat → Int32)) (O : (Nat → Nat → Option Nat)) (a0 : Nat) : Option (Int32 × (Nat → Nat → Int32)) := (f12_copy n I (rO O a0 0) (rO O a0 1)).bind fun r3 => some ((r3 (rO O a0 0) 7), r3)
set_option maxHeartbeats 4000000 in
set_option maxRecDepth 20000 in
theorem o12_image {g : pG} {Qx : Option Value → pW → Prop} {Z : pZ} {I : (Nat → Nat → Int32)} {L : (Nat → Nat → Int64)} {O : (Nat → Nat → Option Nat)} {n : Nat} {a0 : Nat} {res : Int32 × (Nat → Nat → Int32)} (d : Nat) (hW : WT Z O) (hZ0 : Z[a0]? = some (12, 34)) (h : f12_image n I O a0 = some res) (hQ : Qx (some (.int res.1)) (Z, res.2, L, O)) : Ok g (d + 3, RX12, cX12_image, 1, false, 0, 0, Z.length, pSl Z) Qx 0 [(0, .ref a0)] [] (Z, I, L, O) := by
  unfold f12_image at h
  refine ok_aload_n dX12_image_0 0 rfl ?_
  have hT1 : Z[(rO O a0 0)]? = some (13, 4371) := (wt_f (ci := 12) (k := 0) hW hZ0 rfl).2
  refine ok_getR (ci := 12) (k := 0) dX12_image_1 flRX12_7 rfl hW hZ0 (by decide) ?_
  refine ok_aload_n dX12_image_4 0 rfl ?_
  have hT2 : Z[(rO O a0 1)]? = some (13, 4371) := (wt_f (ci := 12) (k := 1) hW hZ0 rfl).2
  refine ok_getR (ci := 12) (k := 1) dX12_image_5 flRX12_13 rfl hW hZ0 (by decide) ?_
  obtain ⟨r3, hr4, h⟩ := bd h
  refine ok_callS (d := ((d + 0) + 2)) (mt := m12_copy) (mc := 0) (ms := 0) (As := [.ref (rO O a0 0), .ref (rO O a0 1)]) (r := []) dX12_image_8 mo12_copy mv12_copy lkRX12_71 rfl rfl (Nat.le_of_ble_eq_true rfl) (by show _ + 1 ≤ d + _; omega) (Nat.le_refl _) (Nat.le_refl _) (pRt_mono ?_)
  refine k12_copy (d + 0) hW hT1 hT2 hr4 ?_
  intro _
  show Ok g _ Qx 11 [(0, .ref a0)] [] (Z, r3, L, O)
  refine ok_aload_n dX12_image_11 0 rfl ?_
  refine ok_getR (ci := 12) (k := 0) dX12_image_12 flRX12_7 rfl hW hZ0 (by decide) ?_
  refine ok_bipush (v := 7) dX12_image_15 (by decide) ?_
  refine ok_iald2 (N := 7) dX12_image_17 hT1 (by unfold vp_in; decide) (by decide) ?_
  cases h
  exact ok_iret dX12_image_18 hQ
theorem k12_image {g : pG} {Q : Option Value → pW → Prop} {Z : pZ} {I : (Nat → Nat → Int32)} {L : (Nat → Nat → Int64)} {O : (Nat → Nat → Option Nat)} {n : Nat} {a0 : Nat} {res : Int32 × (Nat → Nat → Int32)} (d : Nat) (hW : WT Z O) (hZ0 : Z[a0]? = some (12, 34)) (h : f12_image n I O a0 = some res) (hQ : Q (some (.int res.1)) (Z, res.2, L, O)) : CT g (d + 3) m12_image 0 0 [.ref a0] (Z, I, L, O) Q :=
  ct_of_ok (mt := m12_image) (ini := false) mo12_image.2.2.2.2 (fun h => by cases h) (Nat.le_of_ble_eq_true rfl) (o12_image d hW hZ0 h ⟨trivial, hQ, rfl, rfl⟩)
theorem dX12_back_0 : decode cX12_back 0 = .ok (.aload_n 0, 1) := by decide +kernel
theorem dX12_back_1 : decode cX12_back 1 = .ok (.getfield 13, 3) := by decide +kernel
theorem dX12_back_4 : decode cX12_back 4 = .ok (.aload_n 0, 1) := by decide +kernel
theorem dX12_back_5 : decode cX12_back 5 = .ok (.getfield 7, 3) := by decide +kernel
theorem dX12_back_8 : decode cX12_back 8 = .ok (.invokestatic 71, 3) := by decide +kernel
theorem dX12_back_11 : decode cX12_back 11 = .ok (.aload_n 0, 1) := by decide +kernel
theorem dX12_back_12 : decode cX12_back 12 = .ok (.getfield 7, 3) := by decide +kernel
theorem dX12_back_15 : decode cX12_back 15 = .ok (.bipush 7, 2) := by decide +kernel
theorem dX12_back_17 : decode cX12_back 17 = .ok (.iaload, 1) := by decide +kernel
theorem dX12_back_18 : decode cX12_back 18 = .ok (.ireturn, 1) := by decide +kernel
def m12_back : pMT := (yX12_back, cX12_back, 1, some .int)
theorem mo12_back : mOK m12_back 0 := ⟨tb_i 1991 (by decide +kernel), wi_RX12, ⟨wn_RX12.1, wn_RX12.2, by decide +kernel⟩, by decide, plainFor_of_name wp_RX12⟩
theorem mv12_back : mV m12_back := ⟨tb_i 1989 (by decide +kernel), tb_i 1990 (by decide +kernel)⟩
def f12_back (n : Nat) (I : (Nat → Nat → Int32)) (O : (Nat → Nat → Option Nat)) (a0 : Nat) : Option (Int32 × (Nat → Nat → Int32)) := (f12_copy n I (rO O a0 1) (rO O a0 0)).bind fun r3 => some ((r3 (rO O a0 0) 7), r3)
set_option maxHeartbeats 4000000 in
set_option maxRecDepth 20000 in
theorem o12_back {g : pG} {Qx : Option Value → pW → Prop} {Z : pZ} {I : (Nat → Nat → Int32)} {L : (Nat → Nat → Int64)} {O : (Nat → Nat → Option Nat)} {n : Nat} {a0 : Nat} {res : Int32 × (Nat → Nat → Int32)} (d : Nat) (hW : WT Z O) (hZ0 : Z[a0]? = some (12, 34)) (h : f12_back n I O a0 = some res) (hQ : Qx (some (.int res.1)) (Z, res.2, L, O)) : Ok g (d + 3, RX12, cX12_back, 1, false, 0, 0, Z.length, pSl Z) Qx 0 [(0, .ref a0)] [] (Z, I, L, O) := by
  unfold f12_back at h
  refine ok_aload_n dX12_back_0 0 rfl ?_
  have hT1 : Z[(rO O a0 1)]? = some (13, 4371) := (wt_f (ci := 12) (k := 1) hW hZ0 rfl).2
  refine ok_getR (ci := 12) (k := 1) dX12_back_1 flRX12_13 rfl hW hZ0 (by decide) ?_
  refine ok_aload_n dX12_back_4 0 rfl ?_
  have hT2 : Z[(rO O a0 0)]? = some (13, 4371) := (wt_f (ci := 12) (k := 0) hW hZ0 rfl).2
  refine ok_getR (ci := 12) (k := 0) dX12_back_5 flRX12_7 rfl hW hZ0 (by decide) ?_
  obtain ⟨r3, hr4, h⟩ := bd h
  refine ok_callS (d := ((d + 0) + 2)) (mt := m12_copy) (mc := 0) (ms := 0) (As := [.ref (rO O a0 1), .ref (rO O a0 0)]) (r := []) dX12_back_8 mo12_copy mv12_copy lkRX12_71 rfl rfl (Nat.le_of_ble_eq_true rfl) (by show _ + 1 ≤ d + _; omega) (Nat.le_refl _) (Nat.le_refl _) (pRt_mono ?_)
  refine k12_copy (d + 0) hW hT1 hT2 hr4 ?_
  intro _
  show Ok g _ Qx 11 [(0, .ref a0)] [] (Z, r3, L, O)
  refine ok_aload_n dX12_back_11 0 rfl ?_
  refine ok_getR (ci := 12) (k := 0) dX12_back_12 flRX12_7 rfl hW hZ0 (by decide) ?_
  refine ok_bipush (v := 7) dX12_back_15 (by decide) ?_
  refine ok_iald2 (N := 7) dX12_back_17 hT2 (by unfold vp_in; decide) (by decide) ?_
  cases h
  exact ok_iret dX12_back_18 hQ
theorem k12_back {g : pG} {Q : Option Value → pW → Prop} {Z : pZ} {I : (Nat → Nat → Int32)} {L : (Nat → Nat → Int64)} {O : (Nat → Nat → Option Nat)} {n : Nat} {a0 : Nat} {res : Int32 × (Nat → Nat → Int32)} (d : Nat) (hW : WT Z O) (hZ0 : Z[a0]? = some (12, 34)) (h : f12_back n I O a0 = some res) (hQ : Q (some (.int res.1)) (Z, res.2, L, O)) : CT g (d + 3) m12_back 0 0 [.ref a0] (Z, I, L, O) Q :=
  ct_of_ok (mt := m12_back) (ini := false) mo12_back.2.2.2.2 (fun h => by cases h) (Nat.le_of_ble_eq_true rfl) (o12_back d hW hZ0 h ⟨trivial, hQ, rfl, rfl⟩)
theorem dX12_about_0 : decode cX12_about 0 = .ok (.iload_n 1, 1) := by decide +kernel
theorem dX12_about_1 : decode cX12_about 1 = .ok (.iconst 0, 1) := by decide +kernel
theorem dX12_about_2 : decode cX12_about 2 = .ok (.bipush 6, 2) := by decide +kernel
theorem dX12_about_4 : decode cX12_about 4 = .ok (.invokestatic 75, 3) := by decide +kernel
theorem dX12_about_7 : decode cX12_about 7 = .ok (.ifCond .eq 12, 3) := by decide +kernel
theorem dX12_about_10 : decode cX12_about 10 = .ok (.aload_n 0, 1) := by decide +kernel
theorem dX12_about_11 : decode cX12_about 11 = .ok (.getfield 7, 3) := by decide +kernel
theorem dX12_about_14 : decode cX12_about 14 = .ok (.iload_n 1, 1) := by decide +kernel
theorem dX12_about_15 : decode cX12_about 15 = .ok (.iaload, 1) := by decide +kernel
theorem dX12_about_16 : decode cX12_about 16 = .ok (.goto 18, 3) := by decide +kernel
theorem dX12_about_19 : decode cX12_about 19 = .ok (.iload_n 1, 1) := by decide +kernel
theorem dX12_about_20 : decode cX12_about 20 = .ok (.bipush 7, 2) := by decide +kernel
theorem dX12_about_22 : decode cX12_about 22 = .ok (.if_icmp .ne 10, 3) := by decide +kernel
theorem dX12_about_25 : decode cX12_about 25 = .ok (.aload_n 0, 1) := by decide +kernel
theorem dX12_about_26 : decode cX12_about 26 = .ok (.getfield 97, 3) := by decide +kernel
theorem dX12_about_29 : decode cX12_about 29 = .ok (.goto 5, 3) := by decide +kernel
theorem dX12_about_32 : decode cX12_about 32 = .ok (.bipush (-2), 2) := by decide +kernel
theorem dX12_about_34 : decode cX12_about 34 = .ok (.ireturn, 1) := by decide +kernel
def m12_about : pMT := (yX12_about, cX12_about, 2, some .int)
theorem mo12_about : mOK m12_about 1 := ⟨tb_i 1995 (by decide +kernel), wi_RX12, ⟨wn_RX12.1, wn_RX12.2, by decide +kernel⟩, by decide, plainFor_of_name wp_RX12⟩
theorem mv12_about : mV m12_about := ⟨tb_i 1993 (by decide +kernel), tb_i 1994 (by decide +kernel)⟩
def f12_about (I : (Nat → Nat → Int32)) (O : (Nat → Nat → Option Nat)) (a0 : Nat) (x1 : Int32) : Option (Int32) := (f12_isIn x1 (0 : Int32) (6 : Int32)).bind fun r1 => (if r1 = 0 then (if x1 = (7 : Int32) then some ((I a0 4)) else some (((-2) : Int32))) else (if x1 < 0 ∨ 4371 ≤ x1.toNatClampNeg then none else some ((I (rO O a0 0) x1.toNatClampNeg))))
set_option maxHeartbeats 4000000 in
set_option maxRecDepth 20000 in
theorem o12_about {g : pG} {Qx : Option Value → pW → Prop} {Z : pZ} {I : (Nat → Nat → Int32)} {L : (Nat → Nat → Int64)} {O : (Nat → Nat → Option Nat)} {a0 : Nat} {x1 : Int32} {res : Int32} (d : Nat) (hW : WT Z O) (hZ0 : Z[a0]? = some (12, 34)) (h : f12_about I O a0 x1 = some res) (hQ : Qx (some (.int res)) (Z, I, L, O)) : Ok g (d + 3, RX12, cX12_about, 2, false, 0, 0, Z.length, pSl Z) Qx 0 [(0, .ref a0), (1, .int x1)] [] (Z, I, L, O) := by
  unfold f12_about at h
  refine ok_iload_n dX12_about_0 1 rfl ?_
  refine ok_iconst (v := 0) dX12_about_1 (by decide) ?_
  refine ok_bipush (v := 6) dX12_about_2 (by decide) ?_
  obtain ⟨r1, hr2, h⟩ := bd h
  refine ok_callS (d := ((d + 0) + 2)) (mt := m12_isIn) (mc := 0) (ms := 0) (As := [.int x1, .int 0, .int 6]) (r := []) dX12_about_4 mo12_isIn mv12_isIn lkRX12_75 rfl rfl (Nat.le_of_ble_eq_true rfl) (by show _ + 1 ≤ d + _; omega) (Nat.le_refl _) (Nat.le_refl _) (pRt_mono ?_)
  refine k12_isIn (d + 0) hW  hr2 ?_
  intro hbr1
  show Ok g _ Qx 7 [(0, .ref a0), (1, .int x1)] [.int r1] (Z, I, L, O)
  refine ok_if_eq (t := 19) dX12_about_7 (by decide) (fun hc3 => ?_) (fun hc3 => ?_)
  · have h := (if_pos hc3).symm.trans h
    refine ok_iload_n dX12_about_19 1 rfl ?_
    refine ok_bipush (v := 7) dX12_about_20 (by decide) ?_
    refine ok_icmp_ne (t := 32) dX12_about_22 (by decide) (fun hc4 => ?_) (fun hc4 => ?_)
    · have h := (if_neg hc4).symm.trans h
      refine ok_bipush (v := (-2)) dX12_about_32 (by decide) ?_
      cases h
      exact ok_iret dX12_about_34 hQ
    · have h := (if_pos hc4).symm.trans h
      refine ok_aload_n dX12_about_25 0 rfl ?_
      refine ok_getI (ci := 12) (k := 4) dX12_about_26 flRX12_97 rfl hZ0 (by decide) ?_
      refine ok_goto (t := 34) dX12_about_29 (by decide) ?_
      cases h
      exact ok_iret dX12_about_34 hQ
  · have h := (if_neg hc3).symm.trans h
    refine ok_aload_n dX12_about_10 0 rfl ?_
    have hT5 : Z[(rO O a0 0)]? = some (13, 4371) := (wt_f (ci := 12) (k := 0) hW hZ0 rfl).2
    refine ok_getR (ci := 12) (k := 0) dX12_about_11 flRX12_7 rfl hW hZ0 (by decide) ?_
    refine ok_iload_n dX12_about_14 1 rfl ?_
    obtain ⟨hg6, h⟩ := gd h
    refine ok_iald2 (N := x1.toNatClampNeg) dX12_about_15 hT5 hg6 rfl ?_
    refine ok_goto (t := 34) dX12_about_16 (by decide) ?_
    cases h
    exact ok_iret dX12_about_34 hQ
theorem k12_about {g : pG} {Q : Option Value → pW → Prop} {Z : pZ} {I : (Nat → Nat → Int32)} {L : (Nat → Nat → Int64)} {O : (Nat → Nat → Option Nat)} {a0 : Nat} {x1 : Int32} {res : Int32} (d : Nat) (hW : WT Z O) (hZ0 : Z[a0]? = some (12, 34)) (h : f12_about I O a0 x1 = some res) (hQ : Q (some (.int res)) (Z, I, L, O)) : CT g (d + 3) m12_about 0 0 [.ref a0, .int x1] (Z, I, L, O) Q :=
  ct_of_ok (mt := m12_about) (ini := false) mo12_about.2.2.2.2 (fun h => by cases h) (Nat.le_of_ble_eq_true rfl) (o12_about d hW hZ0 h ⟨trivial, hQ, rfl, rfl⟩)
