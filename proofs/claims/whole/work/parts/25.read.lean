theorem lkRX5_26 : Cond.methodLink RX5 26 yX7_clear ∈ lw_tbl := tb_i 534 (by decide +kernel)
theorem lkRX5_39 : Cond.methodLink RX5 39 yX5_readClause ∈ lw_tbl := tb_i 545 (by decide +kernel)
theorem lkRX5_74 : Cond.methodLink RX5 74 yX5_canBegin ∈ lw_tbl := tb_i 549 (by decide +kernel)
theorem lkRX5_81 : Cond.methodLink RX5 81 yX5_readKeys ∈ lw_tbl := tb_i 569 (by decide +kernel)
theorem lkRX5_84 : Cond.methodLink RX5 84 yX5_readPair ∈ lw_tbl := tb_i 581 (by decide +kernel)
theorem lkRX5_88 : Cond.methodLink RX5 88 yX5_readSundays ∈ lw_tbl := tb_i 589 (by decide +kernel)
theorem lkRX5_91 : Cond.methodLink RX5 91 yX5_readLaw ∈ lw_tbl := tb_i 593 (by decide +kernel)
theorem dX5_readLaw_0 : decode cX5_readLaw 0 = .ok (.aload_n 0, 1) := by decide +kernel
theorem dX5_readLaw_1 : decode cX5_readLaw 1 = .ok (.iload_n 1, 1) := by decide +kernel
theorem dX5_readLaw_2 : decode cX5_readLaw 2 = .ok (.putfield 109, 3) := by decide +kernel
theorem dX5_readLaw_5 : decode cX5_readLaw 5 = .ok (.aload_n 0, 1) := by decide +kernel
theorem dX5_readLaw_6 : decode cX5_readLaw 6 = .ok (.getfield 12, 3) := by decide +kernel
theorem dX5_readLaw_9 : decode cX5_readLaw 9 = .ok (.getfield 104, 3) := by decide +kernel
theorem dX5_readLaw_12 : decode cX5_readLaw 12 = .ok (.istore_n 2, 1) := by decide +kernel
theorem dX5_readLaw_13 : decode cX5_readLaw 13 = .ok (.aload_n 0, 1) := by decide +kernel
theorem dX5_readLaw_14 : decode cX5_readLaw 14 = .ok (.iconst 0, 1) := by decide +kernel
theorem dX5_readLaw_15 : decode cX5_readLaw 15 = .ok (.invokevirtual 112, 3) := by decide +kernel
theorem dX5_readLaw_18 : decode cX5_readLaw 18 = .ok (.ifCond .ne 5, 3) := by decide +kernel
theorem dX5_readLaw_21 : decode cX5_readLaw 21 = .ok (.iconst 0, 1) := by decide +kernel
theorem dX5_readLaw_22 : decode cX5_readLaw 22 = .ok (.ireturn, 1) := by decide +kernel
theorem dX5_readLaw_23 : decode cX5_readLaw 23 = .ok (.aload_n 0, 1) := by decide +kernel
theorem dX5_readLaw_24 : decode cX5_readLaw 24 = .ok (.getfield 12, 3) := by decide +kernel
theorem dX5_readLaw_27 : decode cX5_readLaw 27 = .ok (.iload_n 1, 1) := by decide +kernel
theorem dX5_readLaw_28 : decode cX5_readLaw 28 = .ok (.iload_n 2, 1) := by decide +kernel
theorem dX5_readLaw_29 : decode cX5_readLaw 29 = .ok (.aload_n 0, 1) := by decide +kernel
theorem dX5_readLaw_30 : decode cX5_readLaw 30 = .ok (.getfield 12, 3) := by decide +kernel
theorem dX5_readLaw_33 : decode cX5_readLaw 33 = .ok (.getfield 104, 3) := by decide +kernel
theorem dX5_readLaw_36 : decode cX5_readLaw 36 = .ok (.invokevirtual 77, 3) := by decide +kernel
theorem dX5_readLaw_39 : decode cX5_readLaw 39 = .ok (.iconst 1, 1) := by decide +kernel
theorem dX5_readLaw_40 : decode cX5_readLaw 40 = .ok (.ireturn, 1) := by decide +kernel
def m5_readLaw : pMT := (yX5_readLaw, cX5_readLaw, 3, some .boolean)
theorem mo5_readLaw : mOK m5_readLaw 1 := ⟨tb_i 596 (by decide +kernel), wi_RX5, ⟨wn_RX5.1, wn_RX5.2, by decide +kernel⟩, by decide, plainFor_of_name wp_RX5⟩
theorem mv5_readLaw : mV m5_readLaw := ⟨tb_i 595 (by decide +kernel), tb_p 15 (by decide +kernel)⟩
def f5_readLaw (n : Nat) (I : (Nat → Nat → Int32)) (O : (Nat → Nat → Option Nat)) (a0 : Nat) (x1 : Int32) : Option (Int32 × (Nat → Nat → Int32)) := bl (sI I a0 5 x1) fun I1 => (f5_readSum n I1 O a0 (0 : Int32)).bind fun r3 => (if r3.1 = 0 then some ((0 : Int32), r3.2) else (f7_addClause r3.2 O (rO O a0 1) x1 (I1 (rO O a0 1) 5) (r3.2 (rO O a0 1) 5)).bind fun r6 => some ((1 : Int32), r6))
set_option maxHeartbeats 4000000 in
set_option maxRecDepth 20000 in
theorem o5_readLaw {g : pG} {Qx : Option Value → pW → Prop} {Z : pZ} {I : (Nat → Nat → Int32)} {L : (Nat → Nat → Int64)} {O : (Nat → Nat → Option Nat)} {n : Nat} {a0 : Nat} {x1 : Int32} {res : Int32 × (Nat → Nat → Int32)} (d : Nat) (hW : WT Z O) (hZ0 : Z[a0]? = some (5, 8)) (h : f5_readLaw n I O a0 x1 = some res) (hQ : (res.1 = 0 ∨ res.1 = 1) → Qx (some (.int res.1)) (Z, res.2, L, O)) : Ok g (d + 105, RX5, cX5_readLaw, 3, false, 0, 0, Z.length, pSl Z) Qx 0 [(0, .ref a0), (1, .int x1)] [] (Z, I, L, O) := by
  unfold f5_readLaw at h
  refine ok_aload_n dX5_readLaw_0 0 rfl ?_
  refine ok_iload_n dX5_readLaw_1 1 rfl ?_
  obtain ⟨I1, eI1, h⟩ := blE h
  refine ok_putI2 (ci := 5) (k := 5) dX5_readLaw_2 flRX5_109 rfl (Or.inl rfl) hZ0 (by decide) eI1 ?_
  refine ok_aload_n dX5_readLaw_5 0 rfl ?_
  have hT2 : Z[(rO O a0 1)]? = some (7, 7) := (wt_f (ci := 5) (k := 1) hW hZ0 rfl).2
  refine ok_getR (ci := 5) (k := 1) dX5_readLaw_6 flRX5_12 rfl hW hZ0 (by decide) ?_
  refine ok_getI (ci := 7) (k := 5) dX5_readLaw_9 flRX5_104 rfl hT2 (by decide) ?_
  refine ok_istore_n (l' := [(2, .int (I1 (rO O a0 1) 5)), (0, .ref a0), (1, .int x1)]) dX5_readLaw_12 rfl (Nat.le_of_ble_eq_true rfl) rfl ?_
  refine ok_aload_n dX5_readLaw_13 1 rfl ?_
  refine ok_iconst (v := 0) dX5_readLaw_14 (by decide) ?_
  obtain ⟨r3, hr4, h⟩ := bd h
  refine ok_callV (d := ((d + 0) + 104)) (mt := m5_readSum) (mc := 0) (ms := 0) (As := [.int 0]) (r := []) dX5_readLaw_15 mo5_readSum mv5_readSum lkRX5_112 rfl hZ0 (q := (RX5, TX5, 8)) rfl rfl rfl (Nat.le_of_ble_eq_true rfl) (by show _ + 1 ≤ d + _; omega) (Nat.le_refl _) (Nat.le_refl _) (pRt_mono ?_)
  refine k5_readSum (d + 0) hW hZ0 hr4 ?_
  intro hbr3
  show Ok g _ Qx 18 [(2, .int (I1 (rO O a0 1) 5)), (0, .ref a0), (1, .int x1)] [.int r3.1] (Z, r3.2, L, O)
  refine ok_if_ne (t := 23) dX5_readLaw_18 (by decide) (fun hc5 => ?_) (fun hc5 => ?_)
  · have h := (if_neg hc5).symm.trans h
    refine ok_aload_n dX5_readLaw_23 1 rfl ?_
    refine ok_getR (ci := 5) (k := 1) dX5_readLaw_24 flRX5_12 rfl hW hZ0 (by decide) ?_
    refine ok_iload_n dX5_readLaw_27 2 rfl ?_
    refine ok_iload_n dX5_readLaw_28 0 rfl ?_
    refine ok_aload_n dX5_readLaw_29 1 rfl ?_
    refine ok_getR (ci := 5) (k := 1) dX5_readLaw_30 flRX5_12 rfl hW hZ0 (by decide) ?_
    refine ok_getI (ci := 7) (k := 5) dX5_readLaw_33 flRX5_104 rfl hT2 (by decide) ?_
    obtain ⟨r6, hr7, h⟩ := bd h
    refine ok_callV (d := ((d + 102) + 2)) (mt := m7_addClause) (mc := 0) (ms := 0) (As := [.int x1, .int (I1 (rO O a0 1) 5), .int (r3.2 (rO O a0 1) 5)]) (r := []) dX5_readLaw_36 mo7_addClause mv7_addClause lkRX5_77 rfl hT2 (q := (RX7, TX7, 7)) rfl rfl rfl (Nat.le_of_ble_eq_true rfl) (by show _ + 1 ≤ d + _; omega) (Nat.le_refl _) (Nat.le_refl _) (pRt_mono ?_)
    refine k7_addClause (d + 102) hW hT2 hr7 ?_
    intro _
    show Ok g _ Qx 39 [(2, .int (I1 (rO O a0 1) 5)), (0, .ref a0), (1, .int x1)] [] (Z, r6, L, O)
    refine ok_iconst (v := 1) dX5_readLaw_39 (by decide) ?_
    cases h
    exact ok_iret dX5_readLaw_40 (hQ (Or.inr rfl))
  · have h := (if_pos hc5).symm.trans h
    refine ok_iconst (v := 0) dX5_readLaw_21 (by decide) ?_
    cases h
    exact ok_iret dX5_readLaw_22 (hQ (Or.inl rfl))
theorem k5_readLaw {g : pG} {Q : Option Value → pW → Prop} {Z : pZ} {I : (Nat → Nat → Int32)} {L : (Nat → Nat → Int64)} {O : (Nat → Nat → Option Nat)} {n : Nat} {a0 : Nat} {x1 : Int32} {res : Int32 × (Nat → Nat → Int32)} (d : Nat) (hW : WT Z O) (hZ0 : Z[a0]? = some (5, 8)) (h : f5_readLaw n I O a0 x1 = some res) (hQ : Q (some (.int res.1)) (Z, res.2, L, O)) : CT g (d + 105) m5_readLaw 0 0 [.ref a0, .int x1] (Z, I, L, O) Q :=
  ct_of_ok (mt := m5_readLaw) (ini := false) mo5_readLaw.2.2.2.2 (fun h => by cases h) (Nat.le_of_ble_eq_true rfl) (o5_readLaw d hW hZ0 h (fun hb => ⟨hb, hQ, rfl, rfl⟩))
theorem dX5_readClause_0 : decode cX5_readClause 0 = .ok (.aload_n 0, 1) := by decide +kernel
theorem dX5_readClause_1 : decode cX5_readClause 1 = .ok (.getfield 36, 3) := by decide +kernel
theorem dX5_readClause_4 : decode cX5_readClause 4 = .ok (.istore_n 1, 1) := by decide +kernel
theorem dX5_readClause_5 : decode cX5_readClause 5 = .ok (.aload_n 0, 1) := by decide +kernel
theorem dX5_readClause_6 : decode cX5_readClause 6 = .ok (.iload_n 1, 1) := by decide +kernel
theorem dX5_readClause_7 : decode cX5_readClause 7 = .ok (.invokevirtual 74, 3) := by decide +kernel
theorem dX5_readClause_10 : decode cX5_readClause 10 = .ok (.ifCond .ne 5, 3) := by decide +kernel
theorem dX5_readClause_13 : decode cX5_readClause 13 = .ok (.iconst 0, 1) := by decide +kernel
theorem dX5_readClause_14 : decode cX5_readClause 14 = .ok (.ireturn, 1) := by decide +kernel
theorem dX5_readClause_15 : decode cX5_readClause 15 = .ok (.aload_n 0, 1) := by decide +kernel
theorem dX5_readClause_16 : decode cX5_readClause 16 = .ok (.aload_n 0, 1) := by decide +kernel
theorem dX5_readClause_17 : decode cX5_readClause 17 = .ok (.getfield 47, 3) := by decide +kernel
theorem dX5_readClause_20 : decode cX5_readClause 20 = .ok (.iconst 1, 1) := by decide +kernel
theorem dX5_readClause_21 : decode cX5_readClause 21 = .ok (.iadd, 1) := by decide +kernel
theorem dX5_readClause_22 : decode cX5_readClause 22 = .ok (.invokevirtual 32, 3) := by decide +kernel
theorem dX5_readClause_25 : decode cX5_readClause 25 = .ok (.iload_n 1, 1) := by decide +kernel
theorem dX5_readClause_26 : decode cX5_readClause 26 = .ok (.tableswitch 95 3 8 #[38, 55, 66, 78, 50, 90], 38) := by decide +kernel
theorem dX5_readClause_64 : decode cX5_readClause 64 = .ok (.aload_n 0, 1) := by decide +kernel
theorem dX5_readClause_65 : decode cX5_readClause 65 = .ok (.getfield 12, 3) := by decide +kernel
theorem dX5_readClause_68 : decode cX5_readClause 68 = .ok (.iconst 3, 1) := by decide +kernel
theorem dX5_readClause_69 : decode cX5_readClause 69 = .ok (.iconst 0, 1) := by decide +kernel
theorem dX5_readClause_70 : decode cX5_readClause 70 = .ok (.iconst 0, 1) := by decide +kernel
theorem dX5_readClause_71 : decode cX5_readClause 71 = .ok (.invokevirtual 77, 3) := by decide +kernel
theorem dX5_readClause_74 : decode cX5_readClause 74 = .ok (.iconst 1, 1) := by decide +kernel
theorem dX5_readClause_75 : decode cX5_readClause 75 = .ok (.ireturn, 1) := by decide +kernel
theorem dX5_readClause_76 : decode cX5_readClause 76 = .ok (.aload_n 0, 1) := by decide +kernel
theorem dX5_readClause_77 : decode cX5_readClause 77 = .ok (.invokevirtual 81, 3) := by decide +kernel
theorem dX5_readClause_80 : decode cX5_readClause 80 = .ok (.ireturn, 1) := by decide +kernel
theorem dX5_readClause_81 : decode cX5_readClause 81 = .ok (.aload_n 0, 1) := by decide +kernel
theorem dX5_readClause_82 : decode cX5_readClause 82 = .ok (.iconst 4, 1) := by decide +kernel
theorem dX5_readClause_83 : decode cX5_readClause 83 = .ok (.iconst 0, 1) := by decide +kernel
theorem dX5_readClause_84 : decode cX5_readClause 84 = .ok (.iconst 4, 1) := by decide +kernel
theorem dX5_readClause_85 : decode cX5_readClause 85 = .ok (.bipush 23, 2) := by decide +kernel
theorem dX5_readClause_87 : decode cX5_readClause 87 = .ok (.iconst 3, 1) := by decide +kernel
theorem dX5_readClause_88 : decode cX5_readClause 88 = .ok (.invokevirtual 84, 3) := by decide +kernel
theorem dX5_readClause_91 : decode cX5_readClause 91 = .ok (.ireturn, 1) := by decide +kernel
theorem dX5_readClause_92 : decode cX5_readClause 92 = .ok (.aload_n 0, 1) := by decide +kernel
theorem dX5_readClause_93 : decode cX5_readClause 93 = .ok (.iconst 5, 1) := by decide +kernel
theorem dX5_readClause_94 : decode cX5_readClause 94 = .ok (.iconst 0, 1) := by decide +kernel
theorem dX5_readClause_95 : decode cX5_readClause 95 = .ok (.bipush 15, 2) := by decide +kernel
theorem dX5_readClause_97 : decode cX5_readClause 97 = .ok (.bipush 24, 2) := by decide +kernel
theorem dX5_readClause_99 : decode cX5_readClause 99 = .ok (.iconst 4, 1) := by decide +kernel
theorem dX5_readClause_100 : decode cX5_readClause 100 = .ok (.invokevirtual 84, 3) := by decide +kernel
theorem dX5_readClause_103 : decode cX5_readClause 103 = .ok (.ireturn, 1) := by decide +kernel
theorem dX5_readClause_104 : decode cX5_readClause 104 = .ok (.aload_n 0, 1) := by decide +kernel
theorem dX5_readClause_105 : decode cX5_readClause 105 = .ok (.bipush 6, 2) := by decide +kernel
theorem dX5_readClause_107 : decode cX5_readClause 107 = .ok (.iconst 1, 1) := by decide +kernel
theorem dX5_readClause_108 : decode cX5_readClause 108 = .ok (.iconst 5, 1) := by decide +kernel
theorem dX5_readClause_109 : decode cX5_readClause 109 = .ok (.bipush 25, 2) := by decide +kernel
theorem dX5_readClause_111 : decode cX5_readClause 111 = .ok (.iconst 3, 1) := by decide +kernel
theorem dX5_readClause_112 : decode cX5_readClause 112 = .ok (.invokevirtual 84, 3) := by decide +kernel
theorem dX5_readClause_115 : decode cX5_readClause 115 = .ok (.ireturn, 1) := by decide +kernel
theorem dX5_readClause_116 : decode cX5_readClause 116 = .ok (.aload_n 0, 1) := by decide +kernel
theorem dX5_readClause_117 : decode cX5_readClause 117 = .ok (.invokevirtual 88, 3) := by decide +kernel
theorem dX5_readClause_120 : decode cX5_readClause 120 = .ok (.ireturn, 1) := by decide +kernel
theorem dX5_readClause_121 : decode cX5_readClause 121 = .ok (.aload_n 0, 1) := by decide +kernel
theorem dX5_readClause_122 : decode cX5_readClause 122 = .ok (.iload_n 1, 1) := by decide +kernel
theorem dX5_readClause_123 : decode cX5_readClause 123 = .ok (.invokevirtual 91, 3) := by decide +kernel
theorem dX5_readClause_126 : decode cX5_readClause 126 = .ok (.ireturn, 1) := by decide +kernel
def m5_readClause : pMT := (yX5_readClause, cX5_readClause, 2, some .boolean)
theorem mo5_readClause : mOK m5_readClause 0 := ⟨tb_i 548 (by decide +kernel), wi_RX5, ⟨wn_RX5.1, wn_RX5.2, by decide +kernel⟩, by decide, plainFor_of_name wp_RX5⟩
theorem mv5_readClause : mV m5_readClause := ⟨tb_i 547 (by decide +kernel), tb_p 7 (by decide +kernel)⟩
def f5_readClause (n : Nat) (I : (Nat → Nat → Int32)) (O : (Nat → Nat → Option Nat)) (a0 : Nat) : Option (Int32 × (Nat → Nat → Int32)) := (f5_canBegin I O a0 (I a0 3)).bind fun r1 => (if r1.1 = 0 then some ((0 : Int32), r1.2) else (f5_comeTo r1.2 O a0 ((r1.2 a0 2) + 1)).bind fun r4 => (if (I a0 3) = 3 then (f7_addClause r4 O (rO O a0 1) (3 : Int32) (0 : Int32) (0 : Int32)).bind fun r8 => some ((1 : Int32), r8) else (if (I a0 3) = 4 then (f5_readPair r4 O a0 (4 : Int32) (0 : Int32) (4 : Int32) (23 : Int32) (3 : Int32)).bind fun r11 => some (r11.1, r11.2) else (if (I a0 3) = 5 then (f5_readPair r4 O a0 (5 : Int32) (0 : Int32) (15 : Int32) (24 : Int32) (4 : Int32)).bind fun r14 => some (r14.1, r14.2) else (if (I a0 3) = 6 then (f5_readPair r4 O a0 (6 : Int32) (1 : Int32) (5 : Int32) (25 : Int32) (3 : Int32)).bind fun r17 => some (r17.1, r17.2) else (if (I a0 3) = 7 then (f5_readKeys n r4 O a0).bind fun r20 => some (r20.1, r20.2) else (if (I a0 3) = 8 then (f5_readSundays r4 O a0).bind fun r23 => some (r23.1, r23.2) else (f5_readLaw n r4 O a0 (I a0 3)).bind fun r25 => some (r25.1, r25.2))))))))
set_option maxHeartbeats 4000000 in
set_option maxRecDepth 20000 in
theorem o5_readClause {g : pG} {Qx : Option Value → pW → Prop} {Z : pZ} {I : (Nat → Nat → Int32)} {L : (Nat → Nat → Int64)} {O : (Nat → Nat → Option Nat)} {n : Nat} {a0 : Nat} {res : Int32 × (Nat → Nat → Int32)} (d : Nat) (hW : WT Z O) (hZ0 : Z[a0]? = some (5, 8)) (h : f5_readClause n I O a0 = some res) (hQ : (res.1 = 0 ∨ res.1 = 1) → Qx (some (.int res.1)) (Z, res.2, L, O)) : Ok g (d + 106, RX5, cX5_readClause, 2, false, 0, 0, Z.length, pSl Z) Qx 0 [(0, .ref a0)] [] (Z, I, L, O) := by
  unfold f5_readClause at h
  refine ok_aload_n dX5_readClause_0 0 rfl ?_
  refine ok_getI (ci := 5) (k := 3) dX5_readClause_1 flRX5_36 rfl hZ0 (by decide) ?_
  refine ok_istore_n (l' := [(1, .int (I a0 3)), (0, .ref a0)]) dX5_readClause_4 rfl (Nat.le_of_ble_eq_true rfl) rfl ?_
  refine ok_aload_n dX5_readClause_5 1 rfl ?_
  refine ok_iload_n dX5_readClause_6 0 rfl ?_
  obtain ⟨r1, hr2, h⟩ := bd h
  refine ok_callV (d := ((d + 101) + 4)) (mt := m5_canBegin) (mc := 0) (ms := 0) (As := [.int (I a0 3)]) (r := []) dX5_readClause_7 mo5_canBegin mv5_canBegin lkRX5_74 rfl hZ0 (q := (RX5, TX5, 8)) rfl rfl rfl (Nat.le_of_ble_eq_true rfl) (by show _ + 1 ≤ d + _; omega) (Nat.le_refl _) (Nat.le_refl _) (pRt_mono ?_)
  refine k5_canBegin (d + 101) hW hZ0 hr2 ?_
  intro hbr1
  show Ok g _ Qx 10 [(1, .int (I a0 3)), (0, .ref a0)] [.int r1.1] (Z, r1.2, L, O)
  refine ok_if_ne (t := 15) dX5_readClause_10 (by decide) (fun hc3 => ?_) (fun hc3 => ?_)
  · have h := (if_neg hc3).symm.trans h
    refine ok_aload_n dX5_readClause_15 1 rfl ?_
    refine ok_aload_n dX5_readClause_16 1 rfl ?_
    refine ok_getI (ci := 5) (k := 2) dX5_readClause_17 flRX5_47 rfl hZ0 (by decide) ?_
    refine ok_iconst (v := 1) dX5_readClause_20 (by decide) ?_
    refine ok_iadd dX5_readClause_21 ?_
    obtain ⟨r4, hr5, h⟩ := bd h
    refine ok_callV (d := ((d + 103) + 2)) (mt := m5_comeTo) (mc := 0) (ms := 0) (As := [.int ((r1.2 a0 2) + 1)]) (r := []) dX5_readClause_22 mo5_comeTo mv5_comeTo lkRX5_32 rfl hZ0 (q := (RX5, TX5, 8)) rfl rfl rfl (Nat.le_of_ble_eq_true rfl) (by show _ + 1 ≤ d + _; omega) (Nat.le_refl _) (Nat.le_refl _) (pRt_mono ?_)
    refine k5_comeTo (d + 103) hW hZ0 hr5 ?_
    intro _
    show Ok g _ Qx 25 [(1, .int (I a0 3)), (0, .ref a0)] [] (Z, r4, L, O)
    refine ok_iload_n dX5_readClause_25 0 rfl ?_
    by_cases hc6 : (I a0 3) = 3
    · have h := (if_pos hc6).symm.trans h
      refine ok_tabEq (t := 64) (off := 38) dX5_readClause_26 hc6 (by decide) (by decide) (by decide) (by decide) ?_
      refine ok_aload_n dX5_readClause_64 1 rfl ?_
      have hT7 : Z[(rO O a0 1)]? = some (7, 7) := (wt_f (ci := 5) (k := 1) hW hZ0 rfl).2
      refine ok_getR (ci := 5) (k := 1) dX5_readClause_65 flRX5_12 rfl hW hZ0 (by decide) ?_
      refine ok_iconst (v := 3) dX5_readClause_68 (by decide) ?_
      refine ok_iconst (v := 0) dX5_readClause_69 (by decide) ?_
      refine ok_iconst (v := 0) dX5_readClause_70 (by decide) ?_
      obtain ⟨r8, hr9, h⟩ := bd h
      refine ok_callV (d := ((d + 103) + 2)) (mt := m7_addClause) (mc := 0) (ms := 0) (As := [.int 3, .int 0, .int 0]) (r := []) dX5_readClause_71 mo7_addClause mv7_addClause lkRX5_77 rfl hT7 (q := (RX7, TX7, 7)) rfl rfl rfl (Nat.le_of_ble_eq_true rfl) (by show _ + 1 ≤ d + _; omega) (Nat.le_refl _) (Nat.le_refl _) (pRt_mono ?_)
      refine k7_addClause (d + 103) hW hT7 hr9 ?_
      intro _
      show Ok g _ Qx 74 [(1, .int (I a0 3)), (0, .ref a0)] [] (Z, r8, L, O)
      refine ok_iconst (v := 1) dX5_readClause_74 (by decide) ?_
      cases h
      exact ok_iret dX5_readClause_75 (hQ (Or.inr rfl))
    · have h := (if_neg hc6).symm.trans h
      by_cases hc10 : (I a0 3) = 4
      · have h := (if_pos hc10).symm.trans h
        refine ok_tabEq (t := 81) (off := 55) dX5_readClause_26 hc10 (by decide) (by decide) (by decide) (by decide) ?_
        refine ok_aload_n dX5_readClause_81 1 rfl ?_
        refine ok_iconst (v := 4) dX5_readClause_82 (by decide) ?_
        refine ok_iconst (v := 0) dX5_readClause_83 (by decide) ?_
        refine ok_iconst (v := 4) dX5_readClause_84 (by decide) ?_
        refine ok_bipush (v := 23) dX5_readClause_85 (by decide) ?_
        refine ok_iconst (v := 3) dX5_readClause_87 (by decide) ?_
        obtain ⟨r11, hr12, h⟩ := bd h
        refine ok_callV (d := ((d + 101) + 4)) (mt := m5_readPair) (mc := 0) (ms := 0) (As := [.int 4, .int 0, .int 4, .int 23, .int 3]) (r := []) dX5_readClause_88 mo5_readPair mv5_readPair lkRX5_84 rfl hZ0 (q := (RX5, TX5, 8)) rfl rfl rfl (Nat.le_of_ble_eq_true rfl) (by show _ + 1 ≤ d + _; omega) (Nat.le_refl _) (Nat.le_refl _) (pRt_mono ?_)
        refine k5_readPair (d + 101) hW hZ0 hr12 ?_
        intro hbr11
        show Ok g _ Qx 91 [(1, .int (I a0 3)), (0, .ref a0)] [.int r11.1] (Z, r11.2, L, O)
        cases h
        exact ok_iret dX5_readClause_91 (hQ hbr11)
      · have h := (if_neg hc10).symm.trans h
        by_cases hc13 : (I a0 3) = 5
        · have h := (if_pos hc13).symm.trans h
          refine ok_tabEq (t := 92) (off := 66) dX5_readClause_26 hc13 (by decide) (by decide) (by decide) (by decide) ?_
          refine ok_aload_n dX5_readClause_92 1 rfl ?_
          refine ok_iconst (v := 5) dX5_readClause_93 (by decide) ?_
          refine ok_iconst (v := 0) dX5_readClause_94 (by decide) ?_
          refine ok_bipush (v := 15) dX5_readClause_95 (by decide) ?_
          refine ok_bipush (v := 24) dX5_readClause_97 (by decide) ?_
          refine ok_iconst (v := 4) dX5_readClause_99 (by decide) ?_
          obtain ⟨r14, hr15, h⟩ := bd h
          refine ok_callV (d := ((d + 101) + 4)) (mt := m5_readPair) (mc := 0) (ms := 0) (As := [.int 5, .int 0, .int 15, .int 24, .int 4]) (r := []) dX5_readClause_100 mo5_readPair mv5_readPair lkRX5_84 rfl hZ0 (q := (RX5, TX5, 8)) rfl rfl rfl (Nat.le_of_ble_eq_true rfl) (by show _ + 1 ≤ d + _; omega) (Nat.le_refl _) (Nat.le_refl _) (pRt_mono ?_)
          refine k5_readPair (d + 101) hW hZ0 hr15 ?_
          intro hbr14
          show Ok g _ Qx 103 [(1, .int (I a0 3)), (0, .ref a0)] [.int r14.1] (Z, r14.2, L, O)
          cases h
          exact ok_iret dX5_readClause_103 (hQ hbr14)
        · have h := (if_neg hc13).symm.trans h
          by_cases hc16 : (I a0 3) = 6
          · have h := (if_pos hc16).symm.trans h
            refine ok_tabEq (t := 104) (off := 78) dX5_readClause_26 hc16 (by decide) (by decide) (by decide) (by decide) ?_
            refine ok_aload_n dX5_readClause_104 1 rfl ?_
            refine ok_bipush (v := 6) dX5_readClause_105 (by decide) ?_
            refine ok_iconst (v := 1) dX5_readClause_107 (by decide) ?_
            refine ok_iconst (v := 5) dX5_readClause_108 (by decide) ?_
            refine ok_bipush (v := 25) dX5_readClause_109 (by decide) ?_
            refine ok_iconst (v := 3) dX5_readClause_111 (by decide) ?_
            obtain ⟨r17, hr18, h⟩ := bd h
            refine ok_callV (d := ((d + 101) + 4)) (mt := m5_readPair) (mc := 0) (ms := 0) (As := [.int 6, .int 1, .int 5, .int 25, .int 3]) (r := []) dX5_readClause_112 mo5_readPair mv5_readPair lkRX5_84 rfl hZ0 (q := (RX5, TX5, 8)) rfl rfl rfl (Nat.le_of_ble_eq_true rfl) (by show _ + 1 ≤ d + _; omega) (Nat.le_refl _) (Nat.le_refl _) (pRt_mono ?_)
            refine k5_readPair (d + 101) hW hZ0 hr18 ?_
            intro hbr17
            show Ok g _ Qx 115 [(1, .int (I a0 3)), (0, .ref a0)] [.int r17.1] (Z, r17.2, L, O)
            cases h
            exact ok_iret dX5_readClause_115 (hQ hbr17)
          · have h := (if_neg hc16).symm.trans h
            by_cases hc19 : (I a0 3) = 7
            · have h := (if_pos hc19).symm.trans h
              refine ok_tabEq (t := 76) (off := 50) dX5_readClause_26 hc19 (by decide) (by decide) (by decide) (by decide) ?_
              refine ok_aload_n dX5_readClause_76 1 rfl ?_
              obtain ⟨r20, hr21, h⟩ := bd h
              refine ok_callV (d := ((d + 101) + 4)) (mt := m5_readKeys) (mc := 0) (ms := 0) (As := []) (r := []) dX5_readClause_77 mo5_readKeys mv5_readKeys lkRX5_81 rfl hZ0 (q := (RX5, TX5, 8)) rfl rfl rfl (Nat.le_of_ble_eq_true rfl) (by show _ + 1 ≤ d + _; omega) (Nat.le_refl _) (Nat.le_refl _) (pRt_mono ?_)
              refine k5_readKeys (d + 101) hW hZ0 hr21 ?_
              intro hbr20
              show Ok g _ Qx 80 [(1, .int (I a0 3)), (0, .ref a0)] [.int r20.1] (Z, r20.2, L, O)
              cases h
              exact ok_iret dX5_readClause_80 (hQ hbr20)
            · have h := (if_neg hc19).symm.trans h
              by_cases hc22 : (I a0 3) = 8
              · have h := (if_pos hc22).symm.trans h
                refine ok_tabEq (t := 116) (off := 90) dX5_readClause_26 hc22 (by decide) (by decide) (by decide) (by decide) ?_
                refine ok_aload_n dX5_readClause_116 1 rfl ?_
                obtain ⟨r23, hr24, h⟩ := bd h
                refine ok_callV (d := ((d + 101) + 4)) (mt := m5_readSundays) (mc := 0) (ms := 0) (As := []) (r := []) dX5_readClause_117 mo5_readSundays mv5_readSundays lkRX5_88 rfl hZ0 (q := (RX5, TX5, 8)) rfl rfl rfl (Nat.le_of_ble_eq_true rfl) (by show _ + 1 ≤ d + _; omega) (Nat.le_refl _) (Nat.le_refl _) (pRt_mono ?_)
                refine k5_readSundays (d + 101) hW hZ0 hr24 ?_
                intro hbr23
                show Ok g _ Qx 120 [(1, .int (I a0 3)), (0, .ref a0)] [.int r23.1] (Z, r23.2, L, O)
                cases h
                exact ok_iret dX5_readClause_120 (hQ hbr23)
              · have h := (if_neg hc22).symm.trans h
                refine ok_tabOut (t := 121) dX5_readClause_26 (by have n3 := neI hc6 (a := 3) (by decide); have n4 := neI hc10 (a := 4) (by decide); have n5 := neI hc13 (a := 5) (by decide); have n6 := neI hc16 (a := 6) (by decide); have n7 := neI hc19 (a := 7) (by decide); have n8 := neI hc22 (a := 8) (by decide); omega) (by decide) ?_
                refine ok_aload_n dX5_readClause_121 1 rfl ?_
                refine ok_iload_n dX5_readClause_122 0 rfl ?_
                obtain ⟨r25, hr26, h⟩ := bd h
                refine ok_callV (d := ((d + 0) + 105)) (mt := m5_readLaw) (mc := 0) (ms := 0) (As := [.int (I a0 3)]) (r := []) dX5_readClause_123 mo5_readLaw mv5_readLaw lkRX5_91 rfl hZ0 (q := (RX5, TX5, 8)) rfl rfl rfl (Nat.le_of_ble_eq_true rfl) (by show _ + 1 ≤ d + _; omega) (Nat.le_refl _) (Nat.le_refl _) (pRt_mono ?_)
                refine k5_readLaw (d + 0) hW hZ0 hr26 ?_
                intro hbr25
                show Ok g _ Qx 126 [(1, .int (I a0 3)), (0, .ref a0)] [.int r25.1] (Z, r25.2, L, O)
                cases h
                exact ok_iret dX5_readClause_126 (hQ hbr25)
  · have h := (if_pos hc3).symm.trans h
    refine ok_iconst (v := 0) dX5_readClause_13 (by decide) ?_
    cases h
    exact ok_iret dX5_readClause_14 (hQ (Or.inl rfl))
theorem k5_readClause {g : pG} {Q : Option Value → pW → Prop} {Z : pZ} {I : (Nat → Nat → Int32)} {L : (Nat → Nat → Int64)} {O : (Nat → Nat → Option Nat)} {n : Nat} {a0 : Nat} {res : Int32 × (Nat → Nat → Int32)} (d : Nat) (hW : WT Z O) (hZ0 : Z[a0]? = some (5, 8)) (h : f5_readClause n I O a0 = some res) (hQ : Q (some (.int res.1)) (Z, res.2, L, O)) : CT g (d + 106) m5_readClause 0 0 [.ref a0] (Z, I, L, O) Q :=
  ct_of_ok (mt := m5_readClause) (ini := false) mo5_readClause.2.2.2.2 (fun h => by cases h) (Nat.le_of_ble_eq_true rfl) (o5_readClause d hW hZ0 h (fun hb => ⟨hb, hQ, rfl, rfl⟩))
theorem dX5_read_0 : decode cX5_read 0 = .ok (.aload_n 0, 1) := by decide +kernel
theorem dX5_read_1 : decode cX5_read 1 = .ok (.aload_n 1, 1) := by decide +kernel
theorem dX5_read_2 : decode cX5_read 2 = .ok (.putfield 12, 3) := by decide +kernel
theorem dX5_read_5 : decode cX5_read 5 = .ok (.aload_n 0, 1) := by decide +kernel
theorem dX5_read_6 : decode cX5_read 6 = .ok (.getfield 12, 3) := by decide +kernel
theorem dX5_read_9 : decode cX5_read 9 = .ok (.invokevirtual 26, 3) := by decide +kernel
theorem dX5_read_12 : decode cX5_read 12 = .ok (.aload_n 0, 1) := by decide +kernel
theorem dX5_read_13 : decode cX5_read 13 = .ok (.iconst 0, 1) := by decide +kernel
theorem dX5_read_14 : decode cX5_read 14 = .ok (.putfield 29, 3) := by decide +kernel
theorem dX5_read_17 : decode cX5_read 17 = .ok (.aload_n 0, 1) := by decide +kernel
theorem dX5_read_18 : decode cX5_read 18 = .ok (.iconst (-1), 1) := by decide +kernel
theorem dX5_read_19 : decode cX5_read 19 = .ok (.putfield 18, 3) := by decide +kernel
theorem dX5_read_22 : decode cX5_read 22 = .ok (.aload_n 0, 1) := by decide +kernel
theorem dX5_read_23 : decode cX5_read 23 = .ok (.iconst 0, 1) := by decide +kernel
theorem dX5_read_24 : decode cX5_read 24 = .ok (.invokevirtual 32, 3) := by decide +kernel
theorem dX5_read_27 : decode cX5_read 27 = .ok (.iconst 0, 1) := by decide +kernel
theorem dX5_read_28 : decode cX5_read 28 = .ok (.istore_n 2, 1) := by decide +kernel
theorem dX5_read_29 : decode cX5_read 29 = .ok (.iload_n 2, 1) := by decide +kernel
theorem dX5_read_30 : decode cX5_read 30 = .ok (.bipush 24, 2) := by decide +kernel
theorem dX5_read_32 : decode cX5_read 32 = .ok (.if_icmp .gt 36, 3) := by decide +kernel
theorem dX5_read_35 : decode cX5_read 35 = .ok (.aload_n 0, 1) := by decide +kernel
theorem dX5_read_36 : decode cX5_read 36 = .ok (.getfield 36, 3) := by decide +kernel
theorem dX5_read_39 : decode cX5_read 39 = .ok (.bipush 27, 2) := by decide +kernel
theorem dX5_read_41 : decode cX5_read 41 = .ok (.if_icmp .eq 27, 3) := by decide +kernel
theorem dX5_read_44 : decode cX5_read 44 = .ok (.aload_n 0, 1) := by decide +kernel
theorem dX5_read_45 : decode cX5_read 45 = .ok (.invokevirtual 39, 3) := by decide +kernel
theorem dX5_read_48 : decode cX5_read 48 = .ok (.ifCond .eq 12, 3) := by decide +kernel
theorem dX5_read_51 : decode cX5_read 51 = .ok (.aload_n 0, 1) := by decide +kernel
theorem dX5_read_52 : decode cX5_read 52 = .ok (.bipush 59, 2) := by decide +kernel
theorem dX5_read_54 : decode cX5_read 54 = .ok (.invokevirtual 43, 3) := by decide +kernel
theorem dX5_read_57 : decode cX5_read 57 = .ok (.ifCond .ne 5, 3) := by decide +kernel
theorem dX5_read_60 : decode cX5_read 60 = .ok (.iconst 0, 1) := by decide +kernel
theorem dX5_read_61 : decode cX5_read 61 = .ok (.ireturn, 1) := by decide +kernel
theorem dX5_read_62 : decode cX5_read 62 = .ok (.iinc 2 1, 3) := by decide +kernel
theorem dX5_read_65 : decode cX5_read 65 = .ok (.goto (-36), 3) := by decide +kernel
theorem dX5_read_68 : decode cX5_read 68 = .ok (.iconst 1, 1) := by decide +kernel
theorem dX5_read_69 : decode cX5_read 69 = .ok (.ireturn, 1) := by decide +kernel
def m5_read : pMT := (yX5_read, cX5_read, 3, some .boolean)
theorem mo5_read : mOK m5_read 1 := ⟨tb_i 533 (by decide +kernel), wi_RX5, ⟨wn_RX5.1, wn_RX5.2, by decide +kernel⟩, by decide, plainFor_of_name wp_RX5⟩
theorem mv5_read : mV m5_read := ⟨tb_i 531 (by decide +kernel), tb_i 532 (by decide +kernel)⟩
def f5_read_c29 (n : Nat) : Nat → (Nat → Nat → Int32) → (Nat → Nat → Option Nat) → Nat → Int32 → Option (Int32 × (Nat → Nat → Int32) × (Nat → Nat → Option Nat))
  | 0, _, _, _, _ => none
  | m + 1, I, O, b0, y2 => (if (24 : Int32) < y2 then some ((1 : Int32), I, O) else (if (I b0 3) = (27 : Int32) then some ((1 : Int32), I, O) else (f5_readClause n I O b0).bind fun r3 => (if r3.1 = 0 then some ((0 : Int32), r3.2, O) else (f5_expect r3.2 O b0 (59 : Int32)).bind fun r6 => (if r6.1 = 0 then some ((0 : Int32), r6.2, O) else f5_read_c29 n m r6.2 O b0 (y2 + 1)))))
set_option maxHeartbeats 4000000 in
set_option maxRecDepth 20000 in
theorem o5_read_c29 {g : pG} {Qx : Option Value → pW → Prop} {Z : pZ} {L : (Nat → Nat → Int64)} {n : Nat} {res : Int32 × (Nat → Nat → Int32) × (Nat → Nat → Option Nat)} (d : Nat) (hQ : (res.1 = 0 ∨ res.1 = 1) → Qx (some (.int res.1)) (Z, res.2.1, L, res.2.2)) : ∀ (m : Nat) (I : (Nat → Nat → Int32)) (O : (Nat → Nat → Option Nat)) (b0 : Nat) (y2 : Int32), (WT Z O) → (Z[b0]? = some (5, 8)) → f5_read_c29 n m I O b0 y2 = some res → Ok g (d + 107, RX5, cX5_read, 3, false, 0, 0, Z.length, pSl Z) Qx 29 [(0, .ref b0), (2, .int y2)] [] (Z, I, L, O) := by
  intro m
  induction m with
  | zero => intro I O b0 y2 hW hZ_b0 h; rw [f5_read_c29] at h; cases h
  | succ m ih =>
    intro I O b0 y2 hW hZ_b0 h
    rw [f5_read_c29] at h
    refine ok_iload_n dX5_read_29 1 rfl ?_
    refine ok_bipush (v := 24) dX5_read_30 (by decide) ?_
    refine ok_icmp_gt (t := 68) dX5_read_32 (by decide) (fun hc1 => ?_) (fun hc1 => ?_)
    · have h := (if_pos hc1).symm.trans h
      refine ok_iconst (v := 1) dX5_read_68 (by decide) ?_
      cases h
      exact ok_iret dX5_read_69 (hQ (Or.inr rfl))
    · have h := (if_neg hc1).symm.trans h
      refine ok_aload_n dX5_read_35 0 rfl ?_
      refine ok_getI (ci := 5) (k := 3) dX5_read_36 flRX5_36 rfl hZ_b0 (by decide) ?_
      refine ok_bipush (v := 27) dX5_read_39 (by decide) ?_
      refine ok_icmp_eq (t := 68) dX5_read_41 (by decide) (fun hc2 => ?_) (fun hc2 => ?_)
      · have h := (if_pos hc2).symm.trans h
        refine ok_iconst (v := 1) dX5_read_68 (by decide) ?_
        cases h
        exact ok_iret dX5_read_69 (hQ (Or.inr rfl))
      · have h := (if_neg hc2).symm.trans h
        refine ok_aload_n dX5_read_44 0 rfl ?_
        obtain ⟨r3, hr4, h⟩ := bd h
        refine ok_callV (d := ((d + 0) + 106)) (mt := m5_readClause) (mc := 0) (ms := 0) (As := []) (r := []) dX5_read_45 mo5_readClause mv5_readClause lkRX5_39 rfl hZ_b0 (q := (RX5, TX5, 8)) rfl rfl rfl (Nat.le_of_ble_eq_true rfl) (by show _ + 1 ≤ d + _; omega) (Nat.le_refl _) (Nat.le_refl _) (pRt_mono ?_)
        refine k5_readClause (d + 0) hW hZ_b0 hr4 ?_
        intro hbr3
        show Ok g _ Qx 48 [(0, .ref b0), (2, .int y2)] [.int r3.1] (Z, r3.2, L, O)
        refine ok_if_eq (t := 60) dX5_read_48 (by decide) (fun hc5 => ?_) (fun hc5 => ?_)
        · have h := (if_pos hc5).symm.trans h
          refine ok_iconst (v := 0) dX5_read_60 (by decide) ?_
          cases h
          exact ok_iret dX5_read_61 (hQ (Or.inl rfl))
        · have h := (if_neg hc5).symm.trans h
          refine ok_aload_n dX5_read_51 0 rfl ?_
          refine ok_bipush (v := 59) dX5_read_52 (by decide) ?_
          obtain ⟨r6, hr7, h⟩ := bd h
          refine ok_callV (d := ((d + 103) + 3)) (mt := m5_expect) (mc := 0) (ms := 0) (As := [.int 59]) (r := []) dX5_read_54 mo5_expect mv5_expect lkRX5_43 rfl hZ_b0 (q := (RX5, TX5, 8)) rfl rfl rfl (Nat.le_of_ble_eq_true rfl) (by show _ + 1 ≤ d + _; omega) (Nat.le_refl _) (Nat.le_refl _) (pRt_mono ?_)
          refine k5_expect (d + 103) hW hZ_b0 hr7 ?_
          intro hbr6
          show Ok g _ Qx 57 [(0, .ref b0), (2, .int y2)] [.int r6.1] (Z, r6.2, L, O)
          refine ok_if_ne (t := 62) dX5_read_57 (by decide) (fun hc8 => ?_) (fun hc8 => ?_)
          · have h := (if_neg hc8).symm.trans h
            refine ok_iinc (u := (y2 + 1)) (l' := [(2, .int (y2 + 1)), (0, .ref b0)]) dX5_read_62 1 rfl rfl (Nat.le_of_ble_eq_true rfl) rfl ?_
            refine ok_goto (t := 29) dX5_read_65 (by decide) ?_
            refine ok_sub [1, 0] rfl ?_
            exact ih r6.2 O b0 (y2 + 1) hW hZ_b0 h
          · have h := (if_pos hc8).symm.trans h
            refine ok_iconst (v := 0) dX5_read_60 (by decide) ?_
            cases h
            exact ok_iret dX5_read_61 (hQ (Or.inl rfl))
def f5_read (n : Nat) (I : (Nat → Nat → Int32)) (O : (Nat → Nat → Option Nat)) (a0 : Nat) (a1 : Nat) : Option (Int32 × (Nat → Nat → Int32) × (Nat → Nat → Option Nat)) := bl (sO O a0 1 (some a1)) fun O1 => (f7_clear I O1 (rO O1 a0 1)).bind fun r4 => bl (sI r4 a0 6 (0 : Int32)) fun I6 => bl (sI I6 a0 7 (-1 : Int32)) fun I7 => (f5_comeTo I7 O1 a0 (0 : Int32)).bind fun r8 => f5_read_c29 n n r8 O1 a0 (0 : Int32)
set_option maxHeartbeats 4000000 in
set_option maxRecDepth 20000 in
theorem o5_read {g : pG} {Qx : Option Value → pW → Prop} {Z : pZ} {I : (Nat → Nat → Int32)} {L : (Nat → Nat → Int64)} {O : (Nat → Nat → Option Nat)} {n : Nat} {a0 : Nat} {a1 : Nat} {res : Int32 × (Nat → Nat → Int32) × (Nat → Nat → Option Nat)} (d : Nat) (hW : WT Z O) (hZ0 : Z[a0]? = some (5, 8)) (hZ1 : Z[a1]? = some (7, 7)) (h : f5_read n I O a0 a1 = some res) (hQ : (res.1 = 0 ∨ res.1 = 1) → Qx (some (.int res.1)) (Z, res.2.1, L, res.2.2)) : Ok g (d + 107, RX5, cX5_read, 3, false, 0, 0, Z.length, pSl Z) Qx 0 [(0, .ref a0), (1, .ref a1)] [] (Z, I, L, O) := by
  unfold f5_read at h
  refine ok_aload_n dX5_read_0 0 rfl ?_
  refine ok_aload_n dX5_read_1 1 rfl ?_
  obtain ⟨O1, eO1, h⟩ := blE h
  have hW2 : WT Z O1 := by rw [eO1]; exact wt_put hW hZ0 (by decide) rfl hZ1
  refine ok_putR2 (ci := 5) (k := 1) dX5_read_2 flRX5_12 rfl (Or.inl ⟨_, rfl⟩) (Or.inl rfl) hZ0 (by decide) eO1 ?_
  refine ok_aload_n dX5_read_5 0 rfl ?_
  have hT3 : Z[(rO O1 a0 1)]? = some (7, 7) := (wt_f (ci := 5) (k := 1) hW2 hZ0 rfl).2
  refine ok_getR (ci := 5) (k := 1) dX5_read_6 flRX5_12 rfl hW2 hZ0 (by decide) ?_
  obtain ⟨r4, hr5, h⟩ := bd h
  refine ok_callV (d := ((d + 101) + 5)) (mt := m7_clear) (mc := 0) (ms := 0) (As := []) (r := []) dX5_read_9 mo7_clear mv7_clear lkRX5_26 rfl hT3 (q := (RX7, TX7, 7)) rfl rfl rfl (Nat.le_of_ble_eq_true rfl) (by show _ + 1 ≤ d + _; omega) (Nat.le_refl _) (Nat.le_refl _) (pRt_mono ?_)
  refine k7_clear (d + 101) hW2 hT3 hr5 ?_
  intro _
  show Ok g _ Qx 12 [(0, .ref a0), (1, .ref a1)] [] (Z, r4, L, O1)
  refine ok_aload_n dX5_read_12 0 rfl ?_
  refine ok_iconst (v := 0) dX5_read_13 (by decide) ?_
  obtain ⟨I6, eI6, h⟩ := blE h
  refine ok_putI2 (ci := 5) (k := 6) dX5_read_14 flRX5_29 rfl (Or.inl rfl) hZ0 (by decide) eI6 ?_
  refine ok_aload_n dX5_read_17 0 rfl ?_
  refine ok_iconst (v := (-1)) dX5_read_18 (by decide) ?_
  obtain ⟨I7, eI7, h⟩ := blE h
  refine ok_putI2 (ci := 5) (k := 7) dX5_read_19 flRX5_18 rfl (Or.inl rfl) hZ0 (by decide) eI7 ?_
  refine ok_aload_n dX5_read_22 0 rfl ?_
  refine ok_iconst (v := 0) dX5_read_23 (by decide) ?_
  obtain ⟨r8, hr9, h⟩ := bd h
  refine ok_callV (d := ((d + 104) + 2)) (mt := m5_comeTo) (mc := 0) (ms := 0) (As := [.int 0]) (r := []) dX5_read_24 mo5_comeTo mv5_comeTo lkRX5_32 rfl hZ0 (q := (RX5, TX5, 8)) rfl rfl rfl (Nat.le_of_ble_eq_true rfl) (by show _ + 1 ≤ d + _; omega) (Nat.le_refl _) (Nat.le_refl _) (pRt_mono ?_)
  refine k5_comeTo (d + 104) hW2 hZ0 hr9 ?_
  intro _
  show Ok g _ Qx 27 [(0, .ref a0), (1, .ref a1)] [] (Z, r8, L, O1)
  refine ok_iconst (v := 0) dX5_read_27 (by decide) ?_
  refine ok_istore_n (l' := [(2, .int 0), (0, .ref a0), (1, .ref a1)]) dX5_read_28 rfl (Nat.le_of_ble_eq_true rfl) rfl ?_
  refine ok_sub [1, 0] rfl ?_
  exact o5_read_c29 d hQ  n r8 O1 a0 (0 : Int32) hW2 hZ0 h
theorem k5_read {g : pG} {Q : Option Value → pW → Prop} {Z : pZ} {I : (Nat → Nat → Int32)} {L : (Nat → Nat → Int64)} {O : (Nat → Nat → Option Nat)} {n : Nat} {a0 : Nat} {a1 : Nat} {res : Int32 × (Nat → Nat → Int32) × (Nat → Nat → Option Nat)} (d : Nat) (hW : WT Z O) (hZ0 : Z[a0]? = some (5, 8)) (hZ1 : Z[a1]? = some (7, 7)) (h : f5_read n I O a0 a1 = some res) (hQ : Q (some (.int res.1)) (Z, res.2.1, L, res.2.2)) : CT g (d + 107) m5_read 0 0 [.ref a0, .ref a1] (Z, I, L, O) Q :=
  ct_of_ok (mt := m5_read) (ini := false) mo5_read.2.2.2.2 (fun h => by cases h) (Nat.le_of_ble_eq_true rfl) (o5_read d hW hZ0 hZ1 h (fun hb => ⟨hb, hQ, rfl, rfl⟩))
theorem w5_read_c29 {n : Nat} {res : Int32 × (Nat → Nat → Int32) × (Nat → Nat → Option Nat)} : ∀ (m : Nat) (I : (Nat → Nat → Int32)) (O : (Nat → Nat → Option Nat)) (b0 : Nat) (y2 : Int32), f5_read_c29 n m I O b0 y2 = some res → res.2.2 = O := by
  intro m
  induction m with
  | zero => intro I O b0 y2 h; rw [f5_read_c29] at h; cases h
  | succ m ih =>
    intro I O b0 y2 h
    rw [f5_read_c29] at h
    by_cases c1 : (24 : Int32) < y2
    · rw [if_pos c1] at h; cases h; rfl
    rw [if_neg c1] at h
    by_cases c2 : I b0 3 = (27 : Int32)
    · rw [if_pos c2] at h; cases h; rfl
    rw [if_neg c2] at h
    obtain ⟨r3, h3, h⟩ := bd h
    by_cases c3 : r3.1 = 0
    · rw [if_pos c3] at h; cases h; rfl
    rw [if_neg c3] at h
    obtain ⟨r6, h6, h⟩ := bd h
    by_cases c4 : r6.1 = 0
    · rw [if_pos c4] at h; cases h; rfl
    rw [if_neg c4] at h
    exact ih _ _ _ _ h
theorem w5_read {Z : pZ} {n : Nat} {I : (Nat → Nat → Int32)} {O : (Nat → Nat → Option Nat)} {a0 a1 : Nat} {res : Int32 × (Nat → Nat → Int32) × (Nat → Nat → Option Nat)} (hW : WT Z O) (hZ0 : Z[a0]? = some (5, 8)) (hZ1 : Z[a1]? = some (7, 7)) (h : f5_read n I O a0 a1 = some res) : WT Z res.2.2 := by
  unfold f5_read at h
  obtain ⟨O1, e1, h⟩ := blE h
  obtain ⟨r4, h4, h⟩ := bd h
  obtain ⟨I6, e6, h⟩ := blE h
  obtain ⟨I7, e7, h⟩ := blE h
  obtain ⟨r8, h8, h⟩ := bd h
  rw [w5_read_c29 _ _ _ _ _ h, e1]
  exact wt_put hW hZ0 (by decide) rfl hZ1
