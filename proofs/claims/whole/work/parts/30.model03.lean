theorem lkRX12_350 : Cond.methodLink RX12 350 yX12_playNow ∈ lw_tbl := tb_i 1612 (by decide +kernel)
theorem lkRX12_353 : Cond.methodLink RX12 353 yX12_isChild ∈ lw_tbl := tb_i 1604 (by decide +kernel)
theorem lkRX12_356 : Cond.methodLink RX12 356 yX12_keep ∈ lw_tbl := tb_i 1608 (by decide +kernel)
theorem lkRX12_359 : Cond.methodLink RX12 359 yX12_canPatch ∈ lw_tbl := tb_i 1712 (by decide +kernel)
theorem lkRX12_362 : Cond.methodLink RX12 362 yX12_canForget ∈ lw_tbl := tb_i 1720 (by decide +kernel)
theorem lkRX12_365 : Cond.methodLink RX12 365 yX12_pass ∈ lw_tbl := tb_i 1732 (by decide +kernel)
theorem lkRX12_368 : Cond.methodLink RX12 368 yX12_arePassed ∈ lw_tbl := tb_i 1728 (by decide +kernel)
theorem lkRX12_371 : Cond.methodLink RX12 371 yX12_roll ∈ lw_tbl := tb_i 1744 (by decide +kernel)
theorem lkRX12_374 : Cond.methodLink RX12 374 yX12_child ∈ lw_tbl := tb_i 1745 (by decide +kernel)
theorem lkRX12_377 : Cond.methodLink RX12 377 yX12_play ∈ lw_tbl := tb_i 1746 (by decide +kernel)
theorem lkRX12_380 : Cond.methodLink RX12 380 yX12_patch ∈ lw_tbl := tb_i 1747 (by decide +kernel)
theorem lkRX12_383 : Cond.methodLink RX12 383 yX12_forget ∈ lw_tbl := tb_i 1748 (by decide +kernel)
theorem lkRX12_386 : Cond.methodLink RX12 386 yX12_isPlayed ∈ lw_tbl := tb_i 1740 (by decide +kernel)
theorem lkRX12_389 : Cond.methodLink RX12 389 yX12_happens ∈ lw_tbl := tb_i 1753 (by decide +kernel)
theorem lkRX12_392 : Cond.methodLink RX12 392 yX12_isLearnt ∈ lw_tbl := tb_i 1765 (by decide +kernel)
theorem lkRX12_395 : Cond.methodLink RX12 395 yX12_learnt ∈ lw_tbl := tb_i 1761 (by decide +kernel)
theorem lkRX12_398 : Cond.methodLink RX12 398 yX12_heardMost ∈ lw_tbl := tb_i 1773 (by decide +kernel)
theorem lkRX12_401 : Cond.methodLink RX12 401 yX12_tornIn ∈ lw_tbl := tb_i 1785 (by decide +kernel)
theorem lkRX12_404 : Cond.methodLink RX12 404 yX12_keysIn ∈ lw_tbl := tb_i 1789 (by decide +kernel)
theorem lkRX12_407 : Cond.methodLink RX12 407 yX12_tearsOf ∈ lw_tbl := tb_i 1793 (by decide +kernel)
theorem dX12_pass_0 : decode cX12_pass 0 = .ok (.aload_n 0, 1) := by decide +kernel
theorem dX12_pass_1 : decode cX12_pass 1 = .ok (.getfield 7, 3) := by decide +kernel
theorem dX12_pass_4 : decode cX12_pass 4 = .ok (.iconst 0, 1) := by decide +kernel
theorem dX12_pass_5 : decode cX12_pass 5 = .ok (.iaload, 1) := by decide +kernel
theorem dX12_pass_6 : decode cX12_pass 6 = .ok (.ifCond .le 38, 3) := by decide +kernel
theorem dX12_pass_9 : decode cX12_pass 9 = .ok (.aload_n 0, 1) := by decide +kernel
theorem dX12_pass_10 : decode cX12_pass 10 = .ok (.getfield 7, 3) := by decide +kernel
theorem dX12_pass_13 : decode cX12_pass 13 = .ok (.iconst 1, 1) := by decide +kernel
theorem dX12_pass_14 : decode cX12_pass 14 = .ok (.iaload, 1) := by decide +kernel
theorem dX12_pass_15 : decode cX12_pass 15 = .ok (.ifCond .le 29, 3) := by decide +kernel
theorem dX12_pass_18 : decode cX12_pass 18 = .ok (.aload_n 0, 1) := by decide +kernel
theorem dX12_pass_19 : decode cX12_pass 19 = .ok (.aload_n 0, 1) := by decide +kernel
theorem dX12_pass_20 : decode cX12_pass 20 = .ok (.getfield 7, 3) := by decide +kernel
theorem dX12_pass_23 : decode cX12_pass 23 = .ok (.iconst 0, 1) := by decide +kernel
theorem dX12_pass_24 : decode cX12_pass 24 = .ok (.iaload, 1) := by decide +kernel
theorem dX12_pass_25 : decode cX12_pass 25 = .ok (.invokevirtual 337, 3) := by decide +kernel
theorem dX12_pass_28 : decode cX12_pass 28 = .ok (.istore_n 1, 1) := by decide +kernel
theorem dX12_pass_29 : decode cX12_pass 29 = .ok (.aload_n 0, 1) := by decide +kernel
theorem dX12_pass_30 : decode cX12_pass 30 = .ok (.iload_n 1, 1) := by decide +kernel
theorem dX12_pass_31 : decode cX12_pass 31 = .ok (.aload_n 0, 1) := by decide +kernel
theorem dX12_pass_32 : decode cX12_pass 32 = .ok (.aload_n 0, 1) := by decide +kernel
theorem dX12_pass_33 : decode cX12_pass 33 = .ok (.getfield 7, 3) := by decide +kernel
theorem dX12_pass_36 : decode cX12_pass 36 = .ok (.iconst 1, 1) := by decide +kernel
theorem dX12_pass_37 : decode cX12_pass 37 = .ok (.iaload, 1) := by decide +kernel
theorem dX12_pass_38 : decode cX12_pass 38 = .ok (.invokevirtual 337, 3) := by decide +kernel
theorem dX12_pass_41 : decode cX12_pass 41 = .ok (.invokevirtual 350, 3) := by decide +kernel
theorem dX12_pass_44 : decode cX12_pass 44 = .ok (.aload_n 0, 1) := by decide +kernel
theorem dX12_pass_45 : decode cX12_pass 45 = .ok (.getfield 7, 3) := by decide +kernel
theorem dX12_pass_48 : decode cX12_pass 48 = .ok (.bipush 7, 2) := by decide +kernel
theorem dX12_pass_50 : decode cX12_pass 50 = .ok (.dup2, 1) := by decide +kernel
theorem dX12_pass_51 : decode cX12_pass 51 = .ok (.iaload, 1) := by decide +kernel
theorem dX12_pass_52 : decode cX12_pass 52 = .ok (.iconst 1, 1) := by decide +kernel
theorem dX12_pass_53 : decode cX12_pass 53 = .ok (.iadd, 1) := by decide +kernel
theorem dX12_pass_54 : decode cX12_pass 54 = .ok (.iastore, 1) := by decide +kernel
theorem dX12_pass_55 : decode cX12_pass 55 = .ok (.return_, 1) := by decide +kernel
def m12_pass : pMT := (yX12_pass, cX12_pass, 2, none)
theorem mo12_pass : mOK m12_pass 0 := ⟨tb_i 1735 (by decide +kernel), wi_RX12, ⟨wn_RX12.1, wn_RX12.2, by decide +kernel⟩, by decide, plainFor_of_name wp_RX12⟩
theorem mv12_pass : mV m12_pass := ⟨tb_i 1734 (by decide +kernel), tb_p 110 (by decide +kernel)⟩
def f12_pass (n : Nat) (I : (Nat → Nat → Int32)) (L : (Nat → Nat → Int64)) (O : (Nat → Nat → Option Nat)) (a0 : Nat) : Option ((Nat → Nat → Int32) × (Nat → Nat → Int64)) := (if (I (rO O a0 0) 0) ≤ 0 then bl (sI I (rO O a0 0) 7 ((I (rO O a0 0) 7) + 1)) fun I3 => some (I3, L) else (if (I (rO O a0 0) 1) ≤ 0 then bl (sI I (rO O a0 0) 7 ((I (rO O a0 0) 7) + 1)) fun I5 => some (I5, L) else (f12_drawnBy I O a0 (I (rO O a0 0) 0)).bind fun r6 => (f12_drawnBy r6.2 O a0 (r6.2 (rO O a0 0) 1)).bind fun r8 => (f12_playNow n r8.2 L O a0 r6.1 r8.1).bind fun r10 => bl (sI r10.1 (rO O a0 0) 7 ((r10.1 (rO O a0 0) 7) + 1)) fun I12 => some (I12, r10.2)))
set_option maxHeartbeats 4000000 in
set_option maxRecDepth 20000 in
theorem o12_pass {g : pG} {Qx : Option Value → pW → Prop} {Z : pZ} {I : (Nat → Nat → Int32)} {L : (Nat → Nat → Int64)} {O : (Nat → Nat → Option Nat)} {n : Nat} {a0 : Nat} {res : (Nat → Nat → Int32) × (Nat → Nat → Int64)} (d : Nat) (hW : WT Z O) (hZ0 : Z[a0]? = some (12, 34)) (h : f12_pass n I L O a0 = some res) (hQ : Qx none (Z, res.1, res.2, O)) : Ok g (d + 10, RX12, cX12_pass, 2, false, 0, 0, Z.length, pSl Z) Qx 0 [(0, .ref a0)] [] (Z, I, L, O) := by
  unfold f12_pass at h
  refine ok_aload_n dX12_pass_0 0 rfl ?_
  have hT1 : Z[(rO O a0 0)]? = some (13, 4371) := (wt_f (ci := 12) (k := 0) hW hZ0 rfl).2
  refine ok_getR (ci := 12) (k := 0) dX12_pass_1 flRX12_7 rfl hW hZ0 (by decide) ?_
  refine ok_iconst (v := 0) dX12_pass_4 (by decide) ?_
  refine ok_iald2 (N := 0) dX12_pass_5 hT1 (by unfold vp_in; decide) (by decide) ?_
  refine ok_if_le (t := 44) dX12_pass_6 (by decide) (fun hc2 => ?_) (fun hc2 => ?_)
  · have h := (if_pos hc2).symm.trans h
    refine ok_aload_n dX12_pass_44 0 rfl ?_
    refine ok_getR (ci := 12) (k := 0) dX12_pass_45 flRX12_7 rfl hW hZ0 (by decide) ?_
    refine ok_bipush (v := 7) dX12_pass_48 (by decide) ?_
    refine ok_dup2 dX12_pass_50 rfl rfl ?_
    refine ok_iald2 (N := 7) dX12_pass_51 hT1 (by unfold vp_in; decide) (by decide) ?_
    refine ok_iconst (v := 1) dX12_pass_52 (by decide) ?_
    refine ok_iadd dX12_pass_53 ?_
    obtain ⟨I3, eI3, h⟩ := blE h
    refine ok_iast3 dX12_pass_54 hT1 (by unfold vp_in; decide) (by decide) eI3 ?_
    cases h
    exact ok_vret dX12_pass_55 hQ
  · have h := (if_neg hc2).symm.trans h
    refine ok_aload_n dX12_pass_9 0 rfl ?_
    refine ok_getR (ci := 12) (k := 0) dX12_pass_10 flRX12_7 rfl hW hZ0 (by decide) ?_
    refine ok_iconst (v := 1) dX12_pass_13 (by decide) ?_
    refine ok_iald2 (N := 1) dX12_pass_14 hT1 (by unfold vp_in; decide) (by decide) ?_
    refine ok_if_le (t := 44) dX12_pass_15 (by decide) (fun hc4 => ?_) (fun hc4 => ?_)
    · have h := (if_pos hc4).symm.trans h
      refine ok_aload_n dX12_pass_44 0 rfl ?_
      refine ok_getR (ci := 12) (k := 0) dX12_pass_45 flRX12_7 rfl hW hZ0 (by decide) ?_
      refine ok_bipush (v := 7) dX12_pass_48 (by decide) ?_
      refine ok_dup2 dX12_pass_50 rfl rfl ?_
      refine ok_iald2 (N := 7) dX12_pass_51 hT1 (by unfold vp_in; decide) (by decide) ?_
      refine ok_iconst (v := 1) dX12_pass_52 (by decide) ?_
      refine ok_iadd dX12_pass_53 ?_
      obtain ⟨I5, eI5, h⟩ := blE h
      refine ok_iast3 dX12_pass_54 hT1 (by unfold vp_in; decide) (by decide) eI5 ?_
      cases h
      exact ok_vret dX12_pass_55 hQ
    · have h := (if_neg hc4).symm.trans h
      refine ok_aload_n dX12_pass_18 0 rfl ?_
      refine ok_aload_n dX12_pass_19 0 rfl ?_
      refine ok_getR (ci := 12) (k := 0) dX12_pass_20 flRX12_7 rfl hW hZ0 (by decide) ?_
      refine ok_iconst (v := 0) dX12_pass_23 (by decide) ?_
      refine ok_iald2 (N := 0) dX12_pass_24 hT1 (by unfold vp_in; decide) (by decide) ?_
      obtain ⟨r6, hr7, h⟩ := bd h
      refine ok_callV (d := ((d + 6) + 3)) (mt := m12_drawnBy) (mc := 0) (ms := 0) (As := [.int (I (rO O a0 0) 0)]) (r := []) dX12_pass_25 mo12_drawnBy mv12_drawnBy lkRX12_337 rfl hZ0 (q := (RX12, TX12, 34)) rfl rfl rfl (Nat.le_of_ble_eq_true rfl) (by show _ + 1 ≤ d + _; omega) (Nat.le_refl _) (Nat.le_refl _) (pRt_mono ?_)
      refine k12_drawnBy (d + 6) hW hZ0 hr7 ?_
      intro _
      show Ok g _ Qx 28 [(0, .ref a0)] [.int r6.1] (Z, r6.2, L, O)
      refine ok_istore_n (l' := [(1, .int r6.1), (0, .ref a0)]) dX12_pass_28 rfl (Nat.le_of_ble_eq_true rfl) rfl ?_
      refine ok_aload_n dX12_pass_29 1 rfl ?_
      refine ok_iload_n dX12_pass_30 0 rfl ?_
      refine ok_aload_n dX12_pass_31 1 rfl ?_
      refine ok_aload_n dX12_pass_32 1 rfl ?_
      refine ok_getR (ci := 12) (k := 0) dX12_pass_33 flRX12_7 rfl hW hZ0 (by decide) ?_
      refine ok_iconst (v := 1) dX12_pass_36 (by decide) ?_
      refine ok_iald2 (N := 1) dX12_pass_37 hT1 (by unfold vp_in; decide) (by decide) ?_
      obtain ⟨r8, hr9, h⟩ := bd h
      refine ok_callV (d := ((d + 6) + 3)) (mt := m12_drawnBy) (mc := 0) (ms := 0) (As := [.int (r6.2 (rO O a0 0) 1)]) (r := [.int r6.1, .ref a0]) dX12_pass_38 mo12_drawnBy mv12_drawnBy lkRX12_337 rfl hZ0 (q := (RX12, TX12, 34)) rfl rfl rfl (Nat.le_of_ble_eq_true rfl) (by show _ + 1 ≤ d + _; omega) (Nat.le_refl _) (Nat.le_refl _) (pRt_mono ?_)
      refine k12_drawnBy (d + 6) hW hZ0 hr9 ?_
      intro _
      show Ok g _ Qx 41 [(1, .int r6.1), (0, .ref a0)] [.int r8.1, .int r6.1, .ref a0] (Z, r8.2, L, O)
      obtain ⟨r10, hr11, h⟩ := bd h
      refine ok_callV (d := ((d + 0) + 9)) (mt := m12_playNow) (mc := 0) (ms := 0) (As := [.int r6.1, .int r8.1]) (r := []) dX12_pass_41 mo12_playNow mv12_playNow lkRX12_350 rfl hZ0 (q := (RX12, TX12, 34)) rfl rfl rfl (Nat.le_of_ble_eq_true rfl) (by show _ + 1 ≤ d + _; omega) (Nat.le_refl _) (Nat.le_refl _) (pRt_mono ?_)
      refine k12_playNow (d + 0) hW hZ0 hr11 ?_
      intro _
      show Ok g _ Qx 44 [(1, .int r6.1), (0, .ref a0)] [] (Z, r10.1, r10.2, O)
      refine ok_aload_n dX12_pass_44 1 rfl ?_
      refine ok_getR (ci := 12) (k := 0) dX12_pass_45 flRX12_7 rfl hW hZ0 (by decide) ?_
      refine ok_bipush (v := 7) dX12_pass_48 (by decide) ?_
      refine ok_dup2 dX12_pass_50 rfl rfl ?_
      refine ok_iald2 (N := 7) dX12_pass_51 hT1 (by unfold vp_in; decide) (by decide) ?_
      refine ok_iconst (v := 1) dX12_pass_52 (by decide) ?_
      refine ok_iadd dX12_pass_53 ?_
      obtain ⟨I12, eI12, h⟩ := blE h
      refine ok_iast3 dX12_pass_54 hT1 (by unfold vp_in; decide) (by decide) eI12 ?_
      cases h
      exact ok_vret dX12_pass_55 hQ
theorem k12_pass {g : pG} {Q : Option Value → pW → Prop} {Z : pZ} {I : (Nat → Nat → Int32)} {L : (Nat → Nat → Int64)} {O : (Nat → Nat → Option Nat)} {n : Nat} {a0 : Nat} {res : (Nat → Nat → Int32) × (Nat → Nat → Int64)} (d : Nat) (hW : WT Z O) (hZ0 : Z[a0]? = some (12, 34)) (h : f12_pass n I L O a0 = some res) (hQ : Q none (Z, res.1, res.2, O)) : CT g (d + 10) m12_pass 0 0 [.ref a0] (Z, I, L, O) Q :=
  ct_of_ok (mt := m12_pass) (ini := false) mo12_pass.2.2.2.2 (fun h => by cases h) (Nat.le_of_ble_eq_true rfl) (o12_pass d hW hZ0 h ⟨trivial, hQ, rfl, rfl⟩)
theorem dX12_keep_0 : decode cX12_keep 0 = .ok (.aload_n 0, 1) := by decide +kernel
theorem dX12_keep_1 : decode cX12_keep 1 = .ok (.getfield 7, 3) := by decide +kernel
theorem dX12_keep_4 : decode cX12_keep 4 = .ok (.iconst 4, 1) := by decide +kernel
theorem dX12_keep_5 : decode cX12_keep 5 = .ok (.iaload, 1) := by decide +kernel
theorem dX12_keep_6 : decode cX12_keep 6 = .ok (.bipush 30, 2) := by decide +kernel
theorem dX12_keep_8 : decode cX12_keep 8 = .ok (.if_icmp .ne 48, 3) := by decide +kernel
theorem dX12_keep_11 : decode cX12_keep 11 = .ok (.iconst 0, 1) := by decide +kernel
theorem dX12_keep_12 : decode cX12_keep 12 = .ok (.istore_n 1, 1) := by decide +kernel
theorem dX12_keep_13 : decode cX12_keep 13 = .ok (.iload_n 1, 1) := by decide +kernel
theorem dX12_keep_14 : decode cX12_keep 14 = .ok (.sipush 3973, 3) := by decide +kernel
theorem dX12_keep_17 : decode cX12_keep 17 = .ok (.if_icmp .ge 29, 3) := by decide +kernel
theorem dX12_keep_20 : decode cX12_keep 20 = .ok (.aload_n 0, 1) := by decide +kernel
theorem dX12_keep_21 : decode cX12_keep 21 = .ok (.getfield 7, 3) := by decide +kernel
theorem dX12_keep_24 : decode cX12_keep 24 = .ok (.sipush 231, 3) := by decide +kernel
theorem dX12_keep_27 : decode cX12_keep 27 = .ok (.iload_n 1, 1) := by decide +kernel
theorem dX12_keep_28 : decode cX12_keep 28 = .ok (.iadd, 1) := by decide +kernel
theorem dX12_keep_29 : decode cX12_keep 29 = .ok (.aload_n 0, 1) := by decide +kernel
theorem dX12_keep_30 : decode cX12_keep 30 = .ok (.getfield 7, 3) := by decide +kernel
theorem dX12_keep_33 : decode cX12_keep 33 = .ok (.sipush 368, 3) := by decide +kernel
theorem dX12_keep_36 : decode cX12_keep 36 = .ok (.iload_n 1, 1) := by decide +kernel
theorem dX12_keep_37 : decode cX12_keep 37 = .ok (.iadd, 1) := by decide +kernel
theorem dX12_keep_38 : decode cX12_keep 38 = .ok (.iaload, 1) := by decide +kernel
theorem dX12_keep_39 : decode cX12_keep 39 = .ok (.iastore, 1) := by decide +kernel
theorem dX12_keep_40 : decode cX12_keep 40 = .ok (.iinc 1 1, 3) := by decide +kernel
theorem dX12_keep_43 : decode cX12_keep 43 = .ok (.goto (-30), 3) := by decide +kernel
theorem dX12_keep_46 : decode cX12_keep 46 = .ok (.aload_n 0, 1) := by decide +kernel
theorem dX12_keep_47 : decode cX12_keep 47 = .ok (.getfield 7, 3) := by decide +kernel
theorem dX12_keep_50 : decode cX12_keep 50 = .ok (.iconst 4, 1) := by decide +kernel
theorem dX12_keep_51 : decode cX12_keep 51 = .ok (.dup2, 1) := by decide +kernel
theorem dX12_keep_52 : decode cX12_keep 52 = .ok (.iaload, 1) := by decide +kernel
theorem dX12_keep_53 : decode cX12_keep 53 = .ok (.iconst 1, 1) := by decide +kernel
theorem dX12_keep_54 : decode cX12_keep 54 = .ok (.isub, 1) := by decide +kernel
theorem dX12_keep_55 : decode cX12_keep 55 = .ok (.iastore, 1) := by decide +kernel
theorem dX12_keep_56 : decode cX12_keep 56 = .ok (.sipush 231, 3) := by decide +kernel
theorem dX12_keep_59 : decode cX12_keep 59 = .ok (.sipush 137, 3) := by decide +kernel
theorem dX12_keep_62 : decode cX12_keep 62 = .ok (.aload_n 0, 1) := by decide +kernel
theorem dX12_keep_63 : decode cX12_keep 63 = .ok (.getfield 7, 3) := by decide +kernel
theorem dX12_keep_66 : decode cX12_keep 66 = .ok (.iconst 4, 1) := by decide +kernel
theorem dX12_keep_67 : decode cX12_keep 67 = .ok (.iaload, 1) := by decide +kernel
theorem dX12_keep_68 : decode cX12_keep 68 = .ok (.imul, 1) := by decide +kernel
theorem dX12_keep_69 : decode cX12_keep 69 = .ok (.iadd, 1) := by decide +kernel
theorem dX12_keep_70 : decode cX12_keep 70 = .ok (.istore_n 1, 1) := by decide +kernel
theorem dX12_keep_71 : decode cX12_keep 71 = .ok (.iconst 0, 1) := by decide +kernel
theorem dX12_keep_72 : decode cX12_keep 72 = .ok (.istore_n 2, 1) := by decide +kernel
theorem dX12_keep_73 : decode cX12_keep 73 = .ok (.iload_n 2, 1) := by decide +kernel
theorem dX12_keep_74 : decode cX12_keep 74 = .ok (.bipush 107, 2) := by decide +kernel
theorem dX12_keep_76 : decode cX12_keep 76 = .ok (.if_icmp .ge 26, 3) := by decide +kernel
theorem dX12_keep_79 : decode cX12_keep 79 = .ok (.aload_n 0, 1) := by decide +kernel
theorem dX12_keep_80 : decode cX12_keep 80 = .ok (.getfield 7, 3) := by decide +kernel
theorem dX12_keep_83 : decode cX12_keep 83 = .ok (.iload_n 1, 1) := by decide +kernel
theorem dX12_keep_84 : decode cX12_keep 84 = .ok (.iload_n 2, 1) := by decide +kernel
theorem dX12_keep_85 : decode cX12_keep 85 = .ok (.iadd, 1) := by decide +kernel
theorem dX12_keep_86 : decode cX12_keep 86 = .ok (.aload_n 0, 1) := by decide +kernel
theorem dX12_keep_87 : decode cX12_keep 87 = .ok (.getfield 7, 3) := by decide +kernel
theorem dX12_keep_90 : decode cX12_keep 90 = .ok (.bipush 7, 2) := by decide +kernel
theorem dX12_keep_92 : decode cX12_keep 92 = .ok (.iload_n 2, 1) := by decide +kernel
theorem dX12_keep_93 : decode cX12_keep 93 = .ok (.iadd, 1) := by decide +kernel
theorem dX12_keep_94 : decode cX12_keep 94 = .ok (.iaload, 1) := by decide +kernel
theorem dX12_keep_95 : decode cX12_keep 95 = .ok (.iastore, 1) := by decide +kernel
theorem dX12_keep_96 : decode cX12_keep 96 = .ok (.iinc 2 1, 3) := by decide +kernel
theorem dX12_keep_99 : decode cX12_keep 99 = .ok (.goto (-26), 3) := by decide +kernel
theorem dX12_keep_102 : decode cX12_keep 102 = .ok (.iconst 0, 1) := by decide +kernel
theorem dX12_keep_103 : decode cX12_keep 103 = .ok (.istore_n 2, 1) := by decide +kernel
theorem dX12_keep_104 : decode cX12_keep 104 = .ok (.iload_n 2, 1) := by decide +kernel
theorem dX12_keep_105 : decode cX12_keep 105 = .ok (.bipush 30, 2) := by decide +kernel
theorem dX12_keep_107 : decode cX12_keep 107 = .ok (.if_icmp .ge 30, 3) := by decide +kernel
theorem dX12_keep_110 : decode cX12_keep 110 = .ok (.aload_n 0, 1) := by decide +kernel
theorem dX12_keep_111 : decode cX12_keep 111 = .ok (.getfield 7, 3) := by decide +kernel
theorem dX12_keep_114 : decode cX12_keep 114 = .ok (.iload_n 1, 1) := by decide +kernel
theorem dX12_keep_115 : decode cX12_keep 115 = .ok (.bipush 107, 2) := by decide +kernel
theorem dX12_keep_117 : decode cX12_keep 117 = .ok (.iadd, 1) := by decide +kernel
theorem dX12_keep_118 : decode cX12_keep 118 = .ok (.iload_n 2, 1) := by decide +kernel
theorem dX12_keep_119 : decode cX12_keep 119 = .ok (.iadd, 1) := by decide +kernel
theorem dX12_keep_120 : decode cX12_keep 120 = .ok (.aload_n 0, 1) := by decide +kernel
theorem dX12_keep_121 : decode cX12_keep 121 = .ok (.getfield 7, 3) := by decide +kernel
theorem dX12_keep_124 : decode cX12_keep 124 = .ok (.sipush 4341, 3) := by decide +kernel
theorem dX12_keep_127 : decode cX12_keep 127 = .ok (.iload_n 2, 1) := by decide +kernel
theorem dX12_keep_128 : decode cX12_keep 128 = .ok (.iadd, 1) := by decide +kernel
theorem dX12_keep_129 : decode cX12_keep 129 = .ok (.iaload, 1) := by decide +kernel
theorem dX12_keep_130 : decode cX12_keep 130 = .ok (.iastore, 1) := by decide +kernel
theorem dX12_keep_131 : decode cX12_keep 131 = .ok (.iinc 2 1, 3) := by decide +kernel
theorem dX12_keep_134 : decode cX12_keep 134 = .ok (.goto (-30), 3) := by decide +kernel
theorem dX12_keep_137 : decode cX12_keep 137 = .ok (.aload_n 0, 1) := by decide +kernel
theorem dX12_keep_138 : decode cX12_keep 138 = .ok (.getfield 7, 3) := by decide +kernel
theorem dX12_keep_141 : decode cX12_keep 141 = .ok (.iconst 4, 1) := by decide +kernel
theorem dX12_keep_142 : decode cX12_keep 142 = .ok (.dup2, 1) := by decide +kernel
theorem dX12_keep_143 : decode cX12_keep 143 = .ok (.iaload, 1) := by decide +kernel
theorem dX12_keep_144 : decode cX12_keep 144 = .ok (.iconst 1, 1) := by decide +kernel
theorem dX12_keep_145 : decode cX12_keep 145 = .ok (.iadd, 1) := by decide +kernel
theorem dX12_keep_146 : decode cX12_keep 146 = .ok (.iastore, 1) := by decide +kernel
theorem dX12_keep_147 : decode cX12_keep 147 = .ok (.return_, 1) := by decide +kernel
def m12_keep : pMT := (yX12_keep, cX12_keep, 3, none)
theorem mo12_keep : mOK m12_keep 0 := ⟨tb_i 1611 (by decide +kernel), wi_RX12, ⟨wn_RX12.1, wn_RX12.2, by decide +kernel⟩, by decide, plainFor_of_name wp_RX12⟩
theorem mv12_keep : mV m12_keep := ⟨tb_i 1610 (by decide +kernel), tb_p 88 (by decide +kernel)⟩
def f12_keep_c104 (n : Nat) (O : (Nat → Nat → Option Nat)) : Nat → (Nat → Nat → Int32) → Nat → Int32 → Int32 → Option ((Nat → Nat → Int32))
  | 0, _, _, _, _ => none
  | m + 1, I, b0, y1, y2 => (if (30 : Int32) ≤ y2 then bl (sI I (rO O b0 0) 4 ((I (rO O b0 0) 4) + 1)) fun I3 => some (I3) else (if ((4341 : Int32) + y2) < 0 ∨ 4371 ≤ ((4341 : Int32) + y2).toNatClampNeg then none else (if ((y1 + 107) + y2) < 0 ∨ 4371 ≤ ((y1 + 107) + y2).toNatClampNeg then none else bl (sI I (rO O b0 0) ((y1 + 107) + y2).toNatClampNeg (I (rO O b0 0) ((4341 : Int32) + y2).toNatClampNeg)) fun I7 => f12_keep_c104 n O m I7 b0 y1 (y2 + 1))))
set_option maxHeartbeats 4000000 in
set_option maxRecDepth 20000 in
theorem o12_keep_c104 {g : pG} {Qx : Option Value → pW → Prop} {Z : pZ} {L : (Nat → Nat → Int64)} {O : (Nat → Nat → Option Nat)} {n : Nat} {res : (Nat → Nat → Int32)} (d : Nat) (hW : WT Z O) (hQ : Qx none (Z, res, L, O)) : ∀ (m : Nat) (I : (Nat → Nat → Int32)) (b0 : Nat) (y1 : Int32) (y2 : Int32), (Z[b0]? = some (12, 34)) → f12_keep_c104 n O m I b0 y1 y2 = some res → Ok g (d + 2, RX12, cX12_keep, 3, false, 0, 0, Z.length, pSl Z) Qx 104 [(0, .ref b0), (1, .int y1), (2, .int y2)] [] (Z, I, L, O) := by
  intro m
  induction m with
  | zero => intro I b0 y1 y2 hZ_b0 h; rw [f12_keep_c104] at h; cases h
  | succ m ih =>
    intro I b0 y1 y2 hZ_b0 h
    rw [f12_keep_c104] at h
    refine ok_iload_n dX12_keep_104 2 rfl ?_
    refine ok_bipush (v := 30) dX12_keep_105 (by decide) ?_
    refine ok_icmp_ge (t := 137) dX12_keep_107 (by decide) (fun hc1 => ?_) (fun hc1 => ?_)
    · have h := (if_pos hc1).symm.trans h
      refine ok_aload_n dX12_keep_137 0 rfl ?_
      have hT2 : Z[(rO O b0 0)]? = some (13, 4371) := (wt_f (ci := 12) (k := 0) hW hZ_b0 rfl).2
      refine ok_getR (ci := 12) (k := 0) dX12_keep_138 flRX12_7 rfl hW hZ_b0 (by decide) ?_
      refine ok_iconst (v := 4) dX12_keep_141 (by decide) ?_
      refine ok_dup2 dX12_keep_142 rfl rfl ?_
      refine ok_iald2 (N := 4) dX12_keep_143 hT2 (by unfold vp_in; decide) (by decide) ?_
      refine ok_iconst (v := 1) dX12_keep_144 (by decide) ?_
      refine ok_iadd dX12_keep_145 ?_
      obtain ⟨I3, eI3, h⟩ := blE h
      refine ok_iast3 dX12_keep_146 hT2 (by unfold vp_in; decide) (by decide) eI3 ?_
      cases h
      exact ok_vret dX12_keep_147 hQ
    · have h := (if_neg hc1).symm.trans h
      refine ok_aload_n dX12_keep_110 0 rfl ?_
      have hT4 : Z[(rO O b0 0)]? = some (13, 4371) := (wt_f (ci := 12) (k := 0) hW hZ_b0 rfl).2
      refine ok_getR (ci := 12) (k := 0) dX12_keep_111 flRX12_7 rfl hW hZ_b0 (by decide) ?_
      refine ok_iload_n dX12_keep_114 1 rfl ?_
      refine ok_bipush (v := 107) dX12_keep_115 (by decide) ?_
      refine ok_iadd dX12_keep_117 ?_
      refine ok_iload_n dX12_keep_118 2 rfl ?_
      refine ok_iadd dX12_keep_119 ?_
      refine ok_aload_n dX12_keep_120 0 rfl ?_
      refine ok_getR (ci := 12) (k := 0) dX12_keep_121 flRX12_7 rfl hW hZ_b0 (by decide) ?_
      refine ok_sipush (v := 4341) dX12_keep_124 (by decide) ?_
      refine ok_iload_n dX12_keep_127 2 rfl ?_
      refine ok_iadd dX12_keep_128 ?_
      obtain ⟨hg5, h⟩ := gd h
      refine ok_iald2 (N := ((4341 : Int32) + y2).toNatClampNeg) dX12_keep_129 hT4 hg5 rfl ?_
      obtain ⟨hg6, h⟩ := gd h
      obtain ⟨I7, eI7, h⟩ := blE h
      refine ok_iast3 dX12_keep_130 hT4 hg6 rfl eI7 ?_
      refine ok_iinc (u := (y2 + 1)) (l' := [(2, .int (y2 + 1)), (0, .ref b0), (1, .int y1)]) dX12_keep_131 2 rfl rfl (Nat.le_of_ble_eq_true rfl) rfl ?_
      refine ok_goto (t := 104) dX12_keep_134 (by decide) ?_
      refine ok_sub [1, 2, 0] rfl ?_
      exact ih I7 b0 y1 (y2 + 1) hZ_b0 h
def f12_keep_c73 (n : Nat) (O : (Nat → Nat → Option Nat)) : Nat → (Nat → Nat → Int32) → Nat → Int32 → Int32 → Option ((Nat → Nat → Int32))
  | 0, _, _, _, _ => none
  | m + 1, I, b0, y1, y2 => (if (107 : Int32) ≤ y2 then f12_keep_c104 n O n I b0 y1 (0 : Int32) else (if ((7 : Int32) + y2) < 0 ∨ 4371 ≤ ((7 : Int32) + y2).toNatClampNeg then none else (if (y1 + y2) < 0 ∨ 4371 ≤ (y1 + y2).toNatClampNeg then none else bl (sI I (rO O b0 0) (y1 + y2).toNatClampNeg (I (rO O b0 0) ((7 : Int32) + y2).toNatClampNeg)) fun I5 => f12_keep_c73 n O m I5 b0 y1 (y2 + 1))))
set_option maxHeartbeats 4000000 in
set_option maxRecDepth 20000 in
theorem o12_keep_c73 {g : pG} {Qx : Option Value → pW → Prop} {Z : pZ} {L : (Nat → Nat → Int64)} {O : (Nat → Nat → Option Nat)} {n : Nat} {res : (Nat → Nat → Int32)} (d : Nat) (hW : WT Z O) (hQ : Qx none (Z, res, L, O)) : ∀ (m : Nat) (I : (Nat → Nat → Int32)) (b0 : Nat) (y1 : Int32) (y2 : Int32), (Z[b0]? = some (12, 34)) → f12_keep_c73 n O m I b0 y1 y2 = some res → Ok g (d + 2, RX12, cX12_keep, 3, false, 0, 0, Z.length, pSl Z) Qx 73 [(0, .ref b0), (1, .int y1), (2, .int y2)] [] (Z, I, L, O) := by
  intro m
  induction m with
  | zero => intro I b0 y1 y2 hZ_b0 h; rw [f12_keep_c73] at h; cases h
  | succ m ih =>
    intro I b0 y1 y2 hZ_b0 h
    rw [f12_keep_c73] at h
    refine ok_iload_n dX12_keep_73 2 rfl ?_
    refine ok_bipush (v := 107) dX12_keep_74 (by decide) ?_
    refine ok_icmp_ge (t := 102) dX12_keep_76 (by decide) (fun hc1 => ?_) (fun hc1 => ?_)
    · have h := (if_pos hc1).symm.trans h
      refine ok_iconst (v := 0) dX12_keep_102 (by decide) ?_
      refine ok_istore_n (l' := [(2, .int 0), (0, .ref b0), (1, .int y1)]) dX12_keep_103 rfl (Nat.le_of_ble_eq_true rfl) rfl ?_
      refine ok_sub [1, 2, 0] rfl ?_
      exact o12_keep_c104 d hW hQ  n I b0 y1 (0 : Int32) hZ_b0 h
    · have h := (if_neg hc1).symm.trans h
      refine ok_aload_n dX12_keep_79 0 rfl ?_
      have hT2 : Z[(rO O b0 0)]? = some (13, 4371) := (wt_f (ci := 12) (k := 0) hW hZ_b0 rfl).2
      refine ok_getR (ci := 12) (k := 0) dX12_keep_80 flRX12_7 rfl hW hZ_b0 (by decide) ?_
      refine ok_iload_n dX12_keep_83 1 rfl ?_
      refine ok_iload_n dX12_keep_84 2 rfl ?_
      refine ok_iadd dX12_keep_85 ?_
      refine ok_aload_n dX12_keep_86 0 rfl ?_
      refine ok_getR (ci := 12) (k := 0) dX12_keep_87 flRX12_7 rfl hW hZ_b0 (by decide) ?_
      refine ok_bipush (v := 7) dX12_keep_90 (by decide) ?_
      refine ok_iload_n dX12_keep_92 2 rfl ?_
      refine ok_iadd dX12_keep_93 ?_
      obtain ⟨hg3, h⟩ := gd h
      refine ok_iald2 (N := ((7 : Int32) + y2).toNatClampNeg) dX12_keep_94 hT2 hg3 rfl ?_
      obtain ⟨hg4, h⟩ := gd h
      obtain ⟨I5, eI5, h⟩ := blE h
      refine ok_iast3 dX12_keep_95 hT2 hg4 rfl eI5 ?_
      refine ok_iinc (u := (y2 + 1)) (l' := [(2, .int (y2 + 1)), (0, .ref b0), (1, .int y1)]) dX12_keep_96 2 rfl rfl (Nat.le_of_ble_eq_true rfl) rfl ?_
      refine ok_goto (t := 73) dX12_keep_99 (by decide) ?_
      refine ok_sub [1, 2, 0] rfl ?_
      exact ih I5 b0 y1 (y2 + 1) hZ_b0 h
def f12_keep_c56 (n : Nat) (O : (Nat → Nat → Option Nat)) (I : (Nat → Nat → Int32)) (b0 : Nat) : Option ((Nat → Nat → Int32)) := bl (((231 : Int32) + ((137 : Int32) * (I (rO O b0 0) 4))) : Int32) fun z2 => f12_keep_c73 n O n I b0 z2 (0 : Int32)
set_option maxHeartbeats 4000000 in
set_option maxRecDepth 20000 in
theorem o12_keep_c56 {g : pG} {Qx : Option Value → pW → Prop} {Z : pZ} {L : (Nat → Nat → Int64)} {O : (Nat → Nat → Option Nat)} {n : Nat} {res : (Nat → Nat → Int32)} (d : Nat) (hW : WT Z O) (hQ : Qx none (Z, res, L, O)) (I : (Nat → Nat → Int32)) (b0 : Nat) (hZ_b0 : Z[b0]? = some (12, 34)) (h : f12_keep_c56 n O I b0 = some res) : Ok g (d + 2, RX12, cX12_keep, 3, false, 0, 0, Z.length, pSl Z) Qx 56 [(0, .ref b0)] [] (Z, I, L, O) := by
  unfold f12_keep_c56 at h
  refine ok_sipush (v := 231) dX12_keep_56 (by decide) ?_
  refine ok_sipush (v := 137) dX12_keep_59 (by decide) ?_
  refine ok_aload_n dX12_keep_62 0 rfl ?_
  have hT1 : Z[(rO O b0 0)]? = some (13, 4371) := (wt_f (ci := 12) (k := 0) hW hZ_b0 rfl).2
  refine ok_getR (ci := 12) (k := 0) dX12_keep_63 flRX12_7 rfl hW hZ_b0 (by decide) ?_
  refine ok_iconst (v := 4) dX12_keep_66 (by decide) ?_
  refine ok_iald2 (N := 4) dX12_keep_67 hT1 (by unfold vp_in; decide) (by decide) ?_
  refine ok_imul dX12_keep_68 ?_
  refine ok_iadd dX12_keep_69 ?_
  obtain ⟨z2, ez2, h⟩ := blE h
  refine ok_nm ez2 ?_
  refine ok_istore_n (l' := [(1, .int z2), (0, .ref b0)]) dX12_keep_70 rfl (Nat.le_of_ble_eq_true rfl) rfl ?_
  refine ok_iconst (v := 0) dX12_keep_71 (by decide) ?_
  refine ok_istore_n (l' := [(2, .int 0), (1, .int z2), (0, .ref b0)]) dX12_keep_72 rfl (Nat.le_of_ble_eq_true rfl) rfl ?_
  refine ok_sub [2, 1, 0] rfl ?_
  exact o12_keep_c73 d hW hQ  n I b0 z2 (0 : Int32) hZ_b0 h
def f12_keep_c13 (n : Nat) (O : (Nat → Nat → Option Nat)) : Nat → (Nat → Nat → Int32) → Nat → Int32 → Option ((Nat → Nat → Int32))
  | 0, _, _, _ => none
  | m + 1, I, b0, y1 => (if (3973 : Int32) ≤ y1 then bl (sI I (rO O b0 0) 4 ((I (rO O b0 0) 4) - 1)) fun I3 => f12_keep_c56 n O I3 b0 else (if ((368 : Int32) + y1) < 0 ∨ 4371 ≤ ((368 : Int32) + y1).toNatClampNeg then none else (if ((231 : Int32) + y1) < 0 ∨ 4371 ≤ ((231 : Int32) + y1).toNatClampNeg then none else bl (sI I (rO O b0 0) ((231 : Int32) + y1).toNatClampNeg (I (rO O b0 0) ((368 : Int32) + y1).toNatClampNeg)) fun I7 => f12_keep_c13 n O m I7 b0 (y1 + 1))))
set_option maxHeartbeats 4000000 in
set_option maxRecDepth 20000 in
theorem o12_keep_c13 {g : pG} {Qx : Option Value → pW → Prop} {Z : pZ} {L : (Nat → Nat → Int64)} {O : (Nat → Nat → Option Nat)} {n : Nat} {res : (Nat → Nat → Int32)} (d : Nat) (hW : WT Z O) (hQ : Qx none (Z, res, L, O)) : ∀ (m : Nat) (I : (Nat → Nat → Int32)) (b0 : Nat) (y1 : Int32), (Z[b0]? = some (12, 34)) → f12_keep_c13 n O m I b0 y1 = some res → Ok g (d + 2, RX12, cX12_keep, 3, false, 0, 0, Z.length, pSl Z) Qx 13 [(0, .ref b0), (1, .int y1)] [] (Z, I, L, O) := by
  intro m
  induction m with
  | zero => intro I b0 y1 hZ_b0 h; rw [f12_keep_c13] at h; cases h
  | succ m ih =>
    intro I b0 y1 hZ_b0 h
    rw [f12_keep_c13] at h
    refine ok_iload_n dX12_keep_13 1 rfl ?_
    refine ok_sipush (v := 3973) dX12_keep_14 (by decide) ?_
    refine ok_icmp_ge (t := 46) dX12_keep_17 (by decide) (fun hc1 => ?_) (fun hc1 => ?_)
    · have h := (if_pos hc1).symm.trans h
      refine ok_aload_n dX12_keep_46 0 rfl ?_
      have hT2 : Z[(rO O b0 0)]? = some (13, 4371) := (wt_f (ci := 12) (k := 0) hW hZ_b0 rfl).2
      refine ok_getR (ci := 12) (k := 0) dX12_keep_47 flRX12_7 rfl hW hZ_b0 (by decide) ?_
      refine ok_iconst (v := 4) dX12_keep_50 (by decide) ?_
      refine ok_dup2 dX12_keep_51 rfl rfl ?_
      refine ok_iald2 (N := 4) dX12_keep_52 hT2 (by unfold vp_in; decide) (by decide) ?_
      refine ok_iconst (v := 1) dX12_keep_53 (by decide) ?_
      refine ok_isub dX12_keep_54 ?_
      obtain ⟨I3, eI3, h⟩ := blE h
      refine ok_iast3 dX12_keep_55 hT2 (by unfold vp_in; decide) (by decide) eI3 ?_
      refine ok_sub [0] rfl ?_
      exact o12_keep_c56 d hW hQ  I3 b0 hZ_b0 h
    · have h := (if_neg hc1).symm.trans h
      refine ok_aload_n dX12_keep_20 0 rfl ?_
      have hT4 : Z[(rO O b0 0)]? = some (13, 4371) := (wt_f (ci := 12) (k := 0) hW hZ_b0 rfl).2
      refine ok_getR (ci := 12) (k := 0) dX12_keep_21 flRX12_7 rfl hW hZ_b0 (by decide) ?_
      refine ok_sipush (v := 231) dX12_keep_24 (by decide) ?_
      refine ok_iload_n dX12_keep_27 1 rfl ?_
      refine ok_iadd dX12_keep_28 ?_
      refine ok_aload_n dX12_keep_29 0 rfl ?_
      refine ok_getR (ci := 12) (k := 0) dX12_keep_30 flRX12_7 rfl hW hZ_b0 (by decide) ?_
      refine ok_sipush (v := 368) dX12_keep_33 (by decide) ?_
      refine ok_iload_n dX12_keep_36 1 rfl ?_
      refine ok_iadd dX12_keep_37 ?_
      obtain ⟨hg5, h⟩ := gd h
      refine ok_iald2 (N := ((368 : Int32) + y1).toNatClampNeg) dX12_keep_38 hT4 hg5 rfl ?_
      obtain ⟨hg6, h⟩ := gd h
      obtain ⟨I7, eI7, h⟩ := blE h
      refine ok_iast3 dX12_keep_39 hT4 hg6 rfl eI7 ?_
      refine ok_iinc (u := (y1 + 1)) (l' := [(1, .int (y1 + 1)), (0, .ref b0)]) dX12_keep_40 1 rfl rfl (Nat.le_of_ble_eq_true rfl) rfl ?_
      refine ok_goto (t := 13) dX12_keep_43 (by decide) ?_
      refine ok_sub [1, 0] rfl ?_
      exact ih I7 b0 (y1 + 1) hZ_b0 h
def f12_keep (n : Nat) (I : (Nat → Nat → Int32)) (O : (Nat → Nat → Option Nat)) (a0 : Nat) : Option ((Nat → Nat → Int32)) := (if (I (rO O a0 0) 4) = (30 : Int32) then f12_keep_c13 n O n I a0 (0 : Int32) else f12_keep_c56 n O I a0)
set_option maxHeartbeats 4000000 in
set_option maxRecDepth 20000 in
theorem o12_keep {g : pG} {Qx : Option Value → pW → Prop} {Z : pZ} {I : (Nat → Nat → Int32)} {L : (Nat → Nat → Int64)} {O : (Nat → Nat → Option Nat)} {n : Nat} {a0 : Nat} {res : (Nat → Nat → Int32)} (d : Nat) (hW : WT Z O) (hZ0 : Z[a0]? = some (12, 34)) (h : f12_keep n I O a0 = some res) (hQ : Qx none (Z, res, L, O)) : Ok g (d + 2, RX12, cX12_keep, 3, false, 0, 0, Z.length, pSl Z) Qx 0 [(0, .ref a0)] [] (Z, I, L, O) := by
  unfold f12_keep at h
  refine ok_aload_n dX12_keep_0 0 rfl ?_
  have hT1 : Z[(rO O a0 0)]? = some (13, 4371) := (wt_f (ci := 12) (k := 0) hW hZ0 rfl).2
  refine ok_getR (ci := 12) (k := 0) dX12_keep_1 flRX12_7 rfl hW hZ0 (by decide) ?_
  refine ok_iconst (v := 4) dX12_keep_4 (by decide) ?_
  refine ok_iald2 (N := 4) dX12_keep_5 hT1 (by unfold vp_in; decide) (by decide) ?_
  refine ok_bipush (v := 30) dX12_keep_6 (by decide) ?_
  refine ok_icmp_ne (t := 56) dX12_keep_8 (by decide) (fun hc2 => ?_) (fun hc2 => ?_)
  · have h := (if_neg hc2).symm.trans h
    refine ok_sub [0] rfl ?_
    exact o12_keep_c56 d hW hQ  I a0 hZ0 h
  · have h := (if_pos hc2).symm.trans h
    refine ok_iconst (v := 0) dX12_keep_11 (by decide) ?_
    refine ok_istore_n (l' := [(1, .int 0), (0, .ref a0)]) dX12_keep_12 rfl (Nat.le_of_ble_eq_true rfl) rfl ?_
    refine ok_sub [1, 0] rfl ?_
    exact o12_keep_c13 d hW hQ  n I a0 (0 : Int32) hZ0 h
theorem k12_keep {g : pG} {Q : Option Value → pW → Prop} {Z : pZ} {I : (Nat → Nat → Int32)} {L : (Nat → Nat → Int64)} {O : (Nat → Nat → Option Nat)} {n : Nat} {a0 : Nat} {res : (Nat → Nat → Int32)} (d : Nat) (hW : WT Z O) (hZ0 : Z[a0]? = some (12, 34)) (h : f12_keep n I O a0 = some res) (hQ : Q none (Z, res, L, O)) : CT g (d + 2) m12_keep 0 0 [.ref a0] (Z, I, L, O) Q :=
  ct_of_ok (mt := m12_keep) (ini := false) mo12_keep.2.2.2.2 (fun h => by cases h) (Nat.le_of_ble_eq_true rfl) (o12_keep d hW hZ0 h ⟨trivial, hQ, rfl, rfl⟩)
theorem dX12_undo_0 : decode cX12_undo 0 = .ok (.aload_n 0, 1) := by decide +kernel
theorem dX12_undo_1 : decode cX12_undo 1 = .ok (.getfield 7, 3) := by decide +kernel
theorem dX12_undo_4 : decode cX12_undo 4 = .ok (.iconst 4, 1) := by decide +kernel
theorem dX12_undo_5 : decode cX12_undo 5 = .ok (.iaload, 1) := by decide +kernel
theorem dX12_undo_6 : decode cX12_undo 6 = .ok (.ifCond .ne 5, 3) := by decide +kernel
theorem dX12_undo_9 : decode cX12_undo 9 = .ok (.iconst (-1), 1) := by decide +kernel
theorem dX12_undo_10 : decode cX12_undo 10 = .ok (.ireturn, 1) := by decide +kernel
theorem dX12_undo_11 : decode cX12_undo 11 = .ok (.aload_n 0, 1) := by decide +kernel
theorem dX12_undo_12 : decode cX12_undo 12 = .ok (.getfield 7, 3) := by decide +kernel
theorem dX12_undo_15 : decode cX12_undo 15 = .ok (.iconst 4, 1) := by decide +kernel
theorem dX12_undo_16 : decode cX12_undo 16 = .ok (.dup2, 1) := by decide +kernel
theorem dX12_undo_17 : decode cX12_undo 17 = .ok (.iaload, 1) := by decide +kernel
theorem dX12_undo_18 : decode cX12_undo 18 = .ok (.iconst 1, 1) := by decide +kernel
theorem dX12_undo_19 : decode cX12_undo 19 = .ok (.isub, 1) := by decide +kernel
theorem dX12_undo_20 : decode cX12_undo 20 = .ok (.iastore, 1) := by decide +kernel
theorem dX12_undo_21 : decode cX12_undo 21 = .ok (.sipush 231, 3) := by decide +kernel
theorem dX12_undo_24 : decode cX12_undo 24 = .ok (.sipush 137, 3) := by decide +kernel
theorem dX12_undo_27 : decode cX12_undo 27 = .ok (.aload_n 0, 1) := by decide +kernel
theorem dX12_undo_28 : decode cX12_undo 28 = .ok (.getfield 7, 3) := by decide +kernel
theorem dX12_undo_31 : decode cX12_undo 31 = .ok (.iconst 4, 1) := by decide +kernel
theorem dX12_undo_32 : decode cX12_undo 32 = .ok (.iaload, 1) := by decide +kernel
theorem dX12_undo_33 : decode cX12_undo 33 = .ok (.imul, 1) := by decide +kernel
theorem dX12_undo_34 : decode cX12_undo 34 = .ok (.iadd, 1) := by decide +kernel
theorem dX12_undo_35 : decode cX12_undo 35 = .ok (.istore_n 1, 1) := by decide +kernel
theorem dX12_undo_36 : decode cX12_undo 36 = .ok (.iconst 0, 1) := by decide +kernel
theorem dX12_undo_37 : decode cX12_undo 37 = .ok (.istore_n 2, 1) := by decide +kernel
theorem dX12_undo_38 : decode cX12_undo 38 = .ok (.iload_n 2, 1) := by decide +kernel
theorem dX12_undo_39 : decode cX12_undo 39 = .ok (.bipush 107, 2) := by decide +kernel
theorem dX12_undo_41 : decode cX12_undo 41 = .ok (.if_icmp .ge 26, 3) := by decide +kernel
theorem dX12_undo_44 : decode cX12_undo 44 = .ok (.aload_n 0, 1) := by decide +kernel
theorem dX12_undo_45 : decode cX12_undo 45 = .ok (.getfield 7, 3) := by decide +kernel
theorem dX12_undo_48 : decode cX12_undo 48 = .ok (.bipush 7, 2) := by decide +kernel
theorem dX12_undo_50 : decode cX12_undo 50 = .ok (.iload_n 2, 1) := by decide +kernel
theorem dX12_undo_51 : decode cX12_undo 51 = .ok (.iadd, 1) := by decide +kernel
theorem dX12_undo_52 : decode cX12_undo 52 = .ok (.aload_n 0, 1) := by decide +kernel
theorem dX12_undo_53 : decode cX12_undo 53 = .ok (.getfield 7, 3) := by decide +kernel
theorem dX12_undo_56 : decode cX12_undo 56 = .ok (.iload_n 1, 1) := by decide +kernel
theorem dX12_undo_57 : decode cX12_undo 57 = .ok (.iload_n 2, 1) := by decide +kernel
theorem dX12_undo_58 : decode cX12_undo 58 = .ok (.iadd, 1) := by decide +kernel
theorem dX12_undo_59 : decode cX12_undo 59 = .ok (.iaload, 1) := by decide +kernel
theorem dX12_undo_60 : decode cX12_undo 60 = .ok (.iastore, 1) := by decide +kernel
theorem dX12_undo_61 : decode cX12_undo 61 = .ok (.iinc 2 1, 3) := by decide +kernel
theorem dX12_undo_64 : decode cX12_undo 64 = .ok (.goto (-26), 3) := by decide +kernel
theorem dX12_undo_67 : decode cX12_undo 67 = .ok (.iconst 0, 1) := by decide +kernel
theorem dX12_undo_68 : decode cX12_undo 68 = .ok (.istore_n 2, 1) := by decide +kernel
theorem dX12_undo_69 : decode cX12_undo 69 = .ok (.iload_n 2, 1) := by decide +kernel
theorem dX12_undo_70 : decode cX12_undo 70 = .ok (.bipush 30, 2) := by decide +kernel
theorem dX12_undo_72 : decode cX12_undo 72 = .ok (.if_icmp .ge 30, 3) := by decide +kernel
theorem dX12_undo_75 : decode cX12_undo 75 = .ok (.aload_n 0, 1) := by decide +kernel
theorem dX12_undo_76 : decode cX12_undo 76 = .ok (.getfield 7, 3) := by decide +kernel
theorem dX12_undo_79 : decode cX12_undo 79 = .ok (.sipush 4341, 3) := by decide +kernel
theorem dX12_undo_82 : decode cX12_undo 82 = .ok (.iload_n 2, 1) := by decide +kernel
theorem dX12_undo_83 : decode cX12_undo 83 = .ok (.iadd, 1) := by decide +kernel
theorem dX12_undo_84 : decode cX12_undo 84 = .ok (.aload_n 0, 1) := by decide +kernel
theorem dX12_undo_85 : decode cX12_undo 85 = .ok (.getfield 7, 3) := by decide +kernel
theorem dX12_undo_88 : decode cX12_undo 88 = .ok (.iload_n 1, 1) := by decide +kernel
theorem dX12_undo_89 : decode cX12_undo 89 = .ok (.bipush 107, 2) := by decide +kernel
theorem dX12_undo_91 : decode cX12_undo 91 = .ok (.iadd, 1) := by decide +kernel
theorem dX12_undo_92 : decode cX12_undo 92 = .ok (.iload_n 2, 1) := by decide +kernel
theorem dX12_undo_93 : decode cX12_undo 93 = .ok (.iadd, 1) := by decide +kernel
theorem dX12_undo_94 : decode cX12_undo 94 = .ok (.iaload, 1) := by decide +kernel
theorem dX12_undo_95 : decode cX12_undo 95 = .ok (.iastore, 1) := by decide +kernel
theorem dX12_undo_96 : decode cX12_undo 96 = .ok (.iinc 2 1, 3) := by decide +kernel
theorem dX12_undo_99 : decode cX12_undo 99 = .ok (.goto (-30), 3) := by decide +kernel
theorem dX12_undo_102 : decode cX12_undo 102 = .ok (.aload_n 0, 1) := by decide +kernel
theorem dX12_undo_103 : decode cX12_undo 103 = .ok (.getfield 7, 3) := by decide +kernel
theorem dX12_undo_106 : decode cX12_undo 106 = .ok (.iconst 4, 1) := by decide +kernel
theorem dX12_undo_107 : decode cX12_undo 107 = .ok (.iaload, 1) := by decide +kernel
theorem dX12_undo_108 : decode cX12_undo 108 = .ok (.ireturn, 1) := by decide +kernel
def m12_undo : pMT := (yX12_undo, cX12_undo, 3, some .int)
theorem mo12_undo : mOK m12_undo 0 := ⟨tb_i 1599 (by decide +kernel), wi_RX12, ⟨wn_RX12.1, wn_RX12.2, by decide +kernel⟩, by decide, plainFor_of_name wp_RX12⟩
theorem mv12_undo : mV m12_undo := ⟨tb_i 1597 (by decide +kernel), tb_i 1598 (by decide +kernel)⟩
def f12_undo_c69 (n : Nat) (O : (Nat → Nat → Option Nat)) : Nat → (Nat → Nat → Int32) → Nat → Int32 → Int32 → Option (Int32 × (Nat → Nat → Int32))
  | 0, _, _, _, _ => none
  | m + 1, I, b0, y1, y2 => (if (30 : Int32) ≤ y2 then some ((I (rO O b0 0) 4), I) else (if ((y1 + 107) + y2) < 0 ∨ 4371 ≤ ((y1 + 107) + y2).toNatClampNeg then none else (if ((4341 : Int32) + y2) < 0 ∨ 4371 ≤ ((4341 : Int32) + y2).toNatClampNeg then none else bl (sI I (rO O b0 0) ((4341 : Int32) + y2).toNatClampNeg (I (rO O b0 0) ((y1 + 107) + y2).toNatClampNeg)) fun I6 => f12_undo_c69 n O m I6 b0 y1 (y2 + 1))))
set_option maxHeartbeats 4000000 in
set_option maxRecDepth 20000 in
theorem o12_undo_c69 {g : pG} {Qx : Option Value → pW → Prop} {Z : pZ} {L : (Nat → Nat → Int64)} {O : (Nat → Nat → Option Nat)} {n : Nat} {res : Int32 × (Nat → Nat → Int32)} (d : Nat) (hW : WT Z O) (hQ : Qx (some (.int res.1)) (Z, res.2, L, O)) : ∀ (m : Nat) (I : (Nat → Nat → Int32)) (b0 : Nat) (y1 : Int32) (y2 : Int32), (Z[b0]? = some (12, 34)) → f12_undo_c69 n O m I b0 y1 y2 = some res → Ok g (d + 2, RX12, cX12_undo, 3, false, 0, 0, Z.length, pSl Z) Qx 69 [(0, .ref b0), (1, .int y1), (2, .int y2)] [] (Z, I, L, O) := by
  intro m
  induction m with
  | zero => intro I b0 y1 y2 hZ_b0 h; rw [f12_undo_c69] at h; cases h
  | succ m ih =>
    intro I b0 y1 y2 hZ_b0 h
    rw [f12_undo_c69] at h
    refine ok_iload_n dX12_undo_69 2 rfl ?_
    refine ok_bipush (v := 30) dX12_undo_70 (by decide) ?_
    refine ok_icmp_ge (t := 102) dX12_undo_72 (by decide) (fun hc1 => ?_) (fun hc1 => ?_)
    · have h := (if_pos hc1).symm.trans h
      refine ok_aload_n dX12_undo_102 0 rfl ?_
      have hT2 : Z[(rO O b0 0)]? = some (13, 4371) := (wt_f (ci := 12) (k := 0) hW hZ_b0 rfl).2
      refine ok_getR (ci := 12) (k := 0) dX12_undo_103 flRX12_7 rfl hW hZ_b0 (by decide) ?_
      refine ok_iconst (v := 4) dX12_undo_106 (by decide) ?_
      refine ok_iald2 (N := 4) dX12_undo_107 hT2 (by unfold vp_in; decide) (by decide) ?_
      cases h
      exact ok_iret dX12_undo_108 hQ
    · have h := (if_neg hc1).symm.trans h
      refine ok_aload_n dX12_undo_75 0 rfl ?_
      have hT3 : Z[(rO O b0 0)]? = some (13, 4371) := (wt_f (ci := 12) (k := 0) hW hZ_b0 rfl).2
      refine ok_getR (ci := 12) (k := 0) dX12_undo_76 flRX12_7 rfl hW hZ_b0 (by decide) ?_
      refine ok_sipush (v := 4341) dX12_undo_79 (by decide) ?_
      refine ok_iload_n dX12_undo_82 2 rfl ?_
      refine ok_iadd dX12_undo_83 ?_
      refine ok_aload_n dX12_undo_84 0 rfl ?_
      refine ok_getR (ci := 12) (k := 0) dX12_undo_85 flRX12_7 rfl hW hZ_b0 (by decide) ?_
      refine ok_iload_n dX12_undo_88 1 rfl ?_
      refine ok_bipush (v := 107) dX12_undo_89 (by decide) ?_
      refine ok_iadd dX12_undo_91 ?_
      refine ok_iload_n dX12_undo_92 2 rfl ?_
      refine ok_iadd dX12_undo_93 ?_
      obtain ⟨hg4, h⟩ := gd h
      refine ok_iald2 (N := ((y1 + 107) + y2).toNatClampNeg) dX12_undo_94 hT3 hg4 rfl ?_
      obtain ⟨hg5, h⟩ := gd h
      obtain ⟨I6, eI6, h⟩ := blE h
      refine ok_iast3 dX12_undo_95 hT3 hg5 rfl eI6 ?_
      refine ok_iinc (u := (y2 + 1)) (l' := [(2, .int (y2 + 1)), (0, .ref b0), (1, .int y1)]) dX12_undo_96 2 rfl rfl (Nat.le_of_ble_eq_true rfl) rfl ?_
      refine ok_goto (t := 69) dX12_undo_99 (by decide) ?_
      refine ok_sub [1, 2, 0] rfl ?_
      exact ih I6 b0 y1 (y2 + 1) hZ_b0 h
def f12_undo_c38 (n : Nat) (O : (Nat → Nat → Option Nat)) : Nat → (Nat → Nat → Int32) → Nat → Int32 → Int32 → Option (Int32 × (Nat → Nat → Int32))
  | 0, _, _, _, _ => none
  | m + 1, I, b0, y1, y2 => (if (107 : Int32) ≤ y2 then f12_undo_c69 n O n I b0 y1 (0 : Int32) else (if (y1 + y2) < 0 ∨ 4371 ≤ (y1 + y2).toNatClampNeg then none else (if ((7 : Int32) + y2) < 0 ∨ 4371 ≤ ((7 : Int32) + y2).toNatClampNeg then none else bl (sI I (rO O b0 0) ((7 : Int32) + y2).toNatClampNeg (I (rO O b0 0) (y1 + y2).toNatClampNeg)) fun I5 => f12_undo_c38 n O m I5 b0 y1 (y2 + 1))))
set_option maxHeartbeats 4000000 in
set_option maxRecDepth 20000 in
theorem o12_undo_c38 {g : pG} {Qx : Option Value → pW → Prop} {Z : pZ} {L : (Nat → Nat → Int64)} {O : (Nat → Nat → Option Nat)} {n : Nat} {res : Int32 × (Nat → Nat → Int32)} (d : Nat) (hW : WT Z O) (hQ : Qx (some (.int res.1)) (Z, res.2, L, O)) : ∀ (m : Nat) (I : (Nat → Nat → Int32)) (b0 : Nat) (y1 : Int32) (y2 : Int32), (Z[b0]? = some (12, 34)) → f12_undo_c38 n O m I b0 y1 y2 = some res → Ok g (d + 2, RX12, cX12_undo, 3, false, 0, 0, Z.length, pSl Z) Qx 38 [(0, .ref b0), (1, .int y1), (2, .int y2)] [] (Z, I, L, O) := by
  intro m
  induction m with
  | zero => intro I b0 y1 y2 hZ_b0 h; rw [f12_undo_c38] at h; cases h
  | succ m ih =>
    intro I b0 y1 y2 hZ_b0 h
    rw [f12_undo_c38] at h
    refine ok_iload_n dX12_undo_38 2 rfl ?_
    refine ok_bipush (v := 107) dX12_undo_39 (by decide) ?_
    refine ok_icmp_ge (t := 67) dX12_undo_41 (by decide) (fun hc1 => ?_) (fun hc1 => ?_)
    · have h := (if_pos hc1).symm.trans h
      refine ok_iconst (v := 0) dX12_undo_67 (by decide) ?_
      refine ok_istore_n (l' := [(2, .int 0), (0, .ref b0), (1, .int y1)]) dX12_undo_68 rfl (Nat.le_of_ble_eq_true rfl) rfl ?_
      refine ok_sub [1, 2, 0] rfl ?_
      exact o12_undo_c69 d hW hQ  n I b0 y1 (0 : Int32) hZ_b0 h
    · have h := (if_neg hc1).symm.trans h
      refine ok_aload_n dX12_undo_44 0 rfl ?_
      have hT2 : Z[(rO O b0 0)]? = some (13, 4371) := (wt_f (ci := 12) (k := 0) hW hZ_b0 rfl).2
      refine ok_getR (ci := 12) (k := 0) dX12_undo_45 flRX12_7 rfl hW hZ_b0 (by decide) ?_
      refine ok_bipush (v := 7) dX12_undo_48 (by decide) ?_
      refine ok_iload_n dX12_undo_50 2 rfl ?_
      refine ok_iadd dX12_undo_51 ?_
      refine ok_aload_n dX12_undo_52 0 rfl ?_
      refine ok_getR (ci := 12) (k := 0) dX12_undo_53 flRX12_7 rfl hW hZ_b0 (by decide) ?_
      refine ok_iload_n dX12_undo_56 1 rfl ?_
      refine ok_iload_n dX12_undo_57 2 rfl ?_
      refine ok_iadd dX12_undo_58 ?_
      obtain ⟨hg3, h⟩ := gd h
      refine ok_iald2 (N := (y1 + y2).toNatClampNeg) dX12_undo_59 hT2 hg3 rfl ?_
      obtain ⟨hg4, h⟩ := gd h
      obtain ⟨I5, eI5, h⟩ := blE h
      refine ok_iast3 dX12_undo_60 hT2 hg4 rfl eI5 ?_
      refine ok_iinc (u := (y2 + 1)) (l' := [(2, .int (y2 + 1)), (0, .ref b0), (1, .int y1)]) dX12_undo_61 2 rfl rfl (Nat.le_of_ble_eq_true rfl) rfl ?_
      refine ok_goto (t := 38) dX12_undo_64 (by decide) ?_
      refine ok_sub [1, 2, 0] rfl ?_
      exact ih I5 b0 y1 (y2 + 1) hZ_b0 h
def f12_undo (n : Nat) (I : (Nat → Nat → Int32)) (O : (Nat → Nat → Option Nat)) (a0 : Nat) : Option (Int32 × (Nat → Nat → Int32)) := (if (I (rO O a0 0) 4) = 0 then some (((-1) : Int32), I) else bl (sI I (rO O a0 0) 4 ((I (rO O a0 0) 4) - 1)) fun I3 => bl (((231 : Int32) + ((137 : Int32) * (I3 (rO O a0 0) 4))) : Int32) fun z4 => f12_undo_c38 n O n I3 a0 z4 (0 : Int32))
set_option maxHeartbeats 4000000 in
set_option maxRecDepth 20000 in
theorem o12_undo {g : pG} {Qx : Option Value → pW → Prop} {Z : pZ} {I : (Nat → Nat → Int32)} {L : (Nat → Nat → Int64)} {O : (Nat → Nat → Option Nat)} {n : Nat} {a0 : Nat} {res : Int32 × (Nat → Nat → Int32)} (d : Nat) (hW : WT Z O) (hZ0 : Z[a0]? = some (12, 34)) (h : f12_undo n I O a0 = some res) (hQ : Qx (some (.int res.1)) (Z, res.2, L, O)) : Ok g (d + 2, RX12, cX12_undo, 3, false, 0, 0, Z.length, pSl Z) Qx 0 [(0, .ref a0)] [] (Z, I, L, O) := by
  unfold f12_undo at h
  refine ok_aload_n dX12_undo_0 0 rfl ?_
  have hT1 : Z[(rO O a0 0)]? = some (13, 4371) := (wt_f (ci := 12) (k := 0) hW hZ0 rfl).2
  refine ok_getR (ci := 12) (k := 0) dX12_undo_1 flRX12_7 rfl hW hZ0 (by decide) ?_
  refine ok_iconst (v := 4) dX12_undo_4 (by decide) ?_
  refine ok_iald2 (N := 4) dX12_undo_5 hT1 (by unfold vp_in; decide) (by decide) ?_
  refine ok_if_ne (t := 11) dX12_undo_6 (by decide) (fun hc2 => ?_) (fun hc2 => ?_)
  · have h := (if_neg hc2).symm.trans h
    refine ok_aload_n dX12_undo_11 0 rfl ?_
    refine ok_getR (ci := 12) (k := 0) dX12_undo_12 flRX12_7 rfl hW hZ0 (by decide) ?_
    refine ok_iconst (v := 4) dX12_undo_15 (by decide) ?_
    refine ok_dup2 dX12_undo_16 rfl rfl ?_
    refine ok_iald2 (N := 4) dX12_undo_17 hT1 (by unfold vp_in; decide) (by decide) ?_
    refine ok_iconst (v := 1) dX12_undo_18 (by decide) ?_
    refine ok_isub dX12_undo_19 ?_
    obtain ⟨I3, eI3, h⟩ := blE h
    refine ok_iast3 dX12_undo_20 hT1 (by unfold vp_in; decide) (by decide) eI3 ?_
    refine ok_sipush (v := 231) dX12_undo_21 (by decide) ?_
    refine ok_sipush (v := 137) dX12_undo_24 (by decide) ?_
    refine ok_aload_n dX12_undo_27 0 rfl ?_
    refine ok_getR (ci := 12) (k := 0) dX12_undo_28 flRX12_7 rfl hW hZ0 (by decide) ?_
    refine ok_iconst (v := 4) dX12_undo_31 (by decide) ?_
    refine ok_iald2 (N := 4) dX12_undo_32 hT1 (by unfold vp_in; decide) (by decide) ?_
    refine ok_imul dX12_undo_33 ?_
    refine ok_iadd dX12_undo_34 ?_
    obtain ⟨z4, ez4, h⟩ := blE h
    refine ok_nm ez4 ?_
    refine ok_istore_n (l' := [(1, .int z4), (0, .ref a0)]) dX12_undo_35 rfl (Nat.le_of_ble_eq_true rfl) rfl ?_
    refine ok_iconst (v := 0) dX12_undo_36 (by decide) ?_
    refine ok_istore_n (l' := [(2, .int 0), (1, .int z4), (0, .ref a0)]) dX12_undo_37 rfl (Nat.le_of_ble_eq_true rfl) rfl ?_
    refine ok_sub [2, 1, 0] rfl ?_
    exact o12_undo_c38 d hW hQ  n I3 a0 z4 (0 : Int32) hZ0 h
  · have h := (if_pos hc2).symm.trans h
    refine ok_iconst (v := (-1)) dX12_undo_9 (by decide) ?_
    cases h
    exact ok_iret dX12_undo_10 hQ
theorem k12_undo {g : pG} {Q : Option Value → pW → Prop} {Z : pZ} {I : (Nat → Nat → Int32)} {L : (Nat → Nat → Int64)} {O : (Nat → Nat → Option Nat)} {n : Nat} {a0 : Nat} {res : Int32 × (Nat → Nat → Int32)} (d : Nat) (hW : WT Z O) (hZ0 : Z[a0]? = some (12, 34)) (h : f12_undo n I O a0 = some res) (hQ : Q (some (.int res.1)) (Z, res.2, L, O)) : CT g (d + 2) m12_undo 0 0 [.ref a0] (Z, I, L, O) Q :=
  ct_of_ok (mt := m12_undo) (ini := false) mo12_undo.2.2.2.2 (fun h => by cases h) (Nat.le_of_ble_eq_true rfl) (o12_undo d hW hZ0 h ⟨trivial, hQ, rfl, rfl⟩)
theorem dX12_play_0 : decode cX12_play 0 = .ok (.aload_n 0, 1) := by decide +kernel
theorem dX12_play_1 : decode cX12_play 1 = .ok (.iload_n 1, 1) := by decide +kernel
theorem dX12_play_2 : decode cX12_play 2 = .ok (.invokevirtual 79, 3) := by decide +kernel
theorem dX12_play_5 : decode cX12_play 5 = .ok (.ifCond .eq 11, 3) := by decide +kernel
theorem dX12_play_8 : decode cX12_play 8 = .ok (.aload_n 0, 1) := by decide +kernel
theorem dX12_play_9 : decode cX12_play 9 = .ok (.iload_n 2, 1) := by decide +kernel
theorem dX12_play_10 : decode cX12_play 10 = .ok (.invokevirtual 353, 3) := by decide +kernel
theorem dX12_play_13 : decode cX12_play 13 = .ok (.ifCond .ne 5, 3) := by decide +kernel
theorem dX12_play_16 : decode cX12_play 16 = .ok (.iconst (-1), 1) := by decide +kernel
theorem dX12_play_17 : decode cX12_play 17 = .ok (.ireturn, 1) := by decide +kernel
theorem dX12_play_18 : decode cX12_play 18 = .ok (.aload_n 0, 1) := by decide +kernel
theorem dX12_play_19 : decode cX12_play 19 = .ok (.invokevirtual 356, 3) := by decide +kernel
theorem dX12_play_22 : decode cX12_play 22 = .ok (.aload_n 0, 1) := by decide +kernel
theorem dX12_play_23 : decode cX12_play 23 = .ok (.iconst 0, 1) := by decide +kernel
theorem dX12_play_24 : decode cX12_play 24 = .ok (.putfield 343, 3) := by decide +kernel
theorem dX12_play_27 : decode cX12_play 27 = .ok (.aload_n 0, 1) := by decide +kernel
theorem dX12_play_28 : decode cX12_play 28 = .ok (.iload_n 1, 1) := by decide +kernel
theorem dX12_play_29 : decode cX12_play 29 = .ok (.iload_n 2, 1) := by decide +kernel
theorem dX12_play_30 : decode cX12_play 30 = .ok (.invokevirtual 350, 3) := by decide +kernel
theorem dX12_play_33 : decode cX12_play 33 = .ok (.aload_n 0, 1) := by decide +kernel
theorem dX12_play_34 : decode cX12_play 34 = .ok (.getfield 343, 3) := by decide +kernel
theorem dX12_play_37 : decode cX12_play 37 = .ok (.ireturn, 1) := by decide +kernel
def m12_play : pMT := (yX12_play, cX12_play, 3, some .int)
theorem mo12_play : mOK m12_play 2 := ⟨tb_i 1603 (by decide +kernel), wi_RX12, ⟨wn_RX12.1, wn_RX12.2, by decide +kernel⟩, by decide, plainFor_of_name wp_RX12⟩
theorem mv12_play : mV m12_play := ⟨tb_i 1601 (by decide +kernel), tb_i 1602 (by decide +kernel)⟩
def f12_play (n : Nat) (I : (Nat → Nat → Int32)) (L : (Nat → Nat → Int64)) (O : (Nat → Nat → Option Nat)) (a0 : Nat) (x1 : Int32) (x2 : Int32) : Option (Int32 × (Nat → Nat → Int32) × (Nat → Nat → Int64)) := (f12_isRoll I O a0 x1).bind fun r1 => (if r1 = 0 then some (((-1) : Int32), I, L) else (f12_isChild I O a0 x2).bind fun r4 => (if r4 = 0 then some (((-1) : Int32), I, L) else (f12_keep n I O a0).bind fun r7 => bl (sI r7 a0 24 (0 : Int32)) fun I9 => (f12_playNow n I9 L O a0 x1 x2).bind fun r10 => some ((r10.1 a0 24), r10.1, r10.2)))
set_option maxHeartbeats 4000000 in
set_option maxRecDepth 20000 in
theorem o12_play {g : pG} {Qx : Option Value → pW → Prop} {Z : pZ} {I : (Nat → Nat → Int32)} {L : (Nat → Nat → Int64)} {O : (Nat → Nat → Option Nat)} {n : Nat} {a0 : Nat} {x1 : Int32} {x2 : Int32} {res : Int32 × (Nat → Nat → Int32) × (Nat → Nat → Int64)} (d : Nat) (hW : WT Z O) (hZ0 : Z[a0]? = some (12, 34)) (h : f12_play n I L O a0 x1 x2 = some res) (hQ : Qx (some (.int res.1)) (Z, res.2.1, res.2.2, O)) : Ok g (d + 10, RX12, cX12_play, 3, false, 0, 0, Z.length, pSl Z) Qx 0 [(0, .ref a0), (1, .int x1), (2, .int x2)] [] (Z, I, L, O) := by
  unfold f12_play at h
  refine ok_aload_n dX12_play_0 0 rfl ?_
  refine ok_iload_n dX12_play_1 1 rfl ?_
  obtain ⟨r1, hr2, h⟩ := bd h
  refine ok_callV (d := ((d + 6) + 3)) (mt := m12_isRoll) (mc := 0) (ms := 0) (As := [.int x1]) (r := []) dX12_play_2 mo12_isRoll mv12_isRoll lkRX12_79 rfl hZ0 (q := (RX12, TX12, 34)) rfl rfl rfl (Nat.le_of_ble_eq_true rfl) (by show _ + 1 ≤ d + _; omega) (Nat.le_refl _) (Nat.le_refl _) (pRt_mono ?_)
  refine k12_isRoll (d + 6) hW hZ0 hr2 ?_
  intro hbr1
  show Ok g _ Qx 5 [(0, .ref a0), (1, .int x1), (2, .int x2)] [.int r1] (Z, I, L, O)
  refine ok_if_eq (t := 16) dX12_play_5 (by decide) (fun hc3 => ?_) (fun hc3 => ?_)
  · have h := (if_pos hc3).symm.trans h
    refine ok_iconst (v := (-1)) dX12_play_16 (by decide) ?_
    cases h
    exact ok_iret dX12_play_17 hQ
  · have h := (if_neg hc3).symm.trans h
    refine ok_aload_n dX12_play_8 0 rfl ?_
    refine ok_iload_n dX12_play_9 2 rfl ?_
    obtain ⟨r4, hr5, h⟩ := bd h
    refine ok_callV (d := ((d + 6) + 3)) (mt := m12_isChild) (mc := 0) (ms := 0) (As := [.int x2]) (r := []) dX12_play_10 mo12_isChild mv12_isChild lkRX12_353 rfl hZ0 (q := (RX12, TX12, 34)) rfl rfl rfl (Nat.le_of_ble_eq_true rfl) (by show _ + 1 ≤ d + _; omega) (Nat.le_refl _) (Nat.le_refl _) (pRt_mono ?_)
    refine k12_isChild (d + 6) hW hZ0 hr5 ?_
    intro hbr4
    show Ok g _ Qx 13 [(0, .ref a0), (1, .int x1), (2, .int x2)] [.int r4] (Z, I, L, O)
    refine ok_if_ne (t := 18) dX12_play_13 (by decide) (fun hc6 => ?_) (fun hc6 => ?_)
    · have h := (if_neg hc6).symm.trans h
      refine ok_aload_n dX12_play_18 0 rfl ?_
      obtain ⟨r7, hr8, h⟩ := bd h
      refine ok_callV (d := ((d + 7) + 2)) (mt := m12_keep) (mc := 0) (ms := 0) (As := []) (r := []) dX12_play_19 mo12_keep mv12_keep lkRX12_356 rfl hZ0 (q := (RX12, TX12, 34)) rfl rfl rfl (Nat.le_of_ble_eq_true rfl) (by show _ + 1 ≤ d + _; omega) (Nat.le_refl _) (Nat.le_refl _) (pRt_mono ?_)
      refine k12_keep (d + 7) hW hZ0 hr8 ?_
      intro _
      show Ok g _ Qx 22 [(0, .ref a0), (1, .int x1), (2, .int x2)] [] (Z, r7, L, O)
      refine ok_aload_n dX12_play_22 0 rfl ?_
      refine ok_iconst (v := 0) dX12_play_23 (by decide) ?_
      obtain ⟨I9, eI9, h⟩ := blE h
      refine ok_putI2 (ci := 12) (k := 24) dX12_play_24 flRX12_343 rfl (Or.inl rfl) hZ0 (by decide) eI9 ?_
      refine ok_aload_n dX12_play_27 0 rfl ?_
      refine ok_iload_n dX12_play_28 1 rfl ?_
      refine ok_iload_n dX12_play_29 2 rfl ?_
      obtain ⟨r10, hr11, h⟩ := bd h
      refine ok_callV (d := ((d + 0) + 9)) (mt := m12_playNow) (mc := 0) (ms := 0) (As := [.int x1, .int x2]) (r := []) dX12_play_30 mo12_playNow mv12_playNow lkRX12_350 rfl hZ0 (q := (RX12, TX12, 34)) rfl rfl rfl (Nat.le_of_ble_eq_true rfl) (by show _ + 1 ≤ d + _; omega) (Nat.le_refl _) (Nat.le_refl _) (pRt_mono ?_)
      refine k12_playNow (d + 0) hW hZ0 hr11 ?_
      intro _
      show Ok g _ Qx 33 [(0, .ref a0), (1, .int x1), (2, .int x2)] [] (Z, r10.1, r10.2, O)
      refine ok_aload_n dX12_play_33 0 rfl ?_
      refine ok_getI (ci := 12) (k := 24) dX12_play_34 flRX12_343 rfl hZ0 (by decide) ?_
      cases h
      exact ok_iret dX12_play_37 hQ
    · have h := (if_pos hc6).symm.trans h
      refine ok_iconst (v := (-1)) dX12_play_16 (by decide) ?_
      cases h
      exact ok_iret dX12_play_17 hQ
theorem k12_play {g : pG} {Q : Option Value → pW → Prop} {Z : pZ} {I : (Nat → Nat → Int32)} {L : (Nat → Nat → Int64)} {O : (Nat → Nat → Option Nat)} {n : Nat} {a0 : Nat} {x1 : Int32} {x2 : Int32} {res : Int32 × (Nat → Nat → Int32) × (Nat → Nat → Int64)} (d : Nat) (hW : WT Z O) (hZ0 : Z[a0]? = some (12, 34)) (h : f12_play n I L O a0 x1 x2 = some res) (hQ : Q (some (.int res.1)) (Z, res.2.1, res.2.2, O)) : CT g (d + 10) m12_play 0 0 [.ref a0, .int x1, .int x2] (Z, I, L, O) Q :=
  ct_of_ok (mt := m12_play) (ini := false) mo12_play.2.2.2.2 (fun h => by cases h) (Nat.le_of_ble_eq_true rfl) (o12_play d hW hZ0 h ⟨trivial, hQ, rfl, rfl⟩)
theorem dX12_canPatch_0 : decode cX12_canPatch 0 = .ok (.aload_n 0, 1) := by decide +kernel
theorem dX12_canPatch_1 : decode cX12_canPatch 1 = .ok (.iload_n 1, 1) := by decide +kernel
theorem dX12_canPatch_2 : decode cX12_canPatch 2 = .ok (.iload_n 2, 1) := by decide +kernel
theorem dX12_canPatch_3 : decode cX12_canPatch 3 = .ok (.invokevirtual 94, 3) := by decide +kernel
theorem dX12_canPatch_6 : decode cX12_canPatch 6 = .ok (.ifCond .eq 16, 3) := by decide +kernel
theorem dX12_canPatch_9 : decode cX12_canPatch 9 = .ok (.aload_n 0, 1) := by decide +kernel
theorem dX12_canPatch_10 : decode cX12_canPatch 10 = .ok (.iload_n 1, 1) := by decide +kernel
theorem dX12_canPatch_11 : decode cX12_canPatch 11 = .ok (.iload_n 2, 1) := by decide +kernel
theorem dX12_canPatch_12 : decode cX12_canPatch 12 = .ok (.invokevirtual 83, 3) := by decide +kernel
theorem dX12_canPatch_15 : decode cX12_canPatch 15 = .ok (.ifCond .le 7, 3) := by decide +kernel
theorem dX12_canPatch_18 : decode cX12_canPatch 18 = .ok (.iconst 1, 1) := by decide +kernel
theorem dX12_canPatch_19 : decode cX12_canPatch 19 = .ok (.goto 4, 3) := by decide +kernel
theorem dX12_canPatch_22 : decode cX12_canPatch 22 = .ok (.iconst 0, 1) := by decide +kernel
theorem dX12_canPatch_23 : decode cX12_canPatch 23 = .ok (.ireturn, 1) := by decide +kernel
def m12_canPatch : pMT := (yX12_canPatch, cX12_canPatch, 3, some .boolean)
theorem mo12_canPatch : mOK m12_canPatch 2 := ⟨tb_i 1715 (by decide +kernel), wi_RX12, ⟨wn_RX12.1, wn_RX12.2, by decide +kernel⟩, by decide, plainFor_of_name wp_RX12⟩
theorem mv12_canPatch : mV m12_canPatch := ⟨tb_i 1714 (by decide +kernel), tb_p 107 (by decide +kernel)⟩
def f12_canPatch (I : (Nat → Nat → Int32)) (O : (Nat → Nat → Option Nat)) (a0 : Nat) (x1 : Int32) (x2 : Int32) : Option (Int32) := (f12_isPlace I O a0 x1 x2).bind fun r1 => (if r1 = 0 then some ((0 : Int32)) else (f12_wearOf I O a0 x1 x2).bind fun r4 => (if r4 ≤ 0 then some ((0 : Int32)) else some ((1 : Int32))))
set_option maxHeartbeats 4000000 in
set_option maxRecDepth 20000 in
theorem o12_canPatch {g : pG} {Qx : Option Value → pW → Prop} {Z : pZ} {I : (Nat → Nat → Int32)} {L : (Nat → Nat → Int64)} {O : (Nat → Nat → Option Nat)} {a0 : Nat} {x1 : Int32} {x2 : Int32} {res : Int32} (d : Nat) (hW : WT Z O) (hZ0 : Z[a0]? = some (12, 34)) (h : f12_canPatch I O a0 x1 x2 = some res) (hQ : (res = 0 ∨ res = 1) → Qx (some (.int res)) (Z, I, L, O)) : Ok g (d + 5, RX12, cX12_canPatch, 3, false, 0, 0, Z.length, pSl Z) Qx 0 [(0, .ref a0), (1, .int x1), (2, .int x2)] [] (Z, I, L, O) := by
  unfold f12_canPatch at h
  refine ok_aload_n dX12_canPatch_0 0 rfl ?_
  refine ok_iload_n dX12_canPatch_1 1 rfl ?_
  refine ok_iload_n dX12_canPatch_2 2 rfl ?_
  obtain ⟨r1, hr2, h⟩ := bd h
  refine ok_callV (d := ((d + 0) + 4)) (mt := m12_isPlace) (mc := 0) (ms := 0) (As := [.int x1, .int x2]) (r := []) dX12_canPatch_3 mo12_isPlace mv12_isPlace lkRX12_94 rfl hZ0 (q := (RX12, TX12, 34)) rfl rfl rfl (Nat.le_of_ble_eq_true rfl) (by show _ + 1 ≤ d + _; omega) (Nat.le_refl _) (Nat.le_refl _) (pRt_mono ?_)
  refine k12_isPlace (d + 0) hW hZ0 hr2 ?_
  intro hbr1
  show Ok g _ Qx 6 [(0, .ref a0), (1, .int x1), (2, .int x2)] [.int r1] (Z, I, L, O)
  refine ok_if_eq (t := 22) dX12_canPatch_6 (by decide) (fun hc3 => ?_) (fun hc3 => ?_)
  · have h := (if_pos hc3).symm.trans h
    refine ok_iconst (v := 0) dX12_canPatch_22 (by decide) ?_
    cases h
    exact ok_iret dX12_canPatch_23 (hQ (Or.inl rfl))
  · have h := (if_neg hc3).symm.trans h
    refine ok_aload_n dX12_canPatch_9 0 rfl ?_
    refine ok_iload_n dX12_canPatch_10 1 rfl ?_
    refine ok_iload_n dX12_canPatch_11 2 rfl ?_
    obtain ⟨r4, hr5, h⟩ := bd h
    refine ok_callV (d := ((d + 2) + 2)) (mt := m12_wearOf) (mc := 0) (ms := 0) (As := [.int x1, .int x2]) (r := []) dX12_canPatch_12 mo12_wearOf mv12_wearOf lkRX12_83 rfl hZ0 (q := (RX12, TX12, 34)) rfl rfl rfl (Nat.le_of_ble_eq_true rfl) (by show _ + 1 ≤ d + _; omega) (Nat.le_refl _) (Nat.le_refl _) (pRt_mono ?_)
    refine k12_wearOf (d + 2) hW hZ0 hr5 ?_
    intro _
    show Ok g _ Qx 15 [(0, .ref a0), (1, .int x1), (2, .int x2)] [.int r4] (Z, I, L, O)
    refine ok_if_le (t := 22) dX12_canPatch_15 (by decide) (fun hc6 => ?_) (fun hc6 => ?_)
    · have h := (if_pos hc6).symm.trans h
      refine ok_iconst (v := 0) dX12_canPatch_22 (by decide) ?_
      cases h
      exact ok_iret dX12_canPatch_23 (hQ (Or.inl rfl))
    · have h := (if_neg hc6).symm.trans h
      refine ok_iconst (v := 1) dX12_canPatch_18 (by decide) ?_
      refine ok_goto (t := 23) dX12_canPatch_19 (by decide) ?_
      cases h
      exact ok_iret dX12_canPatch_23 (hQ (Or.inr rfl))
theorem k12_canPatch {g : pG} {Q : Option Value → pW → Prop} {Z : pZ} {I : (Nat → Nat → Int32)} {L : (Nat → Nat → Int64)} {O : (Nat → Nat → Option Nat)} {a0 : Nat} {x1 : Int32} {x2 : Int32} {res : Int32} (d : Nat) (hW : WT Z O) (hZ0 : Z[a0]? = some (12, 34)) (h : f12_canPatch I O a0 x1 x2 = some res) (hQ : Q (some (.int res)) (Z, I, L, O)) : CT g (d + 5) m12_canPatch 0 0 [.ref a0, .int x1, .int x2] (Z, I, L, O) Q :=
  ct_of_ok (mt := m12_canPatch) (ini := false) mo12_canPatch.2.2.2.2 (fun h => by cases h) (Nat.le_of_ble_eq_true rfl) (o12_canPatch d hW hZ0 h (fun hb => ⟨hb, hQ, rfl, rfl⟩))
theorem dX12_patch_0 : decode cX12_patch 0 = .ok (.aload_n 0, 1) := by decide +kernel
theorem dX12_patch_1 : decode cX12_patch 1 = .ok (.iload_n 1, 1) := by decide +kernel
theorem dX12_patch_2 : decode cX12_patch 2 = .ok (.iload_n 2, 1) := by decide +kernel
theorem dX12_patch_3 : decode cX12_patch 3 = .ok (.invokevirtual 359, 3) := by decide +kernel
theorem dX12_patch_6 : decode cX12_patch 6 = .ok (.ifCond .ne 5, 3) := by decide +kernel
theorem dX12_patch_9 : decode cX12_patch 9 = .ok (.iconst 0, 1) := by decide +kernel
theorem dX12_patch_10 : decode cX12_patch 10 = .ok (.ireturn, 1) := by decide +kernel
theorem dX12_patch_11 : decode cX12_patch 11 = .ok (.aload_n 0, 1) := by decide +kernel
theorem dX12_patch_12 : decode cX12_patch 12 = .ok (.invokevirtual 356, 3) := by decide +kernel
theorem dX12_patch_15 : decode cX12_patch 15 = .ok (.aload_n 0, 1) := by decide +kernel
theorem dX12_patch_16 : decode cX12_patch 16 = .ok (.getfield 7, 3) := by decide +kernel
theorem dX12_patch_19 : decode cX12_patch 19 = .ok (.bipush 10, 2) := by decide +kernel
theorem dX12_patch_21 : decode cX12_patch 21 = .ok (.bipush 16, 2) := by decide +kernel
theorem dX12_patch_23 : decode cX12_patch 23 = .ok (.iload_n 1, 1) := by decide +kernel
theorem dX12_patch_24 : decode cX12_patch 24 = .ok (.imul, 1) := by decide +kernel
theorem dX12_patch_25 : decode cX12_patch 25 = .ok (.iadd, 1) := by decide +kernel
theorem dX12_patch_26 : decode cX12_patch 26 = .ok (.iload_n 2, 1) := by decide +kernel
theorem dX12_patch_27 : decode cX12_patch 27 = .ok (.iadd, 1) := by decide +kernel
theorem dX12_patch_28 : decode cX12_patch 28 = .ok (.iconst 0, 1) := by decide +kernel
theorem dX12_patch_29 : decode cX12_patch 29 = .ok (.iastore, 1) := by decide +kernel
theorem dX12_patch_30 : decode cX12_patch 30 = .ok (.iconst 1, 1) := by decide +kernel
theorem dX12_patch_31 : decode cX12_patch 31 = .ok (.ireturn, 1) := by decide +kernel
def m12_patch : pMT := (yX12_patch, cX12_patch, 3, some .boolean)
theorem mo12_patch : mOK m12_patch 2 := ⟨tb_i 1711 (by decide +kernel), wi_RX12, ⟨wn_RX12.1, wn_RX12.2, by decide +kernel⟩, by decide, plainFor_of_name wp_RX12⟩
theorem mv12_patch : mV m12_patch := ⟨tb_i 1709 (by decide +kernel), tb_i 1710 (by decide +kernel)⟩
def f12_patch (n : Nat) (I : (Nat → Nat → Int32)) (O : (Nat → Nat → Option Nat)) (a0 : Nat) (x1 : Int32) (x2 : Int32) : Option (Int32 × (Nat → Nat → Int32)) := (f12_canPatch I O a0 x1 x2).bind fun r1 => (if r1 = 0 then some ((0 : Int32), I) else (f12_keep n I O a0).bind fun r4 => (if (((10 : Int32) + ((16 : Int32) * x1)) + x2) < 0 ∨ 4371 ≤ (((10 : Int32) + ((16 : Int32) * x1)) + x2).toNatClampNeg then none else bl (sI r4 (rO O a0 0) (((10 : Int32) + ((16 : Int32) * x1)) + x2).toNatClampNeg (0 : Int32)) fun I8 => some ((1 : Int32), I8)))
set_option maxHeartbeats 4000000 in
set_option maxRecDepth 20000 in
theorem o12_patch {g : pG} {Qx : Option Value → pW → Prop} {Z : pZ} {I : (Nat → Nat → Int32)} {L : (Nat → Nat → Int64)} {O : (Nat → Nat → Option Nat)} {n : Nat} {a0 : Nat} {x1 : Int32} {x2 : Int32} {res : Int32 × (Nat → Nat → Int32)} (d : Nat) (hW : WT Z O) (hZ0 : Z[a0]? = some (12, 34)) (h : f12_patch n I O a0 x1 x2 = some res) (hQ : (res.1 = 0 ∨ res.1 = 1) → Qx (some (.int res.1)) (Z, res.2, L, O)) : Ok g (d + 6, RX12, cX12_patch, 3, false, 0, 0, Z.length, pSl Z) Qx 0 [(0, .ref a0), (1, .int x1), (2, .int x2)] [] (Z, I, L, O) := by
  unfold f12_patch at h
  refine ok_aload_n dX12_patch_0 0 rfl ?_
  refine ok_iload_n dX12_patch_1 1 rfl ?_
  refine ok_iload_n dX12_patch_2 2 rfl ?_
  obtain ⟨r1, hr2, h⟩ := bd h
  refine ok_callV (d := ((d + 0) + 5)) (mt := m12_canPatch) (mc := 0) (ms := 0) (As := [.int x1, .int x2]) (r := []) dX12_patch_3 mo12_canPatch mv12_canPatch lkRX12_359 rfl hZ0 (q := (RX12, TX12, 34)) rfl rfl rfl (Nat.le_of_ble_eq_true rfl) (by show _ + 1 ≤ d + _; omega) (Nat.le_refl _) (Nat.le_refl _) (pRt_mono ?_)
  refine k12_canPatch (d + 0) hW hZ0 hr2 ?_
  intro hbr1
  show Ok g _ Qx 6 [(0, .ref a0), (1, .int x1), (2, .int x2)] [.int r1] (Z, I, L, O)
  refine ok_if_ne (t := 11) dX12_patch_6 (by decide) (fun hc3 => ?_) (fun hc3 => ?_)
  · have h := (if_neg hc3).symm.trans h
    refine ok_aload_n dX12_patch_11 0 rfl ?_
    obtain ⟨r4, hr5, h⟩ := bd h
    refine ok_callV (d := ((d + 3) + 2)) (mt := m12_keep) (mc := 0) (ms := 0) (As := []) (r := []) dX12_patch_12 mo12_keep mv12_keep lkRX12_356 rfl hZ0 (q := (RX12, TX12, 34)) rfl rfl rfl (Nat.le_of_ble_eq_true rfl) (by show _ + 1 ≤ d + _; omega) (Nat.le_refl _) (Nat.le_refl _) (pRt_mono ?_)
    refine k12_keep (d + 3) hW hZ0 hr5 ?_
    intro _
    show Ok g _ Qx 15 [(0, .ref a0), (1, .int x1), (2, .int x2)] [] (Z, r4, L, O)
    refine ok_aload_n dX12_patch_15 0 rfl ?_
    have hT6 : Z[(rO O a0 0)]? = some (13, 4371) := (wt_f (ci := 12) (k := 0) hW hZ0 rfl).2
    refine ok_getR (ci := 12) (k := 0) dX12_patch_16 flRX12_7 rfl hW hZ0 (by decide) ?_
    refine ok_bipush (v := 10) dX12_patch_19 (by decide) ?_
    refine ok_bipush (v := 16) dX12_patch_21 (by decide) ?_
    refine ok_iload_n dX12_patch_23 1 rfl ?_
    refine ok_imul dX12_patch_24 ?_
    refine ok_iadd dX12_patch_25 ?_
    refine ok_iload_n dX12_patch_26 2 rfl ?_
    refine ok_iadd dX12_patch_27 ?_
    refine ok_iconst (v := 0) dX12_patch_28 (by decide) ?_
    obtain ⟨hg7, h⟩ := gd h
    obtain ⟨I8, eI8, h⟩ := blE h
    refine ok_iast3 dX12_patch_29 hT6 hg7 rfl eI8 ?_
    refine ok_iconst (v := 1) dX12_patch_30 (by decide) ?_
    cases h
    exact ok_iret dX12_patch_31 (hQ (Or.inr rfl))
  · have h := (if_pos hc3).symm.trans h
    refine ok_iconst (v := 0) dX12_patch_9 (by decide) ?_
    cases h
    exact ok_iret dX12_patch_10 (hQ (Or.inl rfl))
theorem k12_patch {g : pG} {Q : Option Value → pW → Prop} {Z : pZ} {I : (Nat → Nat → Int32)} {L : (Nat → Nat → Int64)} {O : (Nat → Nat → Option Nat)} {n : Nat} {a0 : Nat} {x1 : Int32} {x2 : Int32} {res : Int32 × (Nat → Nat → Int32)} (d : Nat) (hW : WT Z O) (hZ0 : Z[a0]? = some (12, 34)) (h : f12_patch n I O a0 x1 x2 = some res) (hQ : Q (some (.int res.1)) (Z, res.2, L, O)) : CT g (d + 6) m12_patch 0 0 [.ref a0, .int x1, .int x2] (Z, I, L, O) Q :=
  ct_of_ok (mt := m12_patch) (ini := false) mo12_patch.2.2.2.2 (fun h => by cases h) (Nat.le_of_ble_eq_true rfl) (o12_patch d hW hZ0 h (fun hb => ⟨hb, hQ, rfl, rfl⟩))
theorem dX12_canForget_0 : decode cX12_canForget 0 = .ok (.aload_n 0, 1) := by decide +kernel
theorem dX12_canForget_1 : decode cX12_canForget 1 = .ok (.iload_n 1, 1) := by decide +kernel
theorem dX12_canForget_2 : decode cX12_canForget 2 = .ok (.invokevirtual 353, 3) := by decide +kernel
theorem dX12_canForget_5 : decode cX12_canForget 5 = .ok (.ifCond .eq 25, 3) := by decide +kernel
theorem dX12_canForget_8 : decode cX12_canForget 8 = .ok (.iload_n 2, 1) := by decide +kernel
theorem dX12_canForget_9 : decode cX12_canForget 9 = .ok (.iconst 1, 1) := by decide +kernel
theorem dX12_canForget_10 : decode cX12_canForget 10 = .ok (.iconst 5, 1) := by decide +kernel
theorem dX12_canForget_11 : decode cX12_canForget 11 = .ok (.invokestatic 75, 3) := by decide +kernel
theorem dX12_canForget_14 : decode cX12_canForget 14 = .ok (.ifCond .eq 16, 3) := by decide +kernel
theorem dX12_canForget_17 : decode cX12_canForget 17 = .ok (.aload_n 0, 1) := by decide +kernel
theorem dX12_canForget_18 : decode cX12_canForget 18 = .ok (.iload_n 1, 1) := by decide +kernel
theorem dX12_canForget_19 : decode cX12_canForget 19 = .ok (.iload_n 2, 1) := by decide +kernel
theorem dX12_canForget_20 : decode cX12_canForget 20 = .ok (.invokevirtual 306, 3) := by decide +kernel
theorem dX12_canForget_23 : decode cX12_canForget 23 = .ok (.ifCond .le 7, 3) := by decide +kernel
theorem dX12_canForget_26 : decode cX12_canForget 26 = .ok (.iconst 1, 1) := by decide +kernel
theorem dX12_canForget_27 : decode cX12_canForget 27 = .ok (.goto 4, 3) := by decide +kernel
theorem dX12_canForget_30 : decode cX12_canForget 30 = .ok (.iconst 0, 1) := by decide +kernel
theorem dX12_canForget_31 : decode cX12_canForget 31 = .ok (.ireturn, 1) := by decide +kernel
def m12_canForget : pMT := (yX12_canForget, cX12_canForget, 3, some .boolean)
theorem mo12_canForget : mOK m12_canForget 2 := ⟨tb_i 1723 (by decide +kernel), wi_RX12, ⟨wn_RX12.1, wn_RX12.2, by decide +kernel⟩, by decide, plainFor_of_name wp_RX12⟩
theorem mv12_canForget : mV m12_canForget := ⟨tb_i 1722 (by decide +kernel), tb_p 108 (by decide +kernel)⟩
def f12_canForget (I : (Nat → Nat → Int32)) (O : (Nat → Nat → Option Nat)) (a0 : Nat) (x1 : Int32) (x2 : Int32) : Option (Int32) := (f12_isChild I O a0 x1).bind fun r1 => (if r1 = 0 then some ((0 : Int32)) else (f12_isIn x2 (1 : Int32) (5 : Int32)).bind fun r4 => (if r4 = 0 then some ((0 : Int32)) else (f12_heardBy I O a0 x1 x2).bind fun r7 => (if r7 ≤ 0 then some ((0 : Int32)) else some ((1 : Int32)))))
set_option maxHeartbeats 4000000 in
set_option maxRecDepth 20000 in
theorem o12_canForget {g : pG} {Qx : Option Value → pW → Prop} {Z : pZ} {I : (Nat → Nat → Int32)} {L : (Nat → Nat → Int64)} {O : (Nat → Nat → Option Nat)} {a0 : Nat} {x1 : Int32} {x2 : Int32} {res : Int32} (d : Nat) (hW : WT Z O) (hZ0 : Z[a0]? = some (12, 34)) (h : f12_canForget I O a0 x1 x2 = some res) (hQ : (res = 0 ∨ res = 1) → Qx (some (.int res)) (Z, I, L, O)) : Ok g (d + 4, RX12, cX12_canForget, 3, false, 0, 0, Z.length, pSl Z) Qx 0 [(0, .ref a0), (1, .int x1), (2, .int x2)] [] (Z, I, L, O) := by
  unfold f12_canForget at h
  refine ok_aload_n dX12_canForget_0 0 rfl ?_
  refine ok_iload_n dX12_canForget_1 1 rfl ?_
  obtain ⟨r1, hr2, h⟩ := bd h
  refine ok_callV (d := ((d + 0) + 3)) (mt := m12_isChild) (mc := 0) (ms := 0) (As := [.int x1]) (r := []) dX12_canForget_2 mo12_isChild mv12_isChild lkRX12_353 rfl hZ0 (q := (RX12, TX12, 34)) rfl rfl rfl (Nat.le_of_ble_eq_true rfl) (by show _ + 1 ≤ d + _; omega) (Nat.le_refl _) (Nat.le_refl _) (pRt_mono ?_)
  refine k12_isChild (d + 0) hW hZ0 hr2 ?_
  intro hbr1
  show Ok g _ Qx 5 [(0, .ref a0), (1, .int x1), (2, .int x2)] [.int r1] (Z, I, L, O)
  refine ok_if_eq (t := 30) dX12_canForget_5 (by decide) (fun hc3 => ?_) (fun hc3 => ?_)
  · have h := (if_pos hc3).symm.trans h
    refine ok_iconst (v := 0) dX12_canForget_30 (by decide) ?_
    cases h
    exact ok_iret dX12_canForget_31 (hQ (Or.inl rfl))
  · have h := (if_neg hc3).symm.trans h
    refine ok_iload_n dX12_canForget_8 2 rfl ?_
    refine ok_iconst (v := 1) dX12_canForget_9 (by decide) ?_
    refine ok_iconst (v := 5) dX12_canForget_10 (by decide) ?_
    obtain ⟨r4, hr5, h⟩ := bd h
    refine ok_callS (d := ((d + 1) + 2)) (mt := m12_isIn) (mc := 0) (ms := 0) (As := [.int x2, .int 1, .int 5]) (r := []) dX12_canForget_11 mo12_isIn mv12_isIn lkRX12_75 rfl rfl (Nat.le_of_ble_eq_true rfl) (by show _ + 1 ≤ d + _; omega) (Nat.le_refl _) (Nat.le_refl _) (pRt_mono ?_)
    refine k12_isIn (d + 1) hW  hr5 ?_
    intro hbr4
    show Ok g _ Qx 14 [(0, .ref a0), (1, .int x1), (2, .int x2)] [.int r4] (Z, I, L, O)
    refine ok_if_eq (t := 30) dX12_canForget_14 (by decide) (fun hc6 => ?_) (fun hc6 => ?_)
    · have h := (if_pos hc6).symm.trans h
      refine ok_iconst (v := 0) dX12_canForget_30 (by decide) ?_
      cases h
      exact ok_iret dX12_canForget_31 (hQ (Or.inl rfl))
    · have h := (if_neg hc6).symm.trans h
      refine ok_aload_n dX12_canForget_17 0 rfl ?_
      refine ok_iload_n dX12_canForget_18 1 rfl ?_
      refine ok_iload_n dX12_canForget_19 2 rfl ?_
      obtain ⟨r7, hr8, h⟩ := bd h
      refine ok_callV (d := ((d + 1) + 2)) (mt := m12_heardBy) (mc := 0) (ms := 0) (As := [.int x1, .int x2]) (r := []) dX12_canForget_20 mo12_heardBy mv12_heardBy lkRX12_306 rfl hZ0 (q := (RX12, TX12, 34)) rfl rfl rfl (Nat.le_of_ble_eq_true rfl) (by show _ + 1 ≤ d + _; omega) (Nat.le_refl _) (Nat.le_refl _) (pRt_mono ?_)
      refine k12_heardBy (d + 1) hW hZ0 hr8 ?_
      intro _
      show Ok g _ Qx 23 [(0, .ref a0), (1, .int x1), (2, .int x2)] [.int r7] (Z, I, L, O)
      refine ok_if_le (t := 30) dX12_canForget_23 (by decide) (fun hc9 => ?_) (fun hc9 => ?_)
      · have h := (if_pos hc9).symm.trans h
        refine ok_iconst (v := 0) dX12_canForget_30 (by decide) ?_
        cases h
        exact ok_iret dX12_canForget_31 (hQ (Or.inl rfl))
      · have h := (if_neg hc9).symm.trans h
        refine ok_iconst (v := 1) dX12_canForget_26 (by decide) ?_
        refine ok_goto (t := 31) dX12_canForget_27 (by decide) ?_
        cases h
        exact ok_iret dX12_canForget_31 (hQ (Or.inr rfl))
theorem k12_canForget {g : pG} {Q : Option Value → pW → Prop} {Z : pZ} {I : (Nat → Nat → Int32)} {L : (Nat → Nat → Int64)} {O : (Nat → Nat → Option Nat)} {a0 : Nat} {x1 : Int32} {x2 : Int32} {res : Int32} (d : Nat) (hW : WT Z O) (hZ0 : Z[a0]? = some (12, 34)) (h : f12_canForget I O a0 x1 x2 = some res) (hQ : Q (some (.int res)) (Z, I, L, O)) : CT g (d + 4) m12_canForget 0 0 [.ref a0, .int x1, .int x2] (Z, I, L, O) Q :=
  ct_of_ok (mt := m12_canForget) (ini := false) mo12_canForget.2.2.2.2 (fun h => by cases h) (Nat.le_of_ble_eq_true rfl) (o12_canForget d hW hZ0 h (fun hb => ⟨hb, hQ, rfl, rfl⟩))
theorem dX12_forget_0 : decode cX12_forget 0 = .ok (.aload_n 0, 1) := by decide +kernel
theorem dX12_forget_1 : decode cX12_forget 1 = .ok (.iload_n 1, 1) := by decide +kernel
theorem dX12_forget_2 : decode cX12_forget 2 = .ok (.iload_n 2, 1) := by decide +kernel
theorem dX12_forget_3 : decode cX12_forget 3 = .ok (.invokevirtual 362, 3) := by decide +kernel
theorem dX12_forget_6 : decode cX12_forget 6 = .ok (.ifCond .ne 5, 3) := by decide +kernel
theorem dX12_forget_9 : decode cX12_forget 9 = .ok (.iconst 0, 1) := by decide +kernel
theorem dX12_forget_10 : decode cX12_forget 10 = .ok (.ireturn, 1) := by decide +kernel
theorem dX12_forget_11 : decode cX12_forget 11 = .ok (.aload_n 0, 1) := by decide +kernel
theorem dX12_forget_12 : decode cX12_forget 12 = .ok (.invokevirtual 356, 3) := by decide +kernel
theorem dX12_forget_15 : decode cX12_forget 15 = .ok (.aload_n 0, 1) := by decide +kernel
theorem dX12_forget_16 : decode cX12_forget 16 = .ok (.getfield 7, 3) := by decide +kernel
theorem dX12_forget_19 : decode cX12_forget 19 = .ok (.bipush 90, 2) := by decide +kernel
theorem dX12_forget_21 : decode cX12_forget 21 = .ok (.bipush 6, 2) := by decide +kernel
theorem dX12_forget_23 : decode cX12_forget 23 = .ok (.iload_n 1, 1) := by decide +kernel
theorem dX12_forget_24 : decode cX12_forget 24 = .ok (.imul, 1) := by decide +kernel
theorem dX12_forget_25 : decode cX12_forget 25 = .ok (.iadd, 1) := by decide +kernel
theorem dX12_forget_26 : decode cX12_forget 26 = .ok (.iload_n 2, 1) := by decide +kernel
theorem dX12_forget_27 : decode cX12_forget 27 = .ok (.iadd, 1) := by decide +kernel
theorem dX12_forget_28 : decode cX12_forget 28 = .ok (.iconst 0, 1) := by decide +kernel
theorem dX12_forget_29 : decode cX12_forget 29 = .ok (.iastore, 1) := by decide +kernel
theorem dX12_forget_30 : decode cX12_forget 30 = .ok (.iconst 1, 1) := by decide +kernel
theorem dX12_forget_31 : decode cX12_forget 31 = .ok (.ireturn, 1) := by decide +kernel
def m12_forget : pMT := (yX12_forget, cX12_forget, 3, some .boolean)
theorem mo12_forget : mOK m12_forget 2 := ⟨tb_i 1719 (by decide +kernel), wi_RX12, ⟨wn_RX12.1, wn_RX12.2, by decide +kernel⟩, by decide, plainFor_of_name wp_RX12⟩
theorem mv12_forget : mV m12_forget := ⟨tb_i 1717 (by decide +kernel), tb_i 1718 (by decide +kernel)⟩
def f12_forget (n : Nat) (I : (Nat → Nat → Int32)) (O : (Nat → Nat → Option Nat)) (a0 : Nat) (x1 : Int32) (x2 : Int32) : Option (Int32 × (Nat → Nat → Int32)) := (f12_canForget I O a0 x1 x2).bind fun r1 => (if r1 = 0 then some ((0 : Int32), I) else (f12_keep n I O a0).bind fun r4 => (if (((90 : Int32) + ((6 : Int32) * x1)) + x2) < 0 ∨ 4371 ≤ (((90 : Int32) + ((6 : Int32) * x1)) + x2).toNatClampNeg then none else bl (sI r4 (rO O a0 0) (((90 : Int32) + ((6 : Int32) * x1)) + x2).toNatClampNeg (0 : Int32)) fun I8 => some ((1 : Int32), I8)))
set_option maxHeartbeats 4000000 in
set_option maxRecDepth 20000 in
theorem o12_forget {g : pG} {Qx : Option Value → pW → Prop} {Z : pZ} {I : (Nat → Nat → Int32)} {L : (Nat → Nat → Int64)} {O : (Nat → Nat → Option Nat)} {n : Nat} {a0 : Nat} {x1 : Int32} {x2 : Int32} {res : Int32 × (Nat → Nat → Int32)} (d : Nat) (hW : WT Z O) (hZ0 : Z[a0]? = some (12, 34)) (h : f12_forget n I O a0 x1 x2 = some res) (hQ : (res.1 = 0 ∨ res.1 = 1) → Qx (some (.int res.1)) (Z, res.2, L, O)) : Ok g (d + 5, RX12, cX12_forget, 3, false, 0, 0, Z.length, pSl Z) Qx 0 [(0, .ref a0), (1, .int x1), (2, .int x2)] [] (Z, I, L, O) := by
  unfold f12_forget at h
  refine ok_aload_n dX12_forget_0 0 rfl ?_
  refine ok_iload_n dX12_forget_1 1 rfl ?_
  refine ok_iload_n dX12_forget_2 2 rfl ?_
  obtain ⟨r1, hr2, h⟩ := bd h
  refine ok_callV (d := ((d + 0) + 4)) (mt := m12_canForget) (mc := 0) (ms := 0) (As := [.int x1, .int x2]) (r := []) dX12_forget_3 mo12_canForget mv12_canForget lkRX12_362 rfl hZ0 (q := (RX12, TX12, 34)) rfl rfl rfl (Nat.le_of_ble_eq_true rfl) (by show _ + 1 ≤ d + _; omega) (Nat.le_refl _) (Nat.le_refl _) (pRt_mono ?_)
  refine k12_canForget (d + 0) hW hZ0 hr2 ?_
  intro hbr1
  show Ok g _ Qx 6 [(0, .ref a0), (1, .int x1), (2, .int x2)] [.int r1] (Z, I, L, O)
  refine ok_if_ne (t := 11) dX12_forget_6 (by decide) (fun hc3 => ?_) (fun hc3 => ?_)
  · have h := (if_neg hc3).symm.trans h
    refine ok_aload_n dX12_forget_11 0 rfl ?_
    obtain ⟨r4, hr5, h⟩ := bd h
    refine ok_callV (d := ((d + 2) + 2)) (mt := m12_keep) (mc := 0) (ms := 0) (As := []) (r := []) dX12_forget_12 mo12_keep mv12_keep lkRX12_356 rfl hZ0 (q := (RX12, TX12, 34)) rfl rfl rfl (Nat.le_of_ble_eq_true rfl) (by show _ + 1 ≤ d + _; omega) (Nat.le_refl _) (Nat.le_refl _) (pRt_mono ?_)
    refine k12_keep (d + 2) hW hZ0 hr5 ?_
    intro _
    show Ok g _ Qx 15 [(0, .ref a0), (1, .int x1), (2, .int x2)] [] (Z, r4, L, O)
    refine ok_aload_n dX12_forget_15 0 rfl ?_
    have hT6 : Z[(rO O a0 0)]? = some (13, 4371) := (wt_f (ci := 12) (k := 0) hW hZ0 rfl).2
    refine ok_getR (ci := 12) (k := 0) dX12_forget_16 flRX12_7 rfl hW hZ0 (by decide) ?_
    refine ok_bipush (v := 90) dX12_forget_19 (by decide) ?_
    refine ok_bipush (v := 6) dX12_forget_21 (by decide) ?_
    refine ok_iload_n dX12_forget_23 1 rfl ?_
    refine ok_imul dX12_forget_24 ?_
    refine ok_iadd dX12_forget_25 ?_
    refine ok_iload_n dX12_forget_26 2 rfl ?_
    refine ok_iadd dX12_forget_27 ?_
    refine ok_iconst (v := 0) dX12_forget_28 (by decide) ?_
    obtain ⟨hg7, h⟩ := gd h
    obtain ⟨I8, eI8, h⟩ := blE h
    refine ok_iast3 dX12_forget_29 hT6 hg7 rfl eI8 ?_
    refine ok_iconst (v := 1) dX12_forget_30 (by decide) ?_
    cases h
    exact ok_iret dX12_forget_31 (hQ (Or.inr rfl))
  · have h := (if_pos hc3).symm.trans h
    refine ok_iconst (v := 0) dX12_forget_9 (by decide) ?_
    cases h
    exact ok_iret dX12_forget_10 (hQ (Or.inl rfl))
theorem k12_forget {g : pG} {Q : Option Value → pW → Prop} {Z : pZ} {I : (Nat → Nat → Int32)} {L : (Nat → Nat → Int64)} {O : (Nat → Nat → Option Nat)} {n : Nat} {a0 : Nat} {x1 : Int32} {x2 : Int32} {res : Int32 × (Nat → Nat → Int32)} (d : Nat) (hW : WT Z O) (hZ0 : Z[a0]? = some (12, 34)) (h : f12_forget n I O a0 x1 x2 = some res) (hQ : Q (some (.int res.1)) (Z, res.2, L, O)) : CT g (d + 5) m12_forget 0 0 [.ref a0, .int x1, .int x2] (Z, I, L, O) Q :=
  ct_of_ok (mt := m12_forget) (ini := false) mo12_forget.2.2.2.2 (fun h => by cases h) (Nat.le_of_ble_eq_true rfl) (o12_forget d hW hZ0 h (fun hb => ⟨hb, hQ, rfl, rfl⟩))
theorem dX12_arePassed_0 : decode cX12_arePassed 0 = .ok (.aload_n 0, 1) := by decide +kernel
theorem dX12_arePassed_1 : decode cX12_arePassed 1 = .ok (.iconst 0, 1) := by decide +kernel
theorem dX12_arePassed_2 : decode cX12_arePassed 2 = .ok (.putfield 343, 3) := by decide +kernel
theorem dX12_arePassed_5 : decode cX12_arePassed 5 = .ok (.iconst 0, 1) := by decide +kernel
theorem dX12_arePassed_6 : decode cX12_arePassed 6 = .ok (.istore_n 2, 1) := by decide +kernel
theorem dX12_arePassed_7 : decode cX12_arePassed 7 = .ok (.iload_n 2, 1) := by decide +kernel
theorem dX12_arePassed_8 : decode cX12_arePassed 8 = .ok (.iload_n 1, 1) := by decide +kernel
theorem dX12_arePassed_9 : decode cX12_arePassed 9 = .ok (.if_icmp .ge 32, 3) := by decide +kernel
theorem dX12_arePassed_12 : decode cX12_arePassed 12 = .ok (.aload_n 0, 1) := by decide +kernel
theorem dX12_arePassed_13 : decode cX12_arePassed 13 = .ok (.getfield 7, 3) := by decide +kernel
theorem dX12_arePassed_16 : decode cX12_arePassed 16 = .ok (.bipush 7, 2) := by decide +kernel
theorem dX12_arePassed_18 : decode cX12_arePassed 18 = .ok (.iaload, 1) := by decide +kernel
theorem dX12_arePassed_19 : decode cX12_arePassed 19 = .ok (.sipush 9999, 3) := by decide +kernel
theorem dX12_arePassed_22 : decode cX12_arePassed 22 = .ok (.if_icmp .ne 5, 3) := by decide +kernel
theorem dX12_arePassed_25 : decode cX12_arePassed 25 = .ok (.iconst 0, 1) := by decide +kernel
theorem dX12_arePassed_26 : decode cX12_arePassed 26 = .ok (.ireturn, 1) := by decide +kernel
theorem dX12_arePassed_27 : decode cX12_arePassed 27 = .ok (.aload_n 0, 1) := by decide +kernel
theorem dX12_arePassed_28 : decode cX12_arePassed 28 = .ok (.invokevirtual 356, 3) := by decide +kernel
theorem dX12_arePassed_31 : decode cX12_arePassed 31 = .ok (.aload_n 0, 1) := by decide +kernel
theorem dX12_arePassed_32 : decode cX12_arePassed 32 = .ok (.invokevirtual 365, 3) := by decide +kernel
theorem dX12_arePassed_35 : decode cX12_arePassed 35 = .ok (.iinc 2 1, 3) := by decide +kernel
theorem dX12_arePassed_38 : decode cX12_arePassed 38 = .ok (.goto (-31), 3) := by decide +kernel
theorem dX12_arePassed_41 : decode cX12_arePassed 41 = .ok (.iconst 1, 1) := by decide +kernel
theorem dX12_arePassed_42 : decode cX12_arePassed 42 = .ok (.ireturn, 1) := by decide +kernel
def m12_arePassed : pMT := (yX12_arePassed, cX12_arePassed, 3, some .boolean)
theorem mo12_arePassed : mOK m12_arePassed 1 := ⟨tb_i 1731 (by decide +kernel), wi_RX12, ⟨wn_RX12.1, wn_RX12.2, by decide +kernel⟩, by decide, plainFor_of_name wp_RX12⟩
theorem mv12_arePassed : mV m12_arePassed := ⟨tb_i 1730 (by decide +kernel), tb_p 109 (by decide +kernel)⟩
def f12_arePassed_c7 (n : Nat) (O : (Nat → Nat → Option Nat)) : Nat → (Nat → Nat → Int32) → (Nat → Nat → Int64) → Nat → Int32 → Int32 → Option (Int32 × (Nat → Nat → Int32) × (Nat → Nat → Int64))
  | 0, _, _, _, _, _ => none
  | m + 1, I, L, b0, y1, y2 => (if y1 ≤ y2 then some ((1 : Int32), I, L) else (if (I (rO O b0 0) 7) = (9999 : Int32) then some ((0 : Int32), I, L) else (f12_keep n I O b0).bind fun r4 => (f12_pass n r4 L O b0).bind fun r6 => f12_arePassed_c7 n O m r6.1 r6.2 b0 y1 (y2 + 1)))
set_option maxHeartbeats 4000000 in
set_option maxRecDepth 20000 in
theorem o12_arePassed_c7 {g : pG} {Qx : Option Value → pW → Prop} {Z : pZ} {O : (Nat → Nat → Option Nat)} {n : Nat} {res : Int32 × (Nat → Nat → Int32) × (Nat → Nat → Int64)} (d : Nat) (hW : WT Z O) (hQ : (res.1 = 0 ∨ res.1 = 1) → Qx (some (.int res.1)) (Z, res.2.1, res.2.2, O)) : ∀ (m : Nat) (I : (Nat → Nat → Int32)) (L : (Nat → Nat → Int64)) (b0 : Nat) (y1 : Int32) (y2 : Int32), (Z[b0]? = some (12, 34)) → f12_arePassed_c7 n O m I L b0 y1 y2 = some res → Ok g (d + 11, RX12, cX12_arePassed, 3, false, 0, 0, Z.length, pSl Z) Qx 7 [(0, .ref b0), (1, .int y1), (2, .int y2)] [] (Z, I, L, O) := by
  intro m
  induction m with
  | zero => intro I L b0 y1 y2 hZ_b0 h; rw [f12_arePassed_c7] at h; cases h
  | succ m ih =>
    intro I L b0 y1 y2 hZ_b0 h
    rw [f12_arePassed_c7] at h
    refine ok_iload_n dX12_arePassed_7 2 rfl ?_
    refine ok_iload_n dX12_arePassed_8 1 rfl ?_
    refine ok_icmp_ge (t := 41) dX12_arePassed_9 (by decide) (fun hc1 => ?_) (fun hc1 => ?_)
    · have h := (if_pos hc1).symm.trans h
      refine ok_iconst (v := 1) dX12_arePassed_41 (by decide) ?_
      cases h
      exact ok_iret dX12_arePassed_42 (hQ (Or.inr rfl))
    · have h := (if_neg hc1).symm.trans h
      refine ok_aload_n dX12_arePassed_12 0 rfl ?_
      have hT2 : Z[(rO O b0 0)]? = some (13, 4371) := (wt_f (ci := 12) (k := 0) hW hZ_b0 rfl).2
      refine ok_getR (ci := 12) (k := 0) dX12_arePassed_13 flRX12_7 rfl hW hZ_b0 (by decide) ?_
      refine ok_bipush (v := 7) dX12_arePassed_16 (by decide) ?_
      refine ok_iald2 (N := 7) dX12_arePassed_18 hT2 (by unfold vp_in; decide) (by decide) ?_
      refine ok_sipush (v := 9999) dX12_arePassed_19 (by decide) ?_
      refine ok_icmp_ne (t := 27) dX12_arePassed_22 (by decide) (fun hc3 => ?_) (fun hc3 => ?_)
      · have h := (if_neg hc3).symm.trans h
        refine ok_aload_n dX12_arePassed_27 0 rfl ?_
        obtain ⟨r4, hr5, h⟩ := bd h
        refine ok_callV (d := ((d + 8) + 2)) (mt := m12_keep) (mc := 0) (ms := 0) (As := []) (r := []) dX12_arePassed_28 mo12_keep mv12_keep lkRX12_356 rfl hZ_b0 (q := (RX12, TX12, 34)) rfl rfl rfl (Nat.le_of_ble_eq_true rfl) (by show _ + 1 ≤ d + _; omega) (Nat.le_refl _) (Nat.le_refl _) (pRt_mono ?_)
        refine k12_keep (d + 8) hW hZ_b0 hr5 ?_
        intro _
        show Ok g _ Qx 31 [(0, .ref b0), (1, .int y1), (2, .int y2)] [] (Z, r4, L, O)
        refine ok_aload_n dX12_arePassed_31 0 rfl ?_
        obtain ⟨r6, hr7, h⟩ := bd h
        refine ok_callV (d := ((d + 0) + 10)) (mt := m12_pass) (mc := 0) (ms := 0) (As := []) (r := []) dX12_arePassed_32 mo12_pass mv12_pass lkRX12_365 rfl hZ_b0 (q := (RX12, TX12, 34)) rfl rfl rfl (Nat.le_of_ble_eq_true rfl) (by show _ + 1 ≤ d + _; omega) (Nat.le_refl _) (Nat.le_refl _) (pRt_mono ?_)
        refine k12_pass (d + 0) hW hZ_b0 hr7 ?_
        intro _
        show Ok g _ Qx 35 [(0, .ref b0), (1, .int y1), (2, .int y2)] [] (Z, r6.1, r6.2, O)
        refine ok_iinc (u := (y2 + 1)) (l' := [(2, .int (y2 + 1)), (0, .ref b0), (1, .int y1)]) dX12_arePassed_35 2 rfl rfl (Nat.le_of_ble_eq_true rfl) rfl ?_
        refine ok_goto (t := 7) dX12_arePassed_38 (by decide) ?_
        refine ok_sub [1, 2, 0] rfl ?_
        exact ih r6.1 r6.2 b0 y1 (y2 + 1) hZ_b0 h
      · have h := (if_pos hc3).symm.trans h
        refine ok_iconst (v := 0) dX12_arePassed_25 (by decide) ?_
        cases h
        exact ok_iret dX12_arePassed_26 (hQ (Or.inl rfl))
def f12_arePassed (n : Nat) (I : (Nat → Nat → Int32)) (L : (Nat → Nat → Int64)) (O : (Nat → Nat → Option Nat)) (a0 : Nat) (x1 : Int32) : Option (Int32 × (Nat → Nat → Int32) × (Nat → Nat → Int64)) := bl (sI I a0 24 (0 : Int32)) fun I1 => f12_arePassed_c7 n O n I1 L a0 x1 (0 : Int32)
set_option maxHeartbeats 4000000 in
set_option maxRecDepth 20000 in
theorem o12_arePassed {g : pG} {Qx : Option Value → pW → Prop} {Z : pZ} {I : (Nat → Nat → Int32)} {L : (Nat → Nat → Int64)} {O : (Nat → Nat → Option Nat)} {n : Nat} {a0 : Nat} {x1 : Int32} {res : Int32 × (Nat → Nat → Int32) × (Nat → Nat → Int64)} (d : Nat) (hW : WT Z O) (hZ0 : Z[a0]? = some (12, 34)) (h : f12_arePassed n I L O a0 x1 = some res) (hQ : (res.1 = 0 ∨ res.1 = 1) → Qx (some (.int res.1)) (Z, res.2.1, res.2.2, O)) : Ok g (d + 11, RX12, cX12_arePassed, 3, false, 0, 0, Z.length, pSl Z) Qx 0 [(0, .ref a0), (1, .int x1)] [] (Z, I, L, O) := by
  unfold f12_arePassed at h
  refine ok_aload_n dX12_arePassed_0 0 rfl ?_
  refine ok_iconst (v := 0) dX12_arePassed_1 (by decide) ?_
  obtain ⟨I1, eI1, h⟩ := blE h
  refine ok_putI2 (ci := 12) (k := 24) dX12_arePassed_2 flRX12_343 rfl (Or.inl rfl) hZ0 (by decide) eI1 ?_
  refine ok_iconst (v := 0) dX12_arePassed_5 (by decide) ?_
  refine ok_istore_n (l' := [(2, .int 0), (0, .ref a0), (1, .int x1)]) dX12_arePassed_6 rfl (Nat.le_of_ble_eq_true rfl) rfl ?_
  refine ok_sub [1, 2, 0] rfl ?_
  exact o12_arePassed_c7 d hW hQ  n I1 L a0 x1 (0 : Int32) hZ0 h
theorem k12_arePassed {g : pG} {Q : Option Value → pW → Prop} {Z : pZ} {I : (Nat → Nat → Int32)} {L : (Nat → Nat → Int64)} {O : (Nat → Nat → Option Nat)} {n : Nat} {a0 : Nat} {x1 : Int32} {res : Int32 × (Nat → Nat → Int32) × (Nat → Nat → Int64)} (d : Nat) (hW : WT Z O) (hZ0 : Z[a0]? = some (12, 34)) (h : f12_arePassed n I L O a0 x1 = some res) (hQ : Q (some (.int res.1)) (Z, res.2.1, res.2.2, O)) : CT g (d + 11) m12_arePassed 0 0 [.ref a0, .int x1] (Z, I, L, O) Q :=
  ct_of_ok (mt := m12_arePassed) (ini := false) mo12_arePassed.2.2.2.2 (fun h => by cases h) (Nat.le_of_ble_eq_true rfl) (o12_arePassed d hW hZ0 h (fun hb => ⟨hb, hQ, rfl, rfl⟩))
theorem dX12_sunday_0 : decode cX12_sunday 0 = .ok (.iload_n 1, 1) := by decide +kernel
theorem dX12_sunday_1 : decode cX12_sunday 1 = .ok (.iconst 1, 1) := by decide +kernel
theorem dX12_sunday_2 : decode cX12_sunday 2 = .ok (.bipush 60, 2) := by decide +kernel
theorem dX12_sunday_4 : decode cX12_sunday 4 = .ok (.invokestatic 75, 3) := by decide +kernel
theorem dX12_sunday_7 : decode cX12_sunday 7 = .ok (.ifCond .eq 33, 3) := by decide +kernel
theorem dX12_sunday_10 : decode cX12_sunday 10 = .ok (.aload_n 0, 1) := by decide +kernel
theorem dX12_sunday_11 : decode cX12_sunday 11 = .ok (.getfield 7, 3) := by decide +kernel
theorem dX12_sunday_14 : decode cX12_sunday 14 = .ok (.bipush 7, 2) := by decide +kernel
theorem dX12_sunday_16 : decode cX12_sunday 16 = .ok (.iaload, 1) := by decide +kernel
theorem dX12_sunday_17 : decode cX12_sunday 17 = .ok (.iload_n 1, 1) := by decide +kernel
theorem dX12_sunday_18 : decode cX12_sunday 18 = .ok (.iadd, 1) := by decide +kernel
theorem dX12_sunday_19 : decode cX12_sunday 19 = .ok (.sipush 9999, 3) := by decide +kernel
theorem dX12_sunday_22 : decode cX12_sunday 22 = .ok (.if_icmp .gt 18, 3) := by decide +kernel
theorem dX12_sunday_25 : decode cX12_sunday 25 = .ok (.aload_n 0, 1) := by decide +kernel
theorem dX12_sunday_26 : decode cX12_sunday 26 = .ok (.iload_n 1, 1) := by decide +kernel
theorem dX12_sunday_27 : decode cX12_sunday 27 = .ok (.invokevirtual 368, 3) := by decide +kernel
theorem dX12_sunday_30 : decode cX12_sunday 30 = .ok (.ifCond .eq 10, 3) := by decide +kernel
theorem dX12_sunday_33 : decode cX12_sunday 33 = .ok (.aload_n 0, 1) := by decide +kernel
theorem dX12_sunday_34 : decode cX12_sunday 34 = .ok (.getfield 343, 3) := by decide +kernel
theorem dX12_sunday_37 : decode cX12_sunday 37 = .ok (.goto 4, 3) := by decide +kernel
theorem dX12_sunday_40 : decode cX12_sunday 40 = .ok (.iconst (-1), 1) := by decide +kernel
theorem dX12_sunday_41 : decode cX12_sunday 41 = .ok (.ireturn, 1) := by decide +kernel
def m12_sunday : pMT := (yX12_sunday, cX12_sunday, 2, some .int)
theorem mo12_sunday : mOK m12_sunday 1 := ⟨tb_i 1727 (by decide +kernel), wi_RX12, ⟨wn_RX12.1, wn_RX12.2, by decide +kernel⟩, by decide, plainFor_of_name wp_RX12⟩
theorem mv12_sunday : mV m12_sunday := ⟨tb_i 1725 (by decide +kernel), tb_i 1726 (by decide +kernel)⟩
def f12_sunday (n : Nat) (I : (Nat → Nat → Int32)) (L : (Nat → Nat → Int64)) (O : (Nat → Nat → Option Nat)) (a0 : Nat) (x1 : Int32) : Option (Int32 × (Nat → Nat → Int32) × (Nat → Nat → Int64)) := (f12_isIn x1 (1 : Int32) (60 : Int32)).bind fun r1 => (if r1 = 0 then some (((-1) : Int32), I, L) else (if (9999 : Int32) < ((I (rO O a0 0) 7) + x1) then some (((-1) : Int32), I, L) else (f12_arePassed n I L O a0 x1).bind fun r6 => (if r6.1 = 0 then some (((-1) : Int32), r6.2.1, r6.2.2) else some ((r6.2.1 a0 24), r6.2.1, r6.2.2))))
set_option maxHeartbeats 4000000 in
set_option maxRecDepth 20000 in
theorem o12_sunday {g : pG} {Qx : Option Value → pW → Prop} {Z : pZ} {I : (Nat → Nat → Int32)} {L : (Nat → Nat → Int64)} {O : (Nat → Nat → Option Nat)} {n : Nat} {a0 : Nat} {x1 : Int32} {res : Int32 × (Nat → Nat → Int32) × (Nat → Nat → Int64)} (d : Nat) (hW : WT Z O) (hZ0 : Z[a0]? = some (12, 34)) (h : f12_sunday n I L O a0 x1 = some res) (hQ : Qx (some (.int res.1)) (Z, res.2.1, res.2.2, O)) : Ok g (d + 12, RX12, cX12_sunday, 2, false, 0, 0, Z.length, pSl Z) Qx 0 [(0, .ref a0), (1, .int x1)] [] (Z, I, L, O) := by
  unfold f12_sunday at h
  refine ok_iload_n dX12_sunday_0 1 rfl ?_
  refine ok_iconst (v := 1) dX12_sunday_1 (by decide) ?_
  refine ok_bipush (v := 60) dX12_sunday_2 (by decide) ?_
  obtain ⟨r1, hr2, h⟩ := bd h
  refine ok_callS (d := ((d + 9) + 2)) (mt := m12_isIn) (mc := 0) (ms := 0) (As := [.int x1, .int 1, .int 60]) (r := []) dX12_sunday_4 mo12_isIn mv12_isIn lkRX12_75 rfl rfl (Nat.le_of_ble_eq_true rfl) (by show _ + 1 ≤ d + _; omega) (Nat.le_refl _) (Nat.le_refl _) (pRt_mono ?_)
  refine k12_isIn (d + 9) hW  hr2 ?_
  intro hbr1
  show Ok g _ Qx 7 [(0, .ref a0), (1, .int x1)] [.int r1] (Z, I, L, O)
  refine ok_if_eq (t := 40) dX12_sunday_7 (by decide) (fun hc3 => ?_) (fun hc3 => ?_)
  · have h := (if_pos hc3).symm.trans h
    refine ok_iconst (v := (-1)) dX12_sunday_40 (by decide) ?_
    cases h
    exact ok_iret dX12_sunday_41 hQ
  · have h := (if_neg hc3).symm.trans h
    refine ok_aload_n dX12_sunday_10 0 rfl ?_
    have hT4 : Z[(rO O a0 0)]? = some (13, 4371) := (wt_f (ci := 12) (k := 0) hW hZ0 rfl).2
    refine ok_getR (ci := 12) (k := 0) dX12_sunday_11 flRX12_7 rfl hW hZ0 (by decide) ?_
    refine ok_bipush (v := 7) dX12_sunday_14 (by decide) ?_
    refine ok_iald2 (N := 7) dX12_sunday_16 hT4 (by unfold vp_in; decide) (by decide) ?_
    refine ok_iload_n dX12_sunday_17 1 rfl ?_
    refine ok_iadd dX12_sunday_18 ?_
    refine ok_sipush (v := 9999) dX12_sunday_19 (by decide) ?_
    refine ok_icmp_gt (t := 40) dX12_sunday_22 (by decide) (fun hc5 => ?_) (fun hc5 => ?_)
    · have h := (if_pos hc5).symm.trans h
      refine ok_iconst (v := (-1)) dX12_sunday_40 (by decide) ?_
      cases h
      exact ok_iret dX12_sunday_41 hQ
    · have h := (if_neg hc5).symm.trans h
      refine ok_aload_n dX12_sunday_25 0 rfl ?_
      refine ok_iload_n dX12_sunday_26 1 rfl ?_
      obtain ⟨r6, hr7, h⟩ := bd h
      refine ok_callV (d := ((d + 0) + 11)) (mt := m12_arePassed) (mc := 0) (ms := 0) (As := [.int x1]) (r := []) dX12_sunday_27 mo12_arePassed mv12_arePassed lkRX12_368 rfl hZ0 (q := (RX12, TX12, 34)) rfl rfl rfl (Nat.le_of_ble_eq_true rfl) (by show _ + 1 ≤ d + _; omega) (Nat.le_refl _) (Nat.le_refl _) (pRt_mono ?_)
      refine k12_arePassed (d + 0) hW hZ0 hr7 ?_
      intro hbr6
      show Ok g _ Qx 30 [(0, .ref a0), (1, .int x1)] [.int r6.1] (Z, r6.2.1, r6.2.2, O)
      refine ok_if_eq (t := 40) dX12_sunday_30 (by decide) (fun hc8 => ?_) (fun hc8 => ?_)
      · have h := (if_pos hc8).symm.trans h
        refine ok_iconst (v := (-1)) dX12_sunday_40 (by decide) ?_
        cases h
        exact ok_iret dX12_sunday_41 hQ
      · have h := (if_neg hc8).symm.trans h
        refine ok_aload_n dX12_sunday_33 0 rfl ?_
        refine ok_getI (ci := 12) (k := 24) dX12_sunday_34 flRX12_343 rfl hZ0 (by decide) ?_
        refine ok_goto (t := 41) dX12_sunday_37 (by decide) ?_
        cases h
        exact ok_iret dX12_sunday_41 hQ
theorem k12_sunday {g : pG} {Q : Option Value → pW → Prop} {Z : pZ} {I : (Nat → Nat → Int32)} {L : (Nat → Nat → Int64)} {O : (Nat → Nat → Option Nat)} {n : Nat} {a0 : Nat} {x1 : Int32} {res : Int32 × (Nat → Nat → Int32) × (Nat → Nat → Int64)} (d : Nat) (hW : WT Z O) (hZ0 : Z[a0]? = some (12, 34)) (h : f12_sunday n I L O a0 x1 = some res) (hQ : Q (some (.int res.1)) (Z, res.2.1, res.2.2, O)) : CT g (d + 12) m12_sunday 0 0 [.ref a0, .int x1] (Z, I, L, O) Q :=
  ct_of_ok (mt := m12_sunday) (ini := false) mo12_sunday.2.2.2.2 (fun h => by cases h) (Nat.le_of_ble_eq_true rfl) (o12_sunday d hW hZ0 h ⟨trivial, hQ, rfl, rfl⟩)
theorem dX12_isPlayed_0 : decode cX12_isPlayed 0 = .ok (.aload_n 0, 1) := by decide +kernel
theorem dX12_isPlayed_1 : decode cX12_isPlayed 1 = .ok (.getfield 16, 3) := by decide +kernel
theorem dX12_isPlayed_4 : decode cX12_isPlayed 4 = .ok (.iload_n 1, 1) := by decide +kernel
theorem dX12_isPlayed_5 : decode cX12_isPlayed 5 = .ok (.iconst 1, 1) := by decide +kernel
theorem dX12_isPlayed_6 : decode cX12_isPlayed 6 = .ok (.iadd, 1) := by decide +kernel
theorem dX12_isPlayed_7 : decode cX12_isPlayed 7 = .ok (.iaload, 1) := by decide +kernel
theorem dX12_isPlayed_8 : decode cX12_isPlayed 8 = .ok (.istore_n 2, 1) := by decide +kernel
theorem dX12_isPlayed_9 : decode cX12_isPlayed 9 = .ok (.aload_n 0, 1) := by decide +kernel
theorem dX12_isPlayed_10 : decode cX12_isPlayed 10 = .ok (.getfield 16, 3) := by decide +kernel
theorem dX12_isPlayed_13 : decode cX12_isPlayed 13 = .ok (.iload_n 1, 1) := by decide +kernel
theorem dX12_isPlayed_14 : decode cX12_isPlayed 14 = .ok (.iconst 2, 1) := by decide +kernel
theorem dX12_isPlayed_15 : decode cX12_isPlayed 15 = .ok (.iadd, 1) := by decide +kernel
theorem dX12_isPlayed_16 : decode cX12_isPlayed 16 = .ok (.iaload, 1) := by decide +kernel
theorem dX12_isPlayed_17 : decode cX12_isPlayed 17 = .ok (.istore_n 3, 1) := by decide +kernel
theorem dX12_isPlayed_18 : decode cX12_isPlayed 18 = .ok (.aload_n 0, 1) := by decide +kernel
theorem dX12_isPlayed_19 : decode cX12_isPlayed 19 = .ok (.getfield 16, 3) := by decide +kernel
theorem dX12_isPlayed_22 : decode cX12_isPlayed 22 = .ok (.iload_n 1, 1) := by decide +kernel
theorem dX12_isPlayed_23 : decode cX12_isPlayed 23 = .ok (.iaload, 1) := by decide +kernel
theorem dX12_isPlayed_24 : decode cX12_isPlayed 24 = .ok (.tableswitch 153 3 8 #[40, 105, 118, 133, 140, 147], 40) := by decide +kernel
theorem dX12_isPlayed_64 : decode cX12_isPlayed 64 = .ok (.aload_n 0, 1) := by decide +kernel
theorem dX12_isPlayed_65 : decode cX12_isPlayed 65 = .ok (.iload_n 2, 1) := by decide +kernel
theorem dX12_isPlayed_66 : decode cX12_isPlayed 66 = .ok (.invokevirtual 371, 3) := by decide +kernel
theorem dX12_isPlayed_69 : decode cX12_isPlayed 69 = .ok (.istore 4, 2) := by decide +kernel
theorem dX12_isPlayed_71 : decode cX12_isPlayed 71 = .ok (.iconst 0, 1) := by decide +kernel
theorem dX12_isPlayed_72 : decode cX12_isPlayed 72 = .ok (.istore 5, 2) := by decide +kernel
theorem dX12_isPlayed_74 : decode cX12_isPlayed 74 = .ok (.iload 5, 2) := by decide +kernel
theorem dX12_isPlayed_76 : decode cX12_isPlayed 76 = .ok (.iload_n 2, 1) := by decide +kernel
theorem dX12_isPlayed_77 : decode cX12_isPlayed 77 = .ok (.if_icmp .ge 41, 3) := by decide +kernel
theorem dX12_isPlayed_80 : decode cX12_isPlayed 80 = .ok (.iload 4, 2) := by decide +kernel
theorem dX12_isPlayed_82 : decode cX12_isPlayed 82 = .ok (.ifCond .lt 36, 3) := by decide +kernel
theorem dX12_isPlayed_85 : decode cX12_isPlayed 85 = .ok (.aload_n 0, 1) := by decide +kernel
theorem dX12_isPlayed_86 : decode cX12_isPlayed 86 = .ok (.getfield 7, 3) := by decide +kernel
theorem dX12_isPlayed_89 : decode cX12_isPlayed 89 = .ok (.bipush 119, 2) := by decide +kernel
theorem dX12_isPlayed_91 : decode cX12_isPlayed 91 = .ok (.bipush 16, 2) := by decide +kernel
theorem dX12_isPlayed_93 : decode cX12_isPlayed 93 = .ok (.iload 4, 2) := by decide +kernel
theorem dX12_isPlayed_95 : decode cX12_isPlayed 95 = .ok (.imul, 1) := by decide +kernel
theorem dX12_isPlayed_96 : decode cX12_isPlayed 96 = .ok (.iadd, 1) := by decide +kernel
theorem dX12_isPlayed_97 : decode cX12_isPlayed 97 = .ok (.iload 5, 2) := by decide +kernel
theorem dX12_isPlayed_99 : decode cX12_isPlayed 99 = .ok (.iadd, 1) := by decide +kernel
theorem dX12_isPlayed_100 : decode cX12_isPlayed 100 = .ok (.aload_n 0, 1) := by decide +kernel
theorem dX12_isPlayed_101 : decode cX12_isPlayed 101 = .ok (.getfield 16, 3) := by decide +kernel
theorem dX12_isPlayed_104 : decode cX12_isPlayed 104 = .ok (.iload_n 1, 1) := by decide +kernel
theorem dX12_isPlayed_105 : decode cX12_isPlayed 105 = .ok (.iconst 2, 1) := by decide +kernel
theorem dX12_isPlayed_106 : decode cX12_isPlayed 106 = .ok (.iadd, 1) := by decide +kernel
theorem dX12_isPlayed_107 : decode cX12_isPlayed 107 = .ok (.iload 5, 2) := by decide +kernel
theorem dX12_isPlayed_109 : decode cX12_isPlayed 109 = .ok (.iadd, 1) := by decide +kernel
theorem dX12_isPlayed_110 : decode cX12_isPlayed 110 = .ok (.iaload, 1) := by decide +kernel
theorem dX12_isPlayed_111 : decode cX12_isPlayed 111 = .ok (.iastore, 1) := by decide +kernel
theorem dX12_isPlayed_112 : decode cX12_isPlayed 112 = .ok (.iinc 5 1, 3) := by decide +kernel
theorem dX12_isPlayed_115 : decode cX12_isPlayed 115 = .ok (.goto (-41), 3) := by decide +kernel
theorem dX12_isPlayed_118 : decode cX12_isPlayed 118 = .ok (.iload 4, 2) := by decide +kernel
theorem dX12_isPlayed_120 : decode cX12_isPlayed 120 = .ok (.ifCond .lt 7, 3) := by decide +kernel
theorem dX12_isPlayed_123 : decode cX12_isPlayed 123 = .ok (.iconst 1, 1) := by decide +kernel
theorem dX12_isPlayed_124 : decode cX12_isPlayed 124 = .ok (.goto 4, 3) := by decide +kernel
theorem dX12_isPlayed_127 : decode cX12_isPlayed 127 = .ok (.iconst 0, 1) := by decide +kernel
theorem dX12_isPlayed_128 : decode cX12_isPlayed 128 = .ok (.ireturn, 1) := by decide +kernel
theorem dX12_isPlayed_129 : decode cX12_isPlayed 129 = .ok (.aload_n 0, 1) := by decide +kernel
theorem dX12_isPlayed_130 : decode cX12_isPlayed 130 = .ok (.invokevirtual 374, 3) := by decide +kernel
theorem dX12_isPlayed_133 : decode cX12_isPlayed 133 = .ok (.ifCond .lt 7, 3) := by decide +kernel
theorem dX12_isPlayed_136 : decode cX12_isPlayed 136 = .ok (.iconst 1, 1) := by decide +kernel
theorem dX12_isPlayed_137 : decode cX12_isPlayed 137 = .ok (.goto 4, 3) := by decide +kernel
theorem dX12_isPlayed_140 : decode cX12_isPlayed 140 = .ok (.iconst 0, 1) := by decide +kernel
theorem dX12_isPlayed_141 : decode cX12_isPlayed 141 = .ok (.ireturn, 1) := by decide +kernel
theorem dX12_isPlayed_142 : decode cX12_isPlayed 142 = .ok (.aload_n 0, 1) := by decide +kernel
theorem dX12_isPlayed_143 : decode cX12_isPlayed 143 = .ok (.iload_n 2, 1) := by decide +kernel
theorem dX12_isPlayed_144 : decode cX12_isPlayed 144 = .ok (.iload_n 3, 1) := by decide +kernel
theorem dX12_isPlayed_145 : decode cX12_isPlayed 145 = .ok (.invokevirtual 377, 3) := by decide +kernel
theorem dX12_isPlayed_148 : decode cX12_isPlayed 148 = .ok (.ifCond .lt 7, 3) := by decide +kernel
theorem dX12_isPlayed_151 : decode cX12_isPlayed 151 = .ok (.iconst 1, 1) := by decide +kernel
theorem dX12_isPlayed_152 : decode cX12_isPlayed 152 = .ok (.goto 4, 3) := by decide +kernel
theorem dX12_isPlayed_155 : decode cX12_isPlayed 155 = .ok (.iconst 0, 1) := by decide +kernel
theorem dX12_isPlayed_156 : decode cX12_isPlayed 156 = .ok (.ireturn, 1) := by decide +kernel
theorem dX12_isPlayed_157 : decode cX12_isPlayed 157 = .ok (.aload_n 0, 1) := by decide +kernel
theorem dX12_isPlayed_158 : decode cX12_isPlayed 158 = .ok (.iload_n 3, 1) := by decide +kernel
theorem dX12_isPlayed_159 : decode cX12_isPlayed 159 = .ok (.iload_n 2, 1) := by decide +kernel
theorem dX12_isPlayed_160 : decode cX12_isPlayed 160 = .ok (.invokevirtual 380, 3) := by decide +kernel
theorem dX12_isPlayed_163 : decode cX12_isPlayed 163 = .ok (.ireturn, 1) := by decide +kernel
theorem dX12_isPlayed_164 : decode cX12_isPlayed 164 = .ok (.aload_n 0, 1) := by decide +kernel
theorem dX12_isPlayed_165 : decode cX12_isPlayed 165 = .ok (.iload_n 3, 1) := by decide +kernel
theorem dX12_isPlayed_166 : decode cX12_isPlayed 166 = .ok (.iload_n 2, 1) := by decide +kernel
theorem dX12_isPlayed_167 : decode cX12_isPlayed 167 = .ok (.invokevirtual 383, 3) := by decide +kernel
theorem dX12_isPlayed_170 : decode cX12_isPlayed 170 = .ok (.ireturn, 1) := by decide +kernel
theorem dX12_isPlayed_171 : decode cX12_isPlayed 171 = .ok (.aload_n 0, 1) := by decide +kernel
theorem dX12_isPlayed_172 : decode cX12_isPlayed 172 = .ok (.iload_n 2, 1) := by decide +kernel
theorem dX12_isPlayed_173 : decode cX12_isPlayed 173 = .ok (.invokevirtual 368, 3) := by decide +kernel
theorem dX12_isPlayed_176 : decode cX12_isPlayed 176 = .ok (.ireturn, 1) := by decide +kernel
theorem dX12_isPlayed_177 : decode cX12_isPlayed 177 = .ok (.iconst 1, 1) := by decide +kernel
theorem dX12_isPlayed_178 : decode cX12_isPlayed 178 = .ok (.ireturn, 1) := by decide +kernel
def m12_isPlayed : pMT := (yX12_isPlayed, cX12_isPlayed, 6, some .boolean)
theorem mo12_isPlayed : mOK m12_isPlayed 1 := ⟨tb_i 1743 (by decide +kernel), wi_RX12, ⟨wn_RX12.1, wn_RX12.2, by decide +kernel⟩, by decide, plainFor_of_name wp_RX12⟩
theorem mv12_isPlayed : mV m12_isPlayed := ⟨tb_i 1742 (by decide +kernel), tb_p 111 (by decide +kernel)⟩
def f12_isPlayed_c74 (n : Nat) (O : (Nat → Nat → Option Nat)) : Nat → (Nat → Nat → Int32) → (Nat → Nat → Int64) → Nat → Int32 → Int32 → Int32 → Int32 → Option (Int32 × (Nat → Nat → Int32) × (Nat → Nat → Int64))
  | 0, _, _, _, _, _, _, _ => none
  | m + 1, I, L, b0, y1, y2, y4, y5 => (if y2 ≤ y5 then (if y4 < 0 then some ((0 : Int32), I, L) else some ((1 : Int32), I, L)) else (if y4 < 0 then (if y4 < 0 then some ((0 : Int32), I, L) else some ((1 : Int32), I, L)) else (if ((y1 + 2) + y5) < 0 ∨ 4260 ≤ ((y1 + 2) + y5).toNatClampNeg then none else (if (((119 : Int32) + ((16 : Int32) * y4)) + y5) < 0 ∨ 4371 ≤ (((119 : Int32) + ((16 : Int32) * y4)) + y5).toNatClampNeg then none else bl (sI I (rO O b0 0) (((119 : Int32) + ((16 : Int32) * y4)) + y5).toNatClampNeg (I (rO O b0 2) ((y1 + 2) + y5).toNatClampNeg)) fun I9 => f12_isPlayed_c74 n O m I9 L b0 y1 y2 y4 (y5 + 1)))))
set_option maxHeartbeats 4000000 in
set_option maxRecDepth 20000 in
theorem o12_isPlayed_c74 {g : pG} {Qx : Option Value → pW → Prop} {Z : pZ} {O : (Nat → Nat → Option Nat)} {n : Nat} {res : Int32 × (Nat → Nat → Int32) × (Nat → Nat → Int64)} (d : Nat) (hW : WT Z O) (hQ : (res.1 = 0 ∨ res.1 = 1) → Qx (some (.int res.1)) (Z, res.2.1, res.2.2, O)) : ∀ (m : Nat) (I : (Nat → Nat → Int32)) (L : (Nat → Nat → Int64)) (b0 : Nat) (y1 : Int32) (y2 : Int32) (y4 : Int32) (y5 : Int32), (Z[b0]? = some (12, 34)) → f12_isPlayed_c74 n O m I L b0 y1 y2 y4 y5 = some res → Ok g (d + 12, RX12, cX12_isPlayed, 6, false, 0, 0, Z.length, pSl Z) Qx 74 [(0, .ref b0), (1, .int y1), (2, .int y2), (4, .int y4), (5, .int y5)] [] (Z, I, L, O) := by
  intro m
  induction m with
  | zero => intro I L b0 y1 y2 y4 y5 hZ_b0 h; rw [f12_isPlayed_c74] at h; cases h
  | succ m ih =>
    intro I L b0 y1 y2 y4 y5 hZ_b0 h
    rw [f12_isPlayed_c74] at h
    refine ok_iload dX12_isPlayed_74 4 rfl ?_
    refine ok_iload_n dX12_isPlayed_76 2 rfl ?_
    refine ok_icmp_ge (t := 118) dX12_isPlayed_77 (by decide) (fun hc1 => ?_) (fun hc1 => ?_)
    · have h := (if_pos hc1).symm.trans h
      refine ok_iload dX12_isPlayed_118 3 rfl ?_
      refine ok_if_lt (t := 127) dX12_isPlayed_120 (by decide) (fun hc2 => ?_) (fun hc2 => ?_)
      · have h := (if_pos hc2).symm.trans h
        refine ok_iconst (v := 0) dX12_isPlayed_127 (by decide) ?_
        cases h
        exact ok_iret dX12_isPlayed_128 (hQ (Or.inl rfl))
      · have h := (if_neg hc2).symm.trans h
        refine ok_iconst (v := 1) dX12_isPlayed_123 (by decide) ?_
        refine ok_goto (t := 128) dX12_isPlayed_124 (by decide) ?_
        cases h
        exact ok_iret dX12_isPlayed_128 (hQ (Or.inr rfl))
    · have h := (if_neg hc1).symm.trans h
      refine ok_iload dX12_isPlayed_80 3 rfl ?_
      refine ok_if_lt (t := 118) dX12_isPlayed_82 (by decide) (fun hc3 => ?_) (fun hc3 => ?_)
      · have h := (if_pos hc3).symm.trans h
        refine ok_iload dX12_isPlayed_118 3 rfl ?_
        refine ok_if_lt (t := 127) dX12_isPlayed_120 (by decide) (fun hc4 => ?_) (fun hc4 => ?_)
        · have h := (if_pos hc4).symm.trans h
          refine ok_iconst (v := 0) dX12_isPlayed_127 (by decide) ?_
          cases h
          exact ok_iret dX12_isPlayed_128 (hQ (Or.inl rfl))
        · have h := (if_neg hc4).symm.trans h
          refine ok_iconst (v := 1) dX12_isPlayed_123 (by decide) ?_
          refine ok_goto (t := 128) dX12_isPlayed_124 (by decide) ?_
          cases h
          exact ok_iret dX12_isPlayed_128 (hQ (Or.inr rfl))
      · have h := (if_neg hc3).symm.trans h
        refine ok_aload_n dX12_isPlayed_85 0 rfl ?_
        have hT5 : Z[(rO O b0 0)]? = some (13, 4371) := (wt_f (ci := 12) (k := 0) hW hZ_b0 rfl).2
        refine ok_getR (ci := 12) (k := 0) dX12_isPlayed_86 flRX12_7 rfl hW hZ_b0 (by decide) ?_
        refine ok_bipush (v := 119) dX12_isPlayed_89 (by decide) ?_
        refine ok_bipush (v := 16) dX12_isPlayed_91 (by decide) ?_
        refine ok_iload dX12_isPlayed_93 3 rfl ?_
        refine ok_imul dX12_isPlayed_95 ?_
        refine ok_iadd dX12_isPlayed_96 ?_
        refine ok_iload dX12_isPlayed_97 4 rfl ?_
        refine ok_iadd dX12_isPlayed_99 ?_
        refine ok_aload_n dX12_isPlayed_100 0 rfl ?_
        have hT6 : Z[(rO O b0 2)]? = some (13, 4260) := (wt_f (ci := 12) (k := 2) hW hZ_b0 rfl).2
        refine ok_getR (ci := 12) (k := 2) dX12_isPlayed_101 flRX12_16 rfl hW hZ_b0 (by decide) ?_
        refine ok_iload_n dX12_isPlayed_104 1 rfl ?_
        refine ok_iconst (v := 2) dX12_isPlayed_105 (by decide) ?_
        refine ok_iadd dX12_isPlayed_106 ?_
        refine ok_iload dX12_isPlayed_107 4 rfl ?_
        refine ok_iadd dX12_isPlayed_109 ?_
        obtain ⟨hg7, h⟩ := gd h
        refine ok_iald2 (N := ((y1 + 2) + y5).toNatClampNeg) dX12_isPlayed_110 hT6 hg7 rfl ?_
        obtain ⟨hg8, h⟩ := gd h
        obtain ⟨I9, eI9, h⟩ := blE h
        refine ok_iast3 dX12_isPlayed_111 hT5 hg8 rfl eI9 ?_
        refine ok_iinc (u := (y5 + 1)) (l' := [(5, .int (y5 + 1)), (0, .ref b0), (1, .int y1), (2, .int y2), (4, .int y4)]) dX12_isPlayed_112 4 rfl rfl (Nat.le_of_ble_eq_true rfl) rfl ?_
        refine ok_goto (t := 74) dX12_isPlayed_115 (by decide) ?_
        refine ok_sub [1, 2, 3, 4, 0] rfl ?_
        exact ih I9 L b0 y1 y2 y4 (y5 + 1) hZ_b0 h
def f12_isPlayed (n : Nat) (I : (Nat → Nat → Int32)) (L : (Nat → Nat → Int64)) (O : (Nat → Nat → Option Nat)) (a0 : Nat) (x1 : Int32) : Option (Int32 × (Nat → Nat → Int32) × (Nat → Nat → Int64)) := (if (x1 + 1) < 0 ∨ 4260 ≤ (x1 + 1).toNatClampNeg then none else bl ((I (rO O a0 2) (x1 + 1).toNatClampNeg) : Int32) fun z3 => (if (x1 + 2) < 0 ∨ 4260 ≤ (x1 + 2).toNatClampNeg then none else bl ((I (rO O a0 2) (x1 + 2).toNatClampNeg) : Int32) fun z5 => (if x1 < 0 ∨ 4260 ≤ x1.toNatClampNeg then none else (if (I (rO O a0 2) x1.toNatClampNeg) = 3 then (f12_roll I O a0 z3).bind fun r8 => f12_isPlayed_c74 n O n r8.2 L a0 x1 z3 r8.1 (0 : Int32) else (if (I (rO O a0 2) x1.toNatClampNeg) = 4 then (f12_child I O a0).bind fun r11 => (if r11.1 < 0 then some ((0 : Int32), r11.2, L) else some ((1 : Int32), r11.2, L)) else (if (I (rO O a0 2) x1.toNatClampNeg) = 5 then (f12_play n I L O a0 z3 z5).bind fun r15 => (if r15.1 < 0 then some ((0 : Int32), r15.2.1, r15.2.2) else some ((1 : Int32), r15.2.1, r15.2.2)) else (if (I (rO O a0 2) x1.toNatClampNeg) = 6 then (f12_patch n I O a0 z5 z3).bind fun r19 => some (r19.1, r19.2, L) else (if (I (rO O a0 2) x1.toNatClampNeg) = 7 then (f12_forget n I O a0 z5 z3).bind fun r22 => some (r22.1, r22.2, L) else (if (I (rO O a0 2) x1.toNatClampNeg) = 8 then (f12_arePassed n I L O a0 z3).bind fun r25 => some (r25.1, r25.2.1, r25.2.2) else some ((1 : Int32), I, L))))))))))
set_option maxHeartbeats 4000000 in
set_option maxRecDepth 20000 in
theorem o12_isPlayed {g : pG} {Qx : Option Value → pW → Prop} {Z : pZ} {I : (Nat → Nat → Int32)} {L : (Nat → Nat → Int64)} {O : (Nat → Nat → Option Nat)} {n : Nat} {a0 : Nat} {x1 : Int32} {res : Int32 × (Nat → Nat → Int32) × (Nat → Nat → Int64)} (d : Nat) (hW : WT Z O) (hZ0 : Z[a0]? = some (12, 34)) (h : f12_isPlayed n I L O a0 x1 = some res) (hQ : (res.1 = 0 ∨ res.1 = 1) → Qx (some (.int res.1)) (Z, res.2.1, res.2.2, O)) : Ok g (d + 12, RX12, cX12_isPlayed, 6, false, 0, 0, Z.length, pSl Z) Qx 0 [(0, .ref a0), (1, .int x1)] [] (Z, I, L, O) := by
  unfold f12_isPlayed at h
  refine ok_aload_n dX12_isPlayed_0 0 rfl ?_
  have hT1 : Z[(rO O a0 2)]? = some (13, 4260) := (wt_f (ci := 12) (k := 2) hW hZ0 rfl).2
  refine ok_getR (ci := 12) (k := 2) dX12_isPlayed_1 flRX12_16 rfl hW hZ0 (by decide) ?_
  refine ok_iload_n dX12_isPlayed_4 1 rfl ?_
  refine ok_iconst (v := 1) dX12_isPlayed_5 (by decide) ?_
  refine ok_iadd dX12_isPlayed_6 ?_
  obtain ⟨hg2, h⟩ := gd h
  refine ok_iald2 (N := (x1 + 1).toNatClampNeg) dX12_isPlayed_7 hT1 hg2 rfl ?_
  obtain ⟨z3, ez3, h⟩ := blE h
  refine ok_nm ez3 ?_
  refine ok_istore_n (l' := [(2, .int z3), (0, .ref a0), (1, .int x1)]) dX12_isPlayed_8 rfl (Nat.le_of_ble_eq_true rfl) rfl ?_
  refine ok_aload_n dX12_isPlayed_9 1 rfl ?_
  refine ok_getR (ci := 12) (k := 2) dX12_isPlayed_10 flRX12_16 rfl hW hZ0 (by decide) ?_
  refine ok_iload_n dX12_isPlayed_13 2 rfl ?_
  refine ok_iconst (v := 2) dX12_isPlayed_14 (by decide) ?_
  refine ok_iadd dX12_isPlayed_15 ?_
  obtain ⟨hg4, h⟩ := gd h
  refine ok_iald2 (N := (x1 + 2).toNatClampNeg) dX12_isPlayed_16 hT1 hg4 rfl ?_
  obtain ⟨z5, ez5, h⟩ := blE h
  refine ok_nm ez5 ?_
  refine ok_istore_n (l' := [(3, .int z5), (2, .int z3), (0, .ref a0), (1, .int x1)]) dX12_isPlayed_17 rfl (Nat.le_of_ble_eq_true rfl) rfl ?_
  refine ok_aload_n dX12_isPlayed_18 2 rfl ?_
  refine ok_getR (ci := 12) (k := 2) dX12_isPlayed_19 flRX12_16 rfl hW hZ0 (by decide) ?_
  refine ok_iload_n dX12_isPlayed_22 3 rfl ?_
  obtain ⟨hg6, h⟩ := gd h
  refine ok_iald2 (N := x1.toNatClampNeg) dX12_isPlayed_23 hT1 hg6 rfl ?_
  by_cases hc7 : (I (rO O a0 2) x1.toNatClampNeg) = 3
  · have h := (if_pos hc7).symm.trans h
    refine ok_tabEq (t := 64) (off := 40) dX12_isPlayed_24 hc7 (by decide) (by decide) (by decide) (by decide) ?_
    refine ok_aload_n dX12_isPlayed_64 2 rfl ?_
    refine ok_iload_n dX12_isPlayed_65 1 rfl ?_
    obtain ⟨r8, hr9, h⟩ := bd h
    refine ok_callV (d := ((d + 8) + 3)) (mt := m12_roll) (mc := 0) (ms := 0) (As := [.int z3]) (r := []) dX12_isPlayed_66 mo12_roll mv12_roll lkRX12_371 rfl hZ0 (q := (RX12, TX12, 34)) rfl rfl rfl (Nat.le_of_ble_eq_true rfl) (by show _ + 1 ≤ d + _; omega) (Nat.le_refl _) (Nat.le_refl _) (pRt_mono ?_)
    refine k12_roll (d + 8) hW hZ0 hr9 ?_
    intro _
    show Ok g _ Qx 69 [(3, .int z5), (2, .int z3), (0, .ref a0), (1, .int x1)] [.int r8.1] (Z, r8.2, L, O)
    refine ok_istore (l' := [(4, .int r8.1), (3, .int z5), (2, .int z3), (0, .ref a0), (1, .int x1)]) dX12_isPlayed_69 (Nat.le_of_ble_eq_true rfl) rfl ?_
    refine ok_iconst (v := 0) dX12_isPlayed_71 (by decide) ?_
    refine ok_istore (l' := [(5, .int 0), (4, .int r8.1), (3, .int z5), (2, .int z3), (0, .ref a0), (1, .int x1)]) dX12_isPlayed_72 (Nat.le_of_ble_eq_true rfl) rfl ?_
    refine ok_sub [4, 5, 3, 1, 0] rfl ?_
    exact o12_isPlayed_c74 d hW hQ  n r8.2 L a0 x1 z3 r8.1 (0 : Int32) hZ0 h
  · have h := (if_neg hc7).symm.trans h
    by_cases hc10 : (I (rO O a0 2) x1.toNatClampNeg) = 4
    · have h := (if_pos hc10).symm.trans h
      refine ok_tabEq (t := 129) (off := 105) dX12_isPlayed_24 hc10 (by decide) (by decide) (by decide) (by decide) ?_
      refine ok_aload_n dX12_isPlayed_129 2 rfl ?_
      obtain ⟨r11, hr12, h⟩ := bd h
      refine ok_callV (d := ((d + 9) + 2)) (mt := m12_child) (mc := 0) (ms := 0) (As := []) (r := []) dX12_isPlayed_130 mo12_child mv12_child lkRX12_374 rfl hZ0 (q := (RX12, TX12, 34)) rfl rfl rfl (Nat.le_of_ble_eq_true rfl) (by show _ + 1 ≤ d + _; omega) (Nat.le_refl _) (Nat.le_refl _) (pRt_mono ?_)
      refine k12_child (d + 9) hW hZ0 hr12 ?_
      intro _
      show Ok g _ Qx 133 [(3, .int z5), (2, .int z3), (0, .ref a0), (1, .int x1)] [.int r11.1] (Z, r11.2, L, O)
      refine ok_if_lt (t := 140) dX12_isPlayed_133 (by decide) (fun hc13 => ?_) (fun hc13 => ?_)
      · have h := (if_pos hc13).symm.trans h
        refine ok_iconst (v := 0) dX12_isPlayed_140 (by decide) ?_
        cases h
        exact ok_iret dX12_isPlayed_141 (hQ (Or.inl rfl))
      · have h := (if_neg hc13).symm.trans h
        refine ok_iconst (v := 1) dX12_isPlayed_136 (by decide) ?_
        refine ok_goto (t := 141) dX12_isPlayed_137 (by decide) ?_
        cases h
        exact ok_iret dX12_isPlayed_141 (hQ (Or.inr rfl))
    · have h := (if_neg hc10).symm.trans h
      by_cases hc14 : (I (rO O a0 2) x1.toNatClampNeg) = 5
      · have h := (if_pos hc14).symm.trans h
        refine ok_tabEq (t := 142) (off := 118) dX12_isPlayed_24 hc14 (by decide) (by decide) (by decide) (by decide) ?_
        refine ok_aload_n dX12_isPlayed_142 2 rfl ?_
        refine ok_iload_n dX12_isPlayed_143 1 rfl ?_
        refine ok_iload_n dX12_isPlayed_144 0 rfl ?_
        obtain ⟨r15, hr16, h⟩ := bd h
        refine ok_callV (d := ((d + 1) + 10)) (mt := m12_play) (mc := 0) (ms := 0) (As := [.int z3, .int z5]) (r := []) dX12_isPlayed_145 mo12_play mv12_play lkRX12_377 rfl hZ0 (q := (RX12, TX12, 34)) rfl rfl rfl (Nat.le_of_ble_eq_true rfl) (by show _ + 1 ≤ d + _; omega) (Nat.le_refl _) (Nat.le_refl _) (pRt_mono ?_)
        refine k12_play (d + 1) hW hZ0 hr16 ?_
        intro _
        show Ok g _ Qx 148 [(3, .int z5), (2, .int z3), (0, .ref a0), (1, .int x1)] [.int r15.1] (Z, r15.2.1, r15.2.2, O)
        refine ok_if_lt (t := 155) dX12_isPlayed_148 (by decide) (fun hc17 => ?_) (fun hc17 => ?_)
        · have h := (if_pos hc17).symm.trans h
          refine ok_iconst (v := 0) dX12_isPlayed_155 (by decide) ?_
          cases h
          exact ok_iret dX12_isPlayed_156 (hQ (Or.inl rfl))
        · have h := (if_neg hc17).symm.trans h
          refine ok_iconst (v := 1) dX12_isPlayed_151 (by decide) ?_
          refine ok_goto (t := 156) dX12_isPlayed_152 (by decide) ?_
          cases h
          exact ok_iret dX12_isPlayed_156 (hQ (Or.inr rfl))
      · have h := (if_neg hc14).symm.trans h
        by_cases hc18 : (I (rO O a0 2) x1.toNatClampNeg) = 6
        · have h := (if_pos hc18).symm.trans h
          refine ok_tabEq (t := 157) (off := 133) dX12_isPlayed_24 hc18 (by decide) (by decide) (by decide) (by decide) ?_
          refine ok_aload_n dX12_isPlayed_157 2 rfl ?_
          refine ok_iload_n dX12_isPlayed_158 0 rfl ?_
          refine ok_iload_n dX12_isPlayed_159 1 rfl ?_
          obtain ⟨r19, hr20, h⟩ := bd h
          refine ok_callV (d := ((d + 5) + 6)) (mt := m12_patch) (mc := 0) (ms := 0) (As := [.int z5, .int z3]) (r := []) dX12_isPlayed_160 mo12_patch mv12_patch lkRX12_380 rfl hZ0 (q := (RX12, TX12, 34)) rfl rfl rfl (Nat.le_of_ble_eq_true rfl) (by show _ + 1 ≤ d + _; omega) (Nat.le_refl _) (Nat.le_refl _) (pRt_mono ?_)
          refine k12_patch (d + 5) hW hZ0 hr20 ?_
          intro hbr19
          show Ok g _ Qx 163 [(3, .int z5), (2, .int z3), (0, .ref a0), (1, .int x1)] [.int r19.1] (Z, r19.2, L, O)
          cases h
          exact ok_iret dX12_isPlayed_163 (hQ hbr19)
        · have h := (if_neg hc18).symm.trans h
          by_cases hc21 : (I (rO O a0 2) x1.toNatClampNeg) = 7
          · have h := (if_pos hc21).symm.trans h
            refine ok_tabEq (t := 164) (off := 140) dX12_isPlayed_24 hc21 (by decide) (by decide) (by decide) (by decide) ?_
            refine ok_aload_n dX12_isPlayed_164 2 rfl ?_
            refine ok_iload_n dX12_isPlayed_165 0 rfl ?_
            refine ok_iload_n dX12_isPlayed_166 1 rfl ?_
            obtain ⟨r22, hr23, h⟩ := bd h
            refine ok_callV (d := ((d + 6) + 5)) (mt := m12_forget) (mc := 0) (ms := 0) (As := [.int z5, .int z3]) (r := []) dX12_isPlayed_167 mo12_forget mv12_forget lkRX12_383 rfl hZ0 (q := (RX12, TX12, 34)) rfl rfl rfl (Nat.le_of_ble_eq_true rfl) (by show _ + 1 ≤ d + _; omega) (Nat.le_refl _) (Nat.le_refl _) (pRt_mono ?_)
            refine k12_forget (d + 6) hW hZ0 hr23 ?_
            intro hbr22
            show Ok g _ Qx 170 [(3, .int z5), (2, .int z3), (0, .ref a0), (1, .int x1)] [.int r22.1] (Z, r22.2, L, O)
            cases h
            exact ok_iret dX12_isPlayed_170 (hQ hbr22)
          · have h := (if_neg hc21).symm.trans h
            by_cases hc24 : (I (rO O a0 2) x1.toNatClampNeg) = 8
            · have h := (if_pos hc24).symm.trans h
              refine ok_tabEq (t := 171) (off := 147) dX12_isPlayed_24 hc24 (by decide) (by decide) (by decide) (by decide) ?_
              refine ok_aload_n dX12_isPlayed_171 2 rfl ?_
              refine ok_iload_n dX12_isPlayed_172 1 rfl ?_
              obtain ⟨r25, hr26, h⟩ := bd h
              refine ok_callV (d := ((d + 0) + 11)) (mt := m12_arePassed) (mc := 0) (ms := 0) (As := [.int z3]) (r := []) dX12_isPlayed_173 mo12_arePassed mv12_arePassed lkRX12_368 rfl hZ0 (q := (RX12, TX12, 34)) rfl rfl rfl (Nat.le_of_ble_eq_true rfl) (by show _ + 1 ≤ d + _; omega) (Nat.le_refl _) (Nat.le_refl _) (pRt_mono ?_)
              refine k12_arePassed (d + 0) hW hZ0 hr26 ?_
              intro hbr25
              show Ok g _ Qx 176 [(3, .int z5), (2, .int z3), (0, .ref a0), (1, .int x1)] [.int r25.1] (Z, r25.2.1, r25.2.2, O)
              cases h
              exact ok_iret dX12_isPlayed_176 (hQ hbr25)
            · have h := (if_neg hc24).symm.trans h
              refine ok_tabOut (t := 177) dX12_isPlayed_24 (by have n3 := neI hc7 (a := 3) (by decide); have n4 := neI hc10 (a := 4) (by decide); have n5 := neI hc14 (a := 5) (by decide); have n6 := neI hc18 (a := 6) (by decide); have n7 := neI hc21 (a := 7) (by decide); have n8 := neI hc24 (a := 8) (by decide); omega) (by decide) ?_
              refine ok_iconst (v := 1) dX12_isPlayed_177 (by decide) ?_
              cases h
              exact ok_iret dX12_isPlayed_178 (hQ (Or.inr rfl))
theorem k12_isPlayed {g : pG} {Q : Option Value → pW → Prop} {Z : pZ} {I : (Nat → Nat → Int32)} {L : (Nat → Nat → Int64)} {O : (Nat → Nat → Option Nat)} {n : Nat} {a0 : Nat} {x1 : Int32} {res : Int32 × (Nat → Nat → Int32) × (Nat → Nat → Int64)} (d : Nat) (hW : WT Z O) (hZ0 : Z[a0]? = some (12, 34)) (h : f12_isPlayed n I L O a0 x1 = some res) (hQ : Q (some (.int res.1)) (Z, res.2.1, res.2.2, O)) : CT g (d + 12) m12_isPlayed 0 0 [.ref a0, .int x1] (Z, I, L, O) Q :=
  ct_of_ok (mt := m12_isPlayed) (ini := false) mo12_isPlayed.2.2.2.2 (fun h => by cases h) (Nat.le_of_ble_eq_true rfl) (o12_isPlayed d hW hZ0 h (fun hb => ⟨hb, hQ, rfl, rfl⟩))
theorem dX12_played_0 : decode cX12_played 0 = .ok (.iload_n 1, 1) := by decide +kernel
theorem dX12_played_1 : decode cX12_played 1 = .ok (.iconst 0, 1) := by decide +kernel
theorem dX12_played_2 : decode cX12_played 2 = .ok (.aload_n 0, 1) := by decide +kernel
theorem dX12_played_3 : decode cX12_played 3 = .ok (.getfield 7, 3) := by decide +kernel
theorem dX12_played_6 : decode cX12_played 6 = .ok (.iconst 2, 1) := by decide +kernel
theorem dX12_played_7 : decode cX12_played 7 = .ok (.iaload, 1) := by decide +kernel
theorem dX12_played_8 : decode cX12_played 8 = .ok (.iconst 1, 1) := by decide +kernel
theorem dX12_played_9 : decode cX12_played 9 = .ok (.isub, 1) := by decide +kernel
theorem dX12_played_10 : decode cX12_played 10 = .ok (.invokestatic 75, 3) := by decide +kernel
theorem dX12_played_13 : decode cX12_played 13 = .ok (.ifCond .ne 6, 3) := by decide +kernel
theorem dX12_played_16 : decode cX12_played 16 = .ok (.bipush (-2), 2) := by decide +kernel
theorem dX12_played_18 : decode cX12_played 18 = .ok (.ireturn, 1) := by decide +kernel
theorem dX12_played_19 : decode cX12_played 19 = .ok (.iconst 0, 1) := by decide +kernel
theorem dX12_played_20 : decode cX12_played 20 = .ok (.istore_n 2, 1) := by decide +kernel
theorem dX12_played_21 : decode cX12_played 21 = .ok (.iload_n 2, 1) := by decide +kernel
theorem dX12_played_22 : decode cX12_played 22 = .ok (.aload_n 0, 1) := by decide +kernel
theorem dX12_played_23 : decode cX12_played 23 = .ok (.getfield 16, 3) := by decide +kernel
theorem dX12_played_26 : decode cX12_played 26 = .ok (.sipush 1065, 3) := by decide +kernel
theorem dX12_played_29 : decode cX12_played 29 = .ok (.iload_n 1, 1) := by decide +kernel
theorem dX12_played_30 : decode cX12_played 30 = .ok (.imul, 1) := by decide +kernel
theorem dX12_played_31 : decode cX12_played 31 = .ok (.iaload, 1) := by decide +kernel
theorem dX12_played_32 : decode cX12_played 32 = .ok (.if_icmp .ge 30, 3) := by decide +kernel
theorem dX12_played_35 : decode cX12_played 35 = .ok (.aload_n 0, 1) := by decide +kernel
theorem dX12_played_36 : decode cX12_played 36 = .ok (.sipush 1065, 3) := by decide +kernel
theorem dX12_played_39 : decode cX12_played 39 = .ok (.iload_n 1, 1) := by decide +kernel
theorem dX12_played_40 : decode cX12_played 40 = .ok (.imul, 1) := by decide +kernel
theorem dX12_played_41 : decode cX12_played 41 = .ok (.iconst 1, 1) := by decide +kernel
theorem dX12_played_42 : decode cX12_played 42 = .ok (.iadd, 1) := by decide +kernel
theorem dX12_played_43 : decode cX12_played 43 = .ok (.bipush 19, 2) := by decide +kernel
theorem dX12_played_45 : decode cX12_played 45 = .ok (.iload_n 2, 1) := by decide +kernel
theorem dX12_played_46 : decode cX12_played 46 = .ok (.imul, 1) := by decide +kernel
theorem dX12_played_47 : decode cX12_played 47 = .ok (.iadd, 1) := by decide +kernel
theorem dX12_played_48 : decode cX12_played 48 = .ok (.invokevirtual 386, 3) := by decide +kernel
theorem dX12_played_51 : decode cX12_played 51 = .ok (.ifCond .ne 5, 3) := by decide +kernel
theorem dX12_played_54 : decode cX12_played 54 = .ok (.iload_n 2, 1) := by decide +kernel
theorem dX12_played_55 : decode cX12_played 55 = .ok (.ireturn, 1) := by decide +kernel
theorem dX12_played_56 : decode cX12_played 56 = .ok (.iinc 2 1, 3) := by decide +kernel
theorem dX12_played_59 : decode cX12_played 59 = .ok (.goto (-38), 3) := by decide +kernel
theorem dX12_played_62 : decode cX12_played 62 = .ok (.iconst (-1), 1) := by decide +kernel
theorem dX12_played_63 : decode cX12_played 63 = .ok (.ireturn, 1) := by decide +kernel
def m12_played : pMT := (yX12_played, cX12_played, 3, some .int)
theorem mo12_played : mOK m12_played 1 := ⟨tb_i 1739 (by decide +kernel), wi_RX12, ⟨wn_RX12.1, wn_RX12.2, by decide +kernel⟩, by decide, plainFor_of_name wp_RX12⟩
theorem mv12_played : mV m12_played := ⟨tb_i 1737 (by decide +kernel), tb_i 1738 (by decide +kernel)⟩
def f12_played_c21 (n : Nat) (O : (Nat → Nat → Option Nat)) : Nat → (Nat → Nat → Int32) → (Nat → Nat → Int64) → Nat → Int32 → Int32 → Option (Int32 × (Nat → Nat → Int32) × (Nat → Nat → Int64))
  | 0, _, _, _, _, _ => none
  | m + 1, I, L, b0, y1, y2 => (if ((1065 : Int32) * y1) < 0 ∨ 4260 ≤ ((1065 : Int32) * y1).toNatClampNeg then none else (if (I (rO O b0 2) ((1065 : Int32) * y1).toNatClampNeg) ≤ y2 then some (((-1) : Int32), I, L) else (f12_isPlayed n I L O b0 ((((1065 : Int32) * y1) + 1) + ((19 : Int32) * y2))).bind fun r4 => (if r4.1 = 0 then some (y2, r4.2.1, r4.2.2) else f12_played_c21 n O m r4.2.1 r4.2.2 b0 y1 (y2 + 1))))
set_option maxHeartbeats 4000000 in
set_option maxRecDepth 20000 in
theorem o12_played_c21 {g : pG} {Qx : Option Value → pW → Prop} {Z : pZ} {O : (Nat → Nat → Option Nat)} {n : Nat} {res : Int32 × (Nat → Nat → Int32) × (Nat → Nat → Int64)} (d : Nat) (hW : WT Z O) (hQ : Qx (some (.int res.1)) (Z, res.2.1, res.2.2, O)) : ∀ (m : Nat) (I : (Nat → Nat → Int32)) (L : (Nat → Nat → Int64)) (b0 : Nat) (y1 : Int32) (y2 : Int32), (Z[b0]? = some (12, 34)) → f12_played_c21 n O m I L b0 y1 y2 = some res → Ok g (d + 13, RX12, cX12_played, 3, false, 0, 0, Z.length, pSl Z) Qx 21 [(0, .ref b0), (1, .int y1), (2, .int y2)] [] (Z, I, L, O) := by
  intro m
  induction m with
  | zero => intro I L b0 y1 y2 hZ_b0 h; rw [f12_played_c21] at h; cases h
  | succ m ih =>
    intro I L b0 y1 y2 hZ_b0 h
    rw [f12_played_c21] at h
    refine ok_iload_n dX12_played_21 2 rfl ?_
    refine ok_aload_n dX12_played_22 0 rfl ?_
    have hT1 : Z[(rO O b0 2)]? = some (13, 4260) := (wt_f (ci := 12) (k := 2) hW hZ_b0 rfl).2
    refine ok_getR (ci := 12) (k := 2) dX12_played_23 flRX12_16 rfl hW hZ_b0 (by decide) ?_
    refine ok_sipush (v := 1065) dX12_played_26 (by decide) ?_
    refine ok_iload_n dX12_played_29 1 rfl ?_
    refine ok_imul dX12_played_30 ?_
    obtain ⟨hg2, h⟩ := gd h
    refine ok_iald2 (N := ((1065 : Int32) * y1).toNatClampNeg) dX12_played_31 hT1 hg2 rfl ?_
    refine ok_icmp_ge (t := 62) dX12_played_32 (by decide) (fun hc3 => ?_) (fun hc3 => ?_)
    · have h := (if_pos hc3).symm.trans h
      refine ok_iconst (v := (-1)) dX12_played_62 (by decide) ?_
      cases h
      exact ok_iret dX12_played_63 hQ
    · have h := (if_neg hc3).symm.trans h
      refine ok_aload_n dX12_played_35 0 rfl ?_
      refine ok_sipush (v := 1065) dX12_played_36 (by decide) ?_
      refine ok_iload_n dX12_played_39 1 rfl ?_
      refine ok_imul dX12_played_40 ?_
      refine ok_iconst (v := 1) dX12_played_41 (by decide) ?_
      refine ok_iadd dX12_played_42 ?_
      refine ok_bipush (v := 19) dX12_played_43 (by decide) ?_
      refine ok_iload_n dX12_played_45 2 rfl ?_
      refine ok_imul dX12_played_46 ?_
      refine ok_iadd dX12_played_47 ?_
      obtain ⟨r4, hr5, h⟩ := bd h
      refine ok_callV (d := ((d + 0) + 12)) (mt := m12_isPlayed) (mc := 0) (ms := 0) (As := [.int ((((1065 : Int32) * y1) + 1) + ((19 : Int32) * y2))]) (r := []) dX12_played_48 mo12_isPlayed mv12_isPlayed lkRX12_386 rfl hZ_b0 (q := (RX12, TX12, 34)) rfl rfl rfl (Nat.le_of_ble_eq_true rfl) (by show _ + 1 ≤ d + _; omega) (Nat.le_refl _) (Nat.le_refl _) (pRt_mono ?_)
      refine k12_isPlayed (d + 0) hW hZ_b0 hr5 ?_
      intro hbr4
      show Ok g _ Qx 51 [(0, .ref b0), (1, .int y1), (2, .int y2)] [.int r4.1] (Z, r4.2.1, r4.2.2, O)
      refine ok_if_ne (t := 56) dX12_played_51 (by decide) (fun hc6 => ?_) (fun hc6 => ?_)
      · have h := (if_neg hc6).symm.trans h
        refine ok_iinc (u := (y2 + 1)) (l' := [(2, .int (y2 + 1)), (0, .ref b0), (1, .int y1)]) dX12_played_56 2 rfl rfl (Nat.le_of_ble_eq_true rfl) rfl ?_
        refine ok_goto (t := 21) dX12_played_59 (by decide) ?_
        refine ok_sub [1, 2, 0] rfl ?_
        exact ih r4.2.1 r4.2.2 b0 y1 (y2 + 1) hZ_b0 h
      · have h := (if_pos hc6).symm.trans h
        refine ok_iload_n dX12_played_54 2 rfl ?_
        cases h
        exact ok_iret dX12_played_55 hQ
def f12_played (n : Nat) (I : (Nat → Nat → Int32)) (L : (Nat → Nat → Int64)) (O : (Nat → Nat → Option Nat)) (a0 : Nat) (x1 : Int32) : Option (Int32 × (Nat → Nat → Int32) × (Nat → Nat → Int64)) := (f12_isIn x1 (0 : Int32) ((I (rO O a0 0) 2) - 1)).bind fun r2 => (if r2 = 0 then some (((-2) : Int32), I, L) else f12_played_c21 n O n I L a0 x1 (0 : Int32))
set_option maxHeartbeats 4000000 in
set_option maxRecDepth 20000 in
theorem o12_played {g : pG} {Qx : Option Value → pW → Prop} {Z : pZ} {I : (Nat → Nat → Int32)} {L : (Nat → Nat → Int64)} {O : (Nat → Nat → Option Nat)} {n : Nat} {a0 : Nat} {x1 : Int32} {res : Int32 × (Nat → Nat → Int32) × (Nat → Nat → Int64)} (d : Nat) (hW : WT Z O) (hZ0 : Z[a0]? = some (12, 34)) (h : f12_played n I L O a0 x1 = some res) (hQ : Qx (some (.int res.1)) (Z, res.2.1, res.2.2, O)) : Ok g (d + 13, RX12, cX12_played, 3, false, 0, 0, Z.length, pSl Z) Qx 0 [(0, .ref a0), (1, .int x1)] [] (Z, I, L, O) := by
  unfold f12_played at h
  refine ok_iload_n dX12_played_0 1 rfl ?_
  refine ok_iconst (v := 0) dX12_played_1 (by decide) ?_
  refine ok_aload_n dX12_played_2 0 rfl ?_
  have hT1 : Z[(rO O a0 0)]? = some (13, 4371) := (wt_f (ci := 12) (k := 0) hW hZ0 rfl).2
  refine ok_getR (ci := 12) (k := 0) dX12_played_3 flRX12_7 rfl hW hZ0 (by decide) ?_
  refine ok_iconst (v := 2) dX12_played_6 (by decide) ?_
  refine ok_iald2 (N := 2) dX12_played_7 hT1 (by unfold vp_in; decide) (by decide) ?_
  refine ok_iconst (v := 1) dX12_played_8 (by decide) ?_
  refine ok_isub dX12_played_9 ?_
  obtain ⟨r2, hr3, h⟩ := bd h
  refine ok_callS (d := ((d + 10) + 2)) (mt := m12_isIn) (mc := 0) (ms := 0) (As := [.int x1, .int 0, .int ((I (rO O a0 0) 2) - 1)]) (r := []) dX12_played_10 mo12_isIn mv12_isIn lkRX12_75 rfl rfl (Nat.le_of_ble_eq_true rfl) (by show _ + 1 ≤ d + _; omega) (Nat.le_refl _) (Nat.le_refl _) (pRt_mono ?_)
  refine k12_isIn (d + 10) hW  hr3 ?_
  intro hbr2
  show Ok g _ Qx 13 [(0, .ref a0), (1, .int x1)] [.int r2] (Z, I, L, O)
  refine ok_if_ne (t := 19) dX12_played_13 (by decide) (fun hc4 => ?_) (fun hc4 => ?_)
  · have h := (if_neg hc4).symm.trans h
    refine ok_iconst (v := 0) dX12_played_19 (by decide) ?_
    refine ok_istore_n (l' := [(2, .int 0), (0, .ref a0), (1, .int x1)]) dX12_played_20 rfl (Nat.le_of_ble_eq_true rfl) rfl ?_
    refine ok_sub [1, 2, 0] rfl ?_
    exact o12_played_c21 d hW hQ  n I L a0 x1 (0 : Int32) hZ0 h
  · have h := (if_pos hc4).symm.trans h
    refine ok_bipush (v := (-2)) dX12_played_16 (by decide) ?_
    cases h
    exact ok_iret dX12_played_18 hQ
theorem k12_played {g : pG} {Q : Option Value → pW → Prop} {Z : pZ} {I : (Nat → Nat → Int32)} {L : (Nat → Nat → Int64)} {O : (Nat → Nat → Option Nat)} {n : Nat} {a0 : Nat} {x1 : Int32} {res : Int32 × (Nat → Nat → Int32) × (Nat → Nat → Int64)} (d : Nat) (hW : WT Z O) (hZ0 : Z[a0]? = some (12, 34)) (h : f12_played n I L O a0 x1 = some res) (hQ : Q (some (.int res.1)) (Z, res.2.1, res.2.2, O)) : CT g (d + 13) m12_played 0 0 [.ref a0, .int x1] (Z, I, L, O) Q :=
  ct_of_ok (mt := m12_played) (ini := false) mo12_played.2.2.2.2 (fun h => by cases h) (Nat.le_of_ble_eq_true rfl) (o12_played d hW hZ0 h ⟨trivial, hQ, rfl, rfl⟩)
theorem dX12_happens_0 : decode cX12_happens 0 = .ok (.iload_n 1, 1) := by decide +kernel
theorem dX12_happens_1 : decode cX12_happens 1 = .ok (.bipush 6, 2) := by decide +kernel
theorem dX12_happens_3 : decode cX12_happens 3 = .ok (.irem, 1) := by decide +kernel
theorem dX12_happens_4 : decode cX12_happens 4 = .ok (.iconst 3, 1) := by decide +kernel
theorem dX12_happens_5 : decode cX12_happens 5 = .ok (.if_icmp .le 21, 3) := by decide +kernel
theorem dX12_happens_8 : decode cX12_happens 8 = .ok (.aload_n 0, 1) := by decide +kernel
theorem dX12_happens_9 : decode cX12_happens 9 = .ok (.getfield 7, 3) := by decide +kernel
theorem dX12_happens_12 : decode cX12_happens 12 = .ok (.bipush 7, 2) := by decide +kernel
theorem dX12_happens_14 : decode cX12_happens 14 = .ok (.iaload, 1) := by decide +kernel
theorem dX12_happens_15 : decode cX12_happens 15 = .ok (.sipush 9999, 3) := by decide +kernel
theorem dX12_happens_18 : decode cX12_happens 18 = .ok (.if_icmp .ge 7, 3) := by decide +kernel
theorem dX12_happens_21 : decode cX12_happens 21 = .ok (.aload_n 0, 1) := by decide +kernel
theorem dX12_happens_22 : decode cX12_happens 22 = .ok (.invokevirtual 365, 3) := by decide +kernel
theorem dX12_happens_25 : decode cX12_happens 25 = .ok (.return_, 1) := by decide +kernel
theorem dX12_happens_26 : decode cX12_happens 26 = .ok (.iload_n 1, 1) := by decide +kernel
theorem dX12_happens_27 : decode cX12_happens 27 = .ok (.bipush 6, 2) := by decide +kernel
theorem dX12_happens_29 : decode cX12_happens 29 = .ok (.irem, 1) := by decide +kernel
theorem dX12_happens_30 : decode cX12_happens 30 = .ok (.iconst 2, 1) := by decide +kernel
theorem dX12_happens_31 : decode cX12_happens 31 = .ok (.if_icmp .ne 63, 3) := by decide +kernel
theorem dX12_happens_34 : decode cX12_happens 34 = .ok (.aload_n 0, 1) := by decide +kernel
theorem dX12_happens_35 : decode cX12_happens 35 = .ok (.getfield 7, 3) := by decide +kernel
theorem dX12_happens_38 : decode cX12_happens 38 = .ok (.iconst 0, 1) := by decide +kernel
theorem dX12_happens_39 : decode cX12_happens 39 = .ok (.iaload, 1) := by decide +kernel
theorem dX12_happens_40 : decode cX12_happens 40 = .ok (.ifCond .le 53, 3) := by decide +kernel
theorem dX12_happens_43 : decode cX12_happens 43 = .ok (.aload_n 0, 1) := by decide +kernel
theorem dX12_happens_44 : decode cX12_happens 44 = .ok (.iload_n 1, 1) := by decide +kernel
theorem dX12_happens_45 : decode cX12_happens 45 = .ok (.aload_n 0, 1) := by decide +kernel
theorem dX12_happens_46 : decode cX12_happens 46 = .ok (.getfield 7, 3) := by decide +kernel
theorem dX12_happens_49 : decode cX12_happens 49 = .ok (.iconst 0, 1) := by decide +kernel
theorem dX12_happens_50 : decode cX12_happens 50 = .ok (.iaload, 1) := by decide +kernel
theorem dX12_happens_51 : decode cX12_happens 51 = .ok (.irem, 1) := by decide +kernel
theorem dX12_happens_52 : decode cX12_happens 52 = .ok (.iload_n 1, 1) := by decide +kernel
theorem dX12_happens_53 : decode cX12_happens 53 = .ok (.bipush 6, 2) := by decide +kernel
theorem dX12_happens_55 : decode cX12_happens 55 = .ok (.idiv, 1) := by decide +kernel
theorem dX12_happens_56 : decode cX12_happens 56 = .ok (.bipush 16, 2) := by decide +kernel
theorem dX12_happens_58 : decode cX12_happens 58 = .ok (.irem, 1) := by decide +kernel
theorem dX12_happens_59 : decode cX12_happens 59 = .ok (.invokevirtual 359, 3) := by decide +kernel
theorem dX12_happens_62 : decode cX12_happens 62 = .ok (.ifCond .eq 31, 3) := by decide +kernel
theorem dX12_happens_65 : decode cX12_happens 65 = .ok (.aload_n 0, 1) := by decide +kernel
theorem dX12_happens_66 : decode cX12_happens 66 = .ok (.getfield 7, 3) := by decide +kernel
theorem dX12_happens_69 : decode cX12_happens 69 = .ok (.bipush 10, 2) := by decide +kernel
theorem dX12_happens_71 : decode cX12_happens 71 = .ok (.bipush 16, 2) := by decide +kernel
theorem dX12_happens_73 : decode cX12_happens 73 = .ok (.iload_n 1, 1) := by decide +kernel
theorem dX12_happens_74 : decode cX12_happens 74 = .ok (.aload_n 0, 1) := by decide +kernel
theorem dX12_happens_75 : decode cX12_happens 75 = .ok (.getfield 7, 3) := by decide +kernel
theorem dX12_happens_78 : decode cX12_happens 78 = .ok (.iconst 0, 1) := by decide +kernel
theorem dX12_happens_79 : decode cX12_happens 79 = .ok (.iaload, 1) := by decide +kernel
theorem dX12_happens_80 : decode cX12_happens 80 = .ok (.irem, 1) := by decide +kernel
theorem dX12_happens_81 : decode cX12_happens 81 = .ok (.imul, 1) := by decide +kernel
theorem dX12_happens_82 : decode cX12_happens 82 = .ok (.iadd, 1) := by decide +kernel
theorem dX12_happens_83 : decode cX12_happens 83 = .ok (.iload_n 1, 1) := by decide +kernel
theorem dX12_happens_84 : decode cX12_happens 84 = .ok (.bipush 6, 2) := by decide +kernel
theorem dX12_happens_86 : decode cX12_happens 86 = .ok (.idiv, 1) := by decide +kernel
theorem dX12_happens_87 : decode cX12_happens 87 = .ok (.bipush 16, 2) := by decide +kernel
theorem dX12_happens_89 : decode cX12_happens 89 = .ok (.irem, 1) := by decide +kernel
theorem dX12_happens_90 : decode cX12_happens 90 = .ok (.iadd, 1) := by decide +kernel
theorem dX12_happens_91 : decode cX12_happens 91 = .ok (.iconst 0, 1) := by decide +kernel
theorem dX12_happens_92 : decode cX12_happens 92 = .ok (.iastore, 1) := by decide +kernel
theorem dX12_happens_93 : decode cX12_happens 93 = .ok (.return_, 1) := by decide +kernel
theorem dX12_happens_94 : decode cX12_happens 94 = .ok (.aload_n 0, 1) := by decide +kernel
theorem dX12_happens_95 : decode cX12_happens 95 = .ok (.getfield 7, 3) := by decide +kernel
theorem dX12_happens_98 : decode cX12_happens 98 = .ok (.iconst 1, 1) := by decide +kernel
theorem dX12_happens_99 : decode cX12_happens 99 = .ok (.iaload, 1) := by decide +kernel
theorem dX12_happens_100 : decode cX12_happens 100 = .ok (.ifCond .ne 4, 3) := by decide +kernel
theorem dX12_happens_103 : decode cX12_happens 103 = .ok (.return_, 1) := by decide +kernel
theorem dX12_happens_104 : decode cX12_happens 104 = .ok (.iload_n 1, 1) := by decide +kernel
theorem dX12_happens_105 : decode cX12_happens 105 = .ok (.bipush 6, 2) := by decide +kernel
theorem dX12_happens_107 : decode cX12_happens 107 = .ok (.idiv, 1) := by decide +kernel
theorem dX12_happens_108 : decode cX12_happens 108 = .ok (.aload_n 0, 1) := by decide +kernel
theorem dX12_happens_109 : decode cX12_happens 109 = .ok (.getfield 7, 3) := by decide +kernel
theorem dX12_happens_112 : decode cX12_happens 112 = .ok (.iconst 1, 1) := by decide +kernel
theorem dX12_happens_113 : decode cX12_happens 113 = .ok (.iaload, 1) := by decide +kernel
theorem dX12_happens_114 : decode cX12_happens 114 = .ok (.irem, 1) := by decide +kernel
theorem dX12_happens_115 : decode cX12_happens 115 = .ok (.istore_n 2, 1) := by decide +kernel
theorem dX12_happens_116 : decode cX12_happens 116 = .ok (.iload_n 1, 1) := by decide +kernel
theorem dX12_happens_117 : decode cX12_happens 117 = .ok (.bipush 6, 2) := by decide +kernel
theorem dX12_happens_119 : decode cX12_happens 119 = .ok (.irem, 1) := by decide +kernel
theorem dX12_happens_120 : decode cX12_happens 120 = .ok (.iconst 3, 1) := by decide +kernel
theorem dX12_happens_121 : decode cX12_happens 121 = .ok (.if_icmp .ne 25, 3) := by decide +kernel
theorem dX12_happens_124 : decode cX12_happens 124 = .ok (.aload_n 0, 1) := by decide +kernel
theorem dX12_happens_125 : decode cX12_happens 125 = .ok (.getfield 7, 3) := by decide +kernel
theorem dX12_happens_128 : decode cX12_happens 128 = .ok (.bipush 90, 2) := by decide +kernel
theorem dX12_happens_130 : decode cX12_happens 130 = .ok (.bipush 6, 2) := by decide +kernel
theorem dX12_happens_132 : decode cX12_happens 132 = .ok (.iload_n 2, 1) := by decide +kernel
theorem dX12_happens_133 : decode cX12_happens 133 = .ok (.imul, 1) := by decide +kernel
theorem dX12_happens_134 : decode cX12_happens 134 = .ok (.iadd, 1) := by decide +kernel
theorem dX12_happens_135 : decode cX12_happens 135 = .ok (.iconst 1, 1) := by decide +kernel
theorem dX12_happens_136 : decode cX12_happens 136 = .ok (.iadd, 1) := by decide +kernel
theorem dX12_happens_137 : decode cX12_happens 137 = .ok (.iload_n 1, 1) := by decide +kernel
theorem dX12_happens_138 : decode cX12_happens 138 = .ok (.iconst 5, 1) := by decide +kernel
theorem dX12_happens_139 : decode cX12_happens 139 = .ok (.irem, 1) := by decide +kernel
theorem dX12_happens_140 : decode cX12_happens 140 = .ok (.iadd, 1) := by decide +kernel
theorem dX12_happens_141 : decode cX12_happens 141 = .ok (.iconst 0, 1) := by decide +kernel
theorem dX12_happens_142 : decode cX12_happens 142 = .ok (.iastore, 1) := by decide +kernel
theorem dX12_happens_143 : decode cX12_happens 143 = .ok (.goto 25, 3) := by decide +kernel
theorem dX12_happens_146 : decode cX12_happens 146 = .ok (.aload_n 0, 1) := by decide +kernel
theorem dX12_happens_147 : decode cX12_happens 147 = .ok (.getfield 7, 3) := by decide +kernel
theorem dX12_happens_150 : decode cX12_happens 150 = .ok (.iconst 0, 1) := by decide +kernel
theorem dX12_happens_151 : decode cX12_happens 151 = .ok (.iaload, 1) := by decide +kernel
theorem dX12_happens_152 : decode cX12_happens 152 = .ok (.ifCond .le 16, 3) := by decide +kernel
theorem dX12_happens_155 : decode cX12_happens 155 = .ok (.aload_n 0, 1) := by decide +kernel
theorem dX12_happens_156 : decode cX12_happens 156 = .ok (.iload_n 1, 1) := by decide +kernel
theorem dX12_happens_157 : decode cX12_happens 157 = .ok (.aload_n 0, 1) := by decide +kernel
theorem dX12_happens_158 : decode cX12_happens 158 = .ok (.getfield 7, 3) := by decide +kernel
theorem dX12_happens_161 : decode cX12_happens 161 = .ok (.iconst 0, 1) := by decide +kernel
theorem dX12_happens_162 : decode cX12_happens 162 = .ok (.iaload, 1) := by decide +kernel
theorem dX12_happens_163 : decode cX12_happens 163 = .ok (.irem, 1) := by decide +kernel
theorem dX12_happens_164 : decode cX12_happens 164 = .ok (.iload_n 2, 1) := by decide +kernel
theorem dX12_happens_165 : decode cX12_happens 165 = .ok (.invokevirtual 350, 3) := by decide +kernel
theorem dX12_happens_168 : decode cX12_happens 168 = .ok (.return_, 1) := by decide +kernel
def m12_happens : pMT := (yX12_happens, cX12_happens, 3, none)
theorem mo12_happens : mOK m12_happens 1 := ⟨tb_i 1756 (by decide +kernel), wi_RX12, ⟨wn_RX12.1, wn_RX12.2, by decide +kernel⟩, by decide, plainFor_of_name wp_RX12⟩
theorem mv12_happens : mV m12_happens := ⟨tb_i 1755 (by decide +kernel), tb_p 112 (by decide +kernel)⟩
def f12_happens (n : Nat) (I : (Nat → Nat → Int32)) (L : (Nat → Nat → Int64)) (O : (Nat → Nat → Option Nat)) (a0 : Nat) (x1 : Int32) : Option ((Nat → Nat → Int32) × (Nat → Nat → Int64)) := (if (x1 - x1 / 6 * 6) ≤ (3 : Int32) then (if (x1 - x1 / 6 * 6) = (2 : Int32) then (if (I (rO O a0 0) 0) ≤ 0 then some (I, L) else if (I (rO O a0 0) 0) = 0 then none else (f12_canPatch I O a0 (x1 - x1 / (I (rO O a0 0) 0) * (I (rO O a0 0) 0)) ((x1 / 6) - (x1 / 6) / 16 * 16)).bind fun r17 => (if r17 = 0 then some (I, L) else if (I (rO O a0 0) 0) = 0 then none else (if (((10 : Int32) + ((16 : Int32) * (x1 - x1 / (I (rO O a0 0) 0) * (I (rO O a0 0) 0)))) + ((x1 / 6) - (x1 / 6) / 16 * 16)) < 0 ∨ 4371 ≤ (((10 : Int32) + ((16 : Int32) * (x1 - x1 / (I (rO O a0 0) 0) * (I (rO O a0 0) 0)))) + ((x1 / 6) - (x1 / 6) / 16 * 16)).toNatClampNeg then none else bl (sI I (rO O a0 0) (((10 : Int32) + ((16 : Int32) * (x1 - x1 / (I (rO O a0 0) 0) * (I (rO O a0 0) 0)))) + ((x1 / 6) - (x1 / 6) / 16 * 16)).toNatClampNeg (0 : Int32)) fun I22 => some (I22, L)))) else (if (I (rO O a0 0) 1) = 0 then some (I, L) else if (I (rO O a0 0) 1) = 0 then none else bl (((x1 / 6) - (x1 / 6) / (I (rO O a0 0) 1) * (I (rO O a0 0) 1)) : Int32) fun z6 => (if (x1 - x1 / 6 * 6) = (3 : Int32) then (if ((((90 : Int32) + ((6 : Int32) * z6)) + 1) + (x1 - x1 / 5 * 5)) < 0 ∨ 4371 ≤ ((((90 : Int32) + ((6 : Int32) * z6)) + 1) + (x1 - x1 / 5 * 5)).toNatClampNeg then none else bl (sI I (rO O a0 0) ((((90 : Int32) + ((6 : Int32) * z6)) + 1) + (x1 - x1 / 5 * 5)).toNatClampNeg (0 : Int32)) fun I13 => some (I13, L)) else (if (I (rO O a0 0) 0) ≤ 0 then some (I, L) else if (I (rO O a0 0) 0) = 0 then none else (f12_playNow n I L O a0 (x1 - x1 / (I (rO O a0 0) 0) * (I (rO O a0 0) 0)) z6).bind fun r10 => some (r10.1, r10.2))))) else (if (9999 : Int32) ≤ (I (rO O a0 0) 7) then some (I, L) else (f12_pass n I L O a0).bind fun r25 => some (r25.1, r25.2)))
set_option maxHeartbeats 4000000 in
set_option maxRecDepth 20000 in
theorem o12_happens {g : pG} {Qx : Option Value → pW → Prop} {Z : pZ} {I : (Nat → Nat → Int32)} {L : (Nat → Nat → Int64)} {O : (Nat → Nat → Option Nat)} {n : Nat} {a0 : Nat} {x1 : Int32} {res : (Nat → Nat → Int32) × (Nat → Nat → Int64)} (d : Nat) (hW : WT Z O) (hZ0 : Z[a0]? = some (12, 34)) (h : f12_happens n I L O a0 x1 = some res) (hQ : Qx none (Z, res.1, res.2, O)) : Ok g (d + 11, RX12, cX12_happens, 3, false, 0, 0, Z.length, pSl Z) Qx 0 [(0, .ref a0), (1, .int x1)] [] (Z, I, L, O) := by
  unfold f12_happens at h
  refine ok_iload_n dX12_happens_0 1 rfl ?_
  refine ok_bipush (v := 6) dX12_happens_1 (by decide) ?_
  refine ok_irem dX12_happens_3 (by decide) ?_
  refine ok_iconst (v := 3) dX12_happens_4 (by decide) ?_
  refine ok_icmp_le (t := 26) dX12_happens_5 (by decide) (fun hc1 => ?_) (fun hc1 => ?_)
  · have h := (if_pos hc1).symm.trans h
    refine ok_iload_n dX12_happens_26 1 rfl ?_
    refine ok_bipush (v := 6) dX12_happens_27 (by decide) ?_
    refine ok_irem dX12_happens_29 (by decide) ?_
    refine ok_iconst (v := 2) dX12_happens_30 (by decide) ?_
    refine ok_icmp_ne (t := 94) dX12_happens_31 (by decide) (fun hc2 => ?_) (fun hc2 => ?_)
    · have h := (if_neg hc2).symm.trans h
      refine ok_aload_n dX12_happens_94 0 rfl ?_
      have hT3 : Z[(rO O a0 0)]? = some (13, 4371) := (wt_f (ci := 12) (k := 0) hW hZ0 rfl).2
      refine ok_getR (ci := 12) (k := 0) dX12_happens_95 flRX12_7 rfl hW hZ0 (by decide) ?_
      refine ok_iconst (v := 1) dX12_happens_98 (by decide) ?_
      refine ok_iald2 (N := 1) dX12_happens_99 hT3 (by unfold vp_in; decide) (by decide) ?_
      refine ok_if_ne (t := 104) dX12_happens_100 (by decide) (fun hc4 => ?_) (fun hc4 => ?_)
      · have h := (if_neg hc4).symm.trans h
        refine ok_iload_n dX12_happens_104 1 rfl ?_
        refine ok_bipush (v := 6) dX12_happens_105 (by decide) ?_
        refine ok_idiv dX12_happens_107 (by decide) ?_
        refine ok_aload_n dX12_happens_108 0 rfl ?_
        refine ok_getR (ci := 12) (k := 0) dX12_happens_109 flRX12_7 rfl hW hZ0 (by decide) ?_
        refine ok_iconst (v := 1) dX12_happens_112 (by decide) ?_
        refine ok_iald2 (N := 1) dX12_happens_113 hT3 (by unfold vp_in; decide) (by decide) ?_
        obtain ⟨hg5, h⟩ := gd h
        refine ok_irem dX12_happens_114 hg5 ?_
        obtain ⟨z6, ez6, h⟩ := blE h
        refine ok_nm ez6 ?_
        refine ok_istore_n (l' := [(2, .int z6), (0, .ref a0), (1, .int x1)]) dX12_happens_115 rfl (Nat.le_of_ble_eq_true rfl) rfl ?_
        refine ok_iload_n dX12_happens_116 2 rfl ?_
        refine ok_bipush (v := 6) dX12_happens_117 (by decide) ?_
        refine ok_irem dX12_happens_119 (by decide) ?_
        refine ok_iconst (v := 3) dX12_happens_120 (by decide) ?_
        refine ok_icmp_ne (t := 146) dX12_happens_121 (by decide) (fun hc7 => ?_) (fun hc7 => ?_)
        · have h := (if_neg hc7).symm.trans h
          refine ok_aload_n dX12_happens_146 1 rfl ?_
          refine ok_getR (ci := 12) (k := 0) dX12_happens_147 flRX12_7 rfl hW hZ0 (by decide) ?_
          refine ok_iconst (v := 0) dX12_happens_150 (by decide) ?_
          refine ok_iald2 (N := 0) dX12_happens_151 hT3 (by unfold vp_in; decide) (by decide) ?_
          refine ok_if_le (t := 168) dX12_happens_152 (by decide) (fun hc8 => ?_) (fun hc8 => ?_)
          · have h := (if_pos hc8).symm.trans h
            cases h
            exact ok_vret dX12_happens_168 hQ
          · have h := (if_neg hc8).symm.trans h
            refine ok_aload_n dX12_happens_155 1 rfl ?_
            refine ok_iload_n dX12_happens_156 2 rfl ?_
            refine ok_aload_n dX12_happens_157 1 rfl ?_
            refine ok_getR (ci := 12) (k := 0) dX12_happens_158 flRX12_7 rfl hW hZ0 (by decide) ?_
            refine ok_iconst (v := 0) dX12_happens_161 (by decide) ?_
            refine ok_iald2 (N := 0) dX12_happens_162 hT3 (by unfold vp_in; decide) (by decide) ?_
            obtain ⟨hg9, h⟩ := gd h
            refine ok_irem dX12_happens_163 hg9 ?_
            refine ok_iload_n dX12_happens_164 0 rfl ?_
            obtain ⟨r10, hr11, h⟩ := bd h
            refine ok_callV (d := ((d + 1) + 9)) (mt := m12_playNow) (mc := 0) (ms := 0) (As := [.int (x1 - x1 / (I (rO O a0 0) 0) * (I (rO O a0 0) 0)), .int z6]) (r := []) dX12_happens_165 mo12_playNow mv12_playNow lkRX12_350 rfl hZ0 (q := (RX12, TX12, 34)) rfl rfl rfl (Nat.le_of_ble_eq_true rfl) (by show _ + 1 ≤ d + _; omega) (Nat.le_refl _) (Nat.le_refl _) (pRt_mono ?_)
            refine k12_playNow (d + 1) hW hZ0 hr11 ?_
            intro _
            show Ok g _ Qx 168 [(2, .int z6), (0, .ref a0), (1, .int x1)] [] (Z, r10.1, r10.2, O)
            cases h
            exact ok_vret dX12_happens_168 hQ
        · have h := (if_pos hc7).symm.trans h
          refine ok_aload_n dX12_happens_124 1 rfl ?_
          refine ok_getR (ci := 12) (k := 0) dX12_happens_125 flRX12_7 rfl hW hZ0 (by decide) ?_
          refine ok_bipush (v := 90) dX12_happens_128 (by decide) ?_
          refine ok_bipush (v := 6) dX12_happens_130 (by decide) ?_
          refine ok_iload_n dX12_happens_132 0 rfl ?_
          refine ok_imul dX12_happens_133 ?_
          refine ok_iadd dX12_happens_134 ?_
          refine ok_iconst (v := 1) dX12_happens_135 (by decide) ?_
          refine ok_iadd dX12_happens_136 ?_
          refine ok_iload_n dX12_happens_137 2 rfl ?_
          refine ok_iconst (v := 5) dX12_happens_138 (by decide) ?_
          refine ok_irem dX12_happens_139 (by decide) ?_
          refine ok_iadd dX12_happens_140 ?_
          refine ok_iconst (v := 0) dX12_happens_141 (by decide) ?_
          obtain ⟨hg12, h⟩ := gd h
          obtain ⟨I13, eI13, h⟩ := blE h
          refine ok_iast3 dX12_happens_142 hT3 hg12 rfl eI13 ?_
          refine ok_goto (t := 168) dX12_happens_143 (by decide) ?_
          cases h
          exact ok_vret dX12_happens_168 hQ
      · have h := (if_pos hc4).symm.trans h
        cases h
        exact ok_vret dX12_happens_103 hQ
    · have h := (if_pos hc2).symm.trans h
      refine ok_aload_n dX12_happens_34 0 rfl ?_
      have hT14 : Z[(rO O a0 0)]? = some (13, 4371) := (wt_f (ci := 12) (k := 0) hW hZ0 rfl).2
      refine ok_getR (ci := 12) (k := 0) dX12_happens_35 flRX12_7 rfl hW hZ0 (by decide) ?_
      refine ok_iconst (v := 0) dX12_happens_38 (by decide) ?_
      refine ok_iald2 (N := 0) dX12_happens_39 hT14 (by unfold vp_in; decide) (by decide) ?_
      refine ok_if_le (t := 93) dX12_happens_40 (by decide) (fun hc15 => ?_) (fun hc15 => ?_)
      · have h := (if_pos hc15).symm.trans h
        cases h
        exact ok_vret dX12_happens_93 hQ
      · have h := (if_neg hc15).symm.trans h
        refine ok_aload_n dX12_happens_43 0 rfl ?_
        refine ok_iload_n dX12_happens_44 1 rfl ?_
        refine ok_aload_n dX12_happens_45 0 rfl ?_
        refine ok_getR (ci := 12) (k := 0) dX12_happens_46 flRX12_7 rfl hW hZ0 (by decide) ?_
        refine ok_iconst (v := 0) dX12_happens_49 (by decide) ?_
        refine ok_iald2 (N := 0) dX12_happens_50 hT14 (by unfold vp_in; decide) (by decide) ?_
        obtain ⟨hg16, h⟩ := gd h
        refine ok_irem dX12_happens_51 hg16 ?_
        refine ok_iload_n dX12_happens_52 1 rfl ?_
        refine ok_bipush (v := 6) dX12_happens_53 (by decide) ?_
        refine ok_idiv dX12_happens_55 (by decide) ?_
        refine ok_bipush (v := 16) dX12_happens_56 (by decide) ?_
        refine ok_irem dX12_happens_58 (by decide) ?_
        obtain ⟨r17, hr18, h⟩ := bd h
        refine ok_callV (d := ((d + 5) + 5)) (mt := m12_canPatch) (mc := 0) (ms := 0) (As := [.int (x1 - x1 / (I (rO O a0 0) 0) * (I (rO O a0 0) 0)), .int ((x1 / 6) - (x1 / 6) / 16 * 16)]) (r := []) dX12_happens_59 mo12_canPatch mv12_canPatch lkRX12_359 rfl hZ0 (q := (RX12, TX12, 34)) rfl rfl rfl (Nat.le_of_ble_eq_true rfl) (by show _ + 1 ≤ d + _; omega) (Nat.le_refl _) (Nat.le_refl _) (pRt_mono ?_)
        refine k12_canPatch (d + 5) hW hZ0 hr18 ?_
        intro hbr17
        show Ok g _ Qx 62 [(0, .ref a0), (1, .int x1)] [.int r17] (Z, I, L, O)
        refine ok_if_eq (t := 93) dX12_happens_62 (by decide) (fun hc19 => ?_) (fun hc19 => ?_)
        · have h := (if_pos hc19).symm.trans h
          cases h
          exact ok_vret dX12_happens_93 hQ
        · have h := (if_neg hc19).symm.trans h
          refine ok_aload_n dX12_happens_65 0 rfl ?_
          refine ok_getR (ci := 12) (k := 0) dX12_happens_66 flRX12_7 rfl hW hZ0 (by decide) ?_
          refine ok_bipush (v := 10) dX12_happens_69 (by decide) ?_
          refine ok_bipush (v := 16) dX12_happens_71 (by decide) ?_
          refine ok_iload_n dX12_happens_73 1 rfl ?_
          refine ok_aload_n dX12_happens_74 0 rfl ?_
          refine ok_getR (ci := 12) (k := 0) dX12_happens_75 flRX12_7 rfl hW hZ0 (by decide) ?_
          refine ok_iconst (v := 0) dX12_happens_78 (by decide) ?_
          refine ok_iald2 (N := 0) dX12_happens_79 hT14 (by unfold vp_in; decide) (by decide) ?_
          obtain ⟨hg20, h⟩ := gd h
          refine ok_irem dX12_happens_80 hg20 ?_
          refine ok_imul dX12_happens_81 ?_
          refine ok_iadd dX12_happens_82 ?_
          refine ok_iload_n dX12_happens_83 1 rfl ?_
          refine ok_bipush (v := 6) dX12_happens_84 (by decide) ?_
          refine ok_idiv dX12_happens_86 (by decide) ?_
          refine ok_bipush (v := 16) dX12_happens_87 (by decide) ?_
          refine ok_irem dX12_happens_89 (by decide) ?_
          refine ok_iadd dX12_happens_90 ?_
          refine ok_iconst (v := 0) dX12_happens_91 (by decide) ?_
          obtain ⟨hg21, h⟩ := gd h
          obtain ⟨I22, eI22, h⟩ := blE h
          refine ok_iast3 dX12_happens_92 hT14 hg21 rfl eI22 ?_
          cases h
          exact ok_vret dX12_happens_93 hQ
  · have h := (if_neg hc1).symm.trans h
    refine ok_aload_n dX12_happens_8 0 rfl ?_
    have hT23 : Z[(rO O a0 0)]? = some (13, 4371) := (wt_f (ci := 12) (k := 0) hW hZ0 rfl).2
    refine ok_getR (ci := 12) (k := 0) dX12_happens_9 flRX12_7 rfl hW hZ0 (by decide) ?_
    refine ok_bipush (v := 7) dX12_happens_12 (by decide) ?_
    refine ok_iald2 (N := 7) dX12_happens_14 hT23 (by unfold vp_in; decide) (by decide) ?_
    refine ok_sipush (v := 9999) dX12_happens_15 (by decide) ?_
    refine ok_icmp_ge (t := 25) dX12_happens_18 (by decide) (fun hc24 => ?_) (fun hc24 => ?_)
    · have h := (if_pos hc24).symm.trans h
      cases h
      exact ok_vret dX12_happens_25 hQ
    · have h := (if_neg hc24).symm.trans h
      refine ok_aload_n dX12_happens_21 0 rfl ?_
      obtain ⟨r25, hr26, h⟩ := bd h
      refine ok_callV (d := ((d + 0) + 10)) (mt := m12_pass) (mc := 0) (ms := 0) (As := []) (r := []) dX12_happens_22 mo12_pass mv12_pass lkRX12_365 rfl hZ0 (q := (RX12, TX12, 34)) rfl rfl rfl (Nat.le_of_ble_eq_true rfl) (by show _ + 1 ≤ d + _; omega) (Nat.le_refl _) (Nat.le_refl _) (pRt_mono ?_)
      refine k12_pass (d + 0) hW hZ0 hr26 ?_
      intro _
      show Ok g _ Qx 25 [(0, .ref a0), (1, .int x1)] [] (Z, r25.1, r25.2, O)
      cases h
      exact ok_vret dX12_happens_25 hQ
theorem k12_happens {g : pG} {Q : Option Value → pW → Prop} {Z : pZ} {I : (Nat → Nat → Int32)} {L : (Nat → Nat → Int64)} {O : (Nat → Nat → Option Nat)} {n : Nat} {a0 : Nat} {x1 : Int32} {res : (Nat → Nat → Int32) × (Nat → Nat → Int64)} (d : Nat) (hW : WT Z O) (hZ0 : Z[a0]? = some (12, 34)) (h : f12_happens n I L O a0 x1 = some res) (hQ : Q none (Z, res.1, res.2, O)) : CT g (d + 11) m12_happens 0 0 [.ref a0, .int x1] (Z, I, L, O) Q :=
  ct_of_ok (mt := m12_happens) (ini := false) mo12_happens.2.2.2.2 (fun h => by cases h) (Nat.le_of_ble_eq_true rfl) (o12_happens d hW hZ0 h ⟨trivial, hQ, rfl, rfl⟩)
theorem dX12_years_0 : decode cX12_years 0 = .ok (.iload_n 1, 1) := by decide +kernel
theorem dX12_years_1 : decode cX12_years 1 = .ok (.iconst 0, 1) := by decide +kernel
theorem dX12_years_2 : decode cX12_years 2 = .ok (.sipush 9999, 3) := by decide +kernel
theorem dX12_years_5 : decode cX12_years 5 = .ok (.invokestatic 75, 3) := by decide +kernel
theorem dX12_years_8 : decode cX12_years 8 = .ok (.ifCond .eq 13, 3) := by decide +kernel
theorem dX12_years_11 : decode cX12_years 11 = .ok (.iload_n 2, 1) := by decide +kernel
theorem dX12_years_12 : decode cX12_years 12 = .ok (.iconst 1, 1) := by decide +kernel
theorem dX12_years_13 : decode cX12_years 13 = .ok (.bipush 40, 2) := by decide +kernel
theorem dX12_years_15 : decode cX12_years 15 = .ok (.invokestatic 75, 3) := by decide +kernel
theorem dX12_years_18 : decode cX12_years 18 = .ok (.ifCond .ne 5, 3) := by decide +kernel
theorem dX12_years_21 : decode cX12_years 21 = .ok (.iconst (-1), 1) := by decide +kernel
theorem dX12_years_22 : decode cX12_years 22 = .ok (.ireturn, 1) := by decide +kernel
theorem dX12_years_23 : decode cX12_years 23 = .ok (.aload_n 0, 1) := by decide +kernel
theorem dX12_years_24 : decode cX12_years 24 = .ok (.invokevirtual 356, 3) := by decide +kernel
theorem dX12_years_27 : decode cX12_years 27 = .ok (.aload_n 0, 1) := by decide +kernel
theorem dX12_years_28 : decode cX12_years 28 = .ok (.getfield 7, 3) := by decide +kernel
theorem dX12_years_31 : decode cX12_years 31 = .ok (.bipush 8, 2) := by decide +kernel
theorem dX12_years_33 : decode cX12_years 33 = .ok (.iload_n 1, 1) := by decide +kernel
theorem dX12_years_34 : decode cX12_years 34 = .ok (.iconst 2, 1) := by decide +kernel
theorem dX12_years_35 : decode cX12_years 35 = .ok (.imul, 1) := by decide +kernel
theorem dX12_years_36 : decode cX12_years 36 = .ok (.sipush 269, 3) := by decide +kernel
theorem dX12_years_39 : decode cX12_years 39 = .ok (.iadd, 1) := by decide +kernel
theorem dX12_years_40 : decode cX12_years 40 = .ok (.iastore, 1) := by decide +kernel
theorem dX12_years_41 : decode cX12_years 41 = .ok (.iconst 0, 1) := by decide +kernel
theorem dX12_years_42 : decode cX12_years 42 = .ok (.istore_n 3, 1) := by decide +kernel
theorem dX12_years_43 : decode cX12_years 43 = .ok (.iload_n 3, 1) := by decide +kernel
theorem dX12_years_44 : decode cX12_years 44 = .ok (.iload_n 2, 1) := by decide +kernel
theorem dX12_years_45 : decode cX12_years 45 = .ok (.if_icmp .ge 28, 3) := by decide +kernel
theorem dX12_years_48 : decode cX12_years 48 = .ok (.aload_n 0, 1) := by decide +kernel
theorem dX12_years_49 : decode cX12_years 49 = .ok (.getfield 7, 3) := by decide +kernel
theorem dX12_years_52 : decode cX12_years 52 = .ok (.bipush 8, 2) := by decide +kernel
theorem dX12_years_54 : decode cX12_years 54 = .ok (.iaload, 1) := by decide +kernel
theorem dX12_years_55 : decode cX12_years 55 = .ok (.istore 4, 2) := by decide +kernel
theorem dX12_years_57 : decode cX12_years 57 = .ok (.aload_n 0, 1) := by decide +kernel
theorem dX12_years_58 : decode cX12_years 58 = .ok (.invokevirtual 322, 3) := by decide +kernel
theorem dX12_years_61 : decode cX12_years 61 = .ok (.aload_n 0, 1) := by decide +kernel
theorem dX12_years_62 : decode cX12_years 62 = .ok (.iload 4, 2) := by decide +kernel
theorem dX12_years_64 : decode cX12_years 64 = .ok (.invokevirtual 389, 3) := by decide +kernel
theorem dX12_years_67 : decode cX12_years 67 = .ok (.iinc 3 1, 3) := by decide +kernel
theorem dX12_years_70 : decode cX12_years 70 = .ok (.goto (-27), 3) := by decide +kernel
theorem dX12_years_73 : decode cX12_years 73 = .ok (.aload_n 0, 1) := by decide +kernel
theorem dX12_years_74 : decode cX12_years 74 = .ok (.getfield 7, 3) := by decide +kernel
theorem dX12_years_77 : decode cX12_years 77 = .ok (.bipush 7, 2) := by decide +kernel
theorem dX12_years_79 : decode cX12_years 79 = .ok (.iaload, 1) := by decide +kernel
theorem dX12_years_80 : decode cX12_years 80 = .ok (.ireturn, 1) := by decide +kernel
def m12_years : pMT := (yX12_years, cX12_years, 5, some .int)
theorem mo12_years : mOK m12_years 2 := ⟨tb_i 1752 (by decide +kernel), wi_RX12, ⟨wn_RX12.1, wn_RX12.2, by decide +kernel⟩, by decide, plainFor_of_name wp_RX12⟩
theorem mv12_years : mV m12_years := ⟨tb_i 1750 (by decide +kernel), tb_i 1751 (by decide +kernel)⟩
def f12_years_c43 (n : Nat) (O : (Nat → Nat → Option Nat)) : Nat → (Nat → Nat → Int32) → (Nat → Nat → Int64) → Nat → Int32 → Int32 → Option (Int32 × (Nat → Nat → Int32) × (Nat → Nat → Int64))
  | 0, _, _, _, _, _ => none
  | m + 1, I, L, b0, y2, y3 => (if y2 ≤ y3 then some ((I (rO O b0 0) 7), I, L) else (f12_anew I O b0).bind fun r4 => (f12_happens n r4 L O b0 (I (rO O b0 0) 8)).bind fun r6 => f12_years_c43 n O m r6.1 r6.2 b0 y2 (y3 + 1))
set_option maxHeartbeats 4000000 in
set_option maxRecDepth 20000 in
theorem o12_years_c43 {g : pG} {Qx : Option Value → pW → Prop} {Z : pZ} {O : (Nat → Nat → Option Nat)} {n : Nat} {res : Int32 × (Nat → Nat → Int32) × (Nat → Nat → Int64)} (d : Nat) (hW : WT Z O) (hQ : Qx (some (.int res.1)) (Z, res.2.1, res.2.2, O)) : ∀ (m : Nat) (I : (Nat → Nat → Int32)) (L : (Nat → Nat → Int64)) (b0 : Nat) (y2 : Int32) (y3 : Int32), (Z[b0]? = some (12, 34)) → f12_years_c43 n O m I L b0 y2 y3 = some res → Ok g (d + 12, RX12, cX12_years, 5, false, 0, 0, Z.length, pSl Z) Qx 43 [(0, .ref b0), (2, .int y2), (3, .int y3)] [] (Z, I, L, O) := by
  intro m
  induction m with
  | zero => intro I L b0 y2 y3 hZ_b0 h; rw [f12_years_c43] at h; cases h
  | succ m ih =>
    intro I L b0 y2 y3 hZ_b0 h
    rw [f12_years_c43] at h
    refine ok_iload_n dX12_years_43 2 rfl ?_
    refine ok_iload_n dX12_years_44 1 rfl ?_
    refine ok_icmp_ge (t := 73) dX12_years_45 (by decide) (fun hc1 => ?_) (fun hc1 => ?_)
    · have h := (if_pos hc1).symm.trans h
      refine ok_aload_n dX12_years_73 0 rfl ?_
      have hT2 : Z[(rO O b0 0)]? = some (13, 4371) := (wt_f (ci := 12) (k := 0) hW hZ_b0 rfl).2
      refine ok_getR (ci := 12) (k := 0) dX12_years_74 flRX12_7 rfl hW hZ_b0 (by decide) ?_
      refine ok_bipush (v := 7) dX12_years_77 (by decide) ?_
      refine ok_iald2 (N := 7) dX12_years_79 hT2 (by unfold vp_in; decide) (by decide) ?_
      cases h
      exact ok_iret dX12_years_80 hQ
    · have h := (if_neg hc1).symm.trans h
      refine ok_aload_n dX12_years_48 0 rfl ?_
      have hT3 : Z[(rO O b0 0)]? = some (13, 4371) := (wt_f (ci := 12) (k := 0) hW hZ_b0 rfl).2
      refine ok_getR (ci := 12) (k := 0) dX12_years_49 flRX12_7 rfl hW hZ_b0 (by decide) ?_
      refine ok_bipush (v := 8) dX12_years_52 (by decide) ?_
      refine ok_iald2 (N := 8) dX12_years_54 hT3 (by unfold vp_in; decide) (by decide) ?_
      refine ok_istore (l' := [(4, .int (I (rO O b0 0) 8)), (0, .ref b0), (2, .int y2), (3, .int y3)]) dX12_years_55 (Nat.le_of_ble_eq_true rfl) rfl ?_
      refine ok_aload_n dX12_years_57 1 rfl ?_
      obtain ⟨r4, hr5, h⟩ := bd h
      refine ok_callV (d := ((d + 9) + 2)) (mt := m12_anew) (mc := 0) (ms := 0) (As := []) (r := []) dX12_years_58 mo12_anew mv12_anew lkRX12_322 rfl hZ_b0 (q := (RX12, TX12, 34)) rfl rfl rfl (Nat.le_of_ble_eq_true rfl) (by show _ + 1 ≤ d + _; omega) (Nat.le_refl _) (Nat.le_refl _) (pRt_mono ?_)
      refine k12_anew (d + 9) hW hZ_b0 hr5 ?_
      intro _
      show Ok g _ Qx 61 [(4, .int (I (rO O b0 0) 8)), (0, .ref b0), (2, .int y2), (3, .int y3)] [] (Z, r4, L, O)
      refine ok_aload_n dX12_years_61 1 rfl ?_
      refine ok_iload dX12_years_62 0 rfl ?_
      obtain ⟨r6, hr7, h⟩ := bd h
      refine ok_callV (d := ((d + 0) + 11)) (mt := m12_happens) (mc := 0) (ms := 0) (As := [.int (I (rO O b0 0) 8)]) (r := []) dX12_years_64 mo12_happens mv12_happens lkRX12_389 rfl hZ_b0 (q := (RX12, TX12, 34)) rfl rfl rfl (Nat.le_of_ble_eq_true rfl) (by show _ + 1 ≤ d + _; omega) (Nat.le_refl _) (Nat.le_refl _) (pRt_mono ?_)
      refine k12_happens (d + 0) hW hZ_b0 hr7 ?_
      intro _
      show Ok g _ Qx 67 [(4, .int (I (rO O b0 0) 8)), (0, .ref b0), (2, .int y2), (3, .int y3)] [] (Z, r6.1, r6.2, O)
      refine ok_iinc (u := (y3 + 1)) (l' := [(3, .int (y3 + 1)), (4, .int (I (rO O b0 0) 8)), (0, .ref b0), (2, .int y2)]) dX12_years_67 3 rfl rfl (Nat.le_of_ble_eq_true rfl) rfl ?_
      refine ok_goto (t := 43) dX12_years_70 (by decide) ?_
      refine ok_sub [2, 3, 0] rfl ?_
      exact ih r6.1 r6.2 b0 y2 (y3 + 1) hZ_b0 h
def f12_years (n : Nat) (I : (Nat → Nat → Int32)) (L : (Nat → Nat → Int64)) (O : (Nat → Nat → Option Nat)) (a0 : Nat) (x1 : Int32) (x2 : Int32) : Option (Int32 × (Nat → Nat → Int32) × (Nat → Nat → Int64)) := (f12_isIn x1 (0 : Int32) (9999 : Int32)).bind fun r1 => (if r1 = 0 then some (((-1) : Int32), I, L) else (f12_isIn x2 (1 : Int32) (40 : Int32)).bind fun r4 => (if r4 = 0 then some (((-1) : Int32), I, L) else (f12_keep n I O a0).bind fun r7 => bl (sI r7 (rO O a0 0) 8 ((x1 * 2) + 269)) fun I10 => f12_years_c43 n O n I10 L a0 x2 (0 : Int32)))
set_option maxHeartbeats 4000000 in
set_option maxRecDepth 20000 in
theorem o12_years {g : pG} {Qx : Option Value → pW → Prop} {Z : pZ} {I : (Nat → Nat → Int32)} {L : (Nat → Nat → Int64)} {O : (Nat → Nat → Option Nat)} {n : Nat} {a0 : Nat} {x1 : Int32} {x2 : Int32} {res : Int32 × (Nat → Nat → Int32) × (Nat → Nat → Int64)} (d : Nat) (hW : WT Z O) (hZ0 : Z[a0]? = some (12, 34)) (h : f12_years n I L O a0 x1 x2 = some res) (hQ : Qx (some (.int res.1)) (Z, res.2.1, res.2.2, O)) : Ok g (d + 12, RX12, cX12_years, 5, false, 0, 0, Z.length, pSl Z) Qx 0 [(0, .ref a0), (1, .int x1), (2, .int x2)] [] (Z, I, L, O) := by
  unfold f12_years at h
  refine ok_iload_n dX12_years_0 1 rfl ?_
  refine ok_iconst (v := 0) dX12_years_1 (by decide) ?_
  refine ok_sipush (v := 9999) dX12_years_2 (by decide) ?_
  obtain ⟨r1, hr2, h⟩ := bd h
  refine ok_callS (d := ((d + 9) + 2)) (mt := m12_isIn) (mc := 0) (ms := 0) (As := [.int x1, .int 0, .int 9999]) (r := []) dX12_years_5 mo12_isIn mv12_isIn lkRX12_75 rfl rfl (Nat.le_of_ble_eq_true rfl) (by show _ + 1 ≤ d + _; omega) (Nat.le_refl _) (Nat.le_refl _) (pRt_mono ?_)
  refine k12_isIn (d + 9) hW  hr2 ?_
  intro hbr1
  show Ok g _ Qx 8 [(0, .ref a0), (1, .int x1), (2, .int x2)] [.int r1] (Z, I, L, O)
  refine ok_if_eq (t := 21) dX12_years_8 (by decide) (fun hc3 => ?_) (fun hc3 => ?_)
  · have h := (if_pos hc3).symm.trans h
    refine ok_iconst (v := (-1)) dX12_years_21 (by decide) ?_
    cases h
    exact ok_iret dX12_years_22 hQ
  · have h := (if_neg hc3).symm.trans h
    refine ok_iload_n dX12_years_11 2 rfl ?_
    refine ok_iconst (v := 1) dX12_years_12 (by decide) ?_
    refine ok_bipush (v := 40) dX12_years_13 (by decide) ?_
    obtain ⟨r4, hr5, h⟩ := bd h
    refine ok_callS (d := ((d + 9) + 2)) (mt := m12_isIn) (mc := 0) (ms := 0) (As := [.int x2, .int 1, .int 40]) (r := []) dX12_years_15 mo12_isIn mv12_isIn lkRX12_75 rfl rfl (Nat.le_of_ble_eq_true rfl) (by show _ + 1 ≤ d + _; omega) (Nat.le_refl _) (Nat.le_refl _) (pRt_mono ?_)
    refine k12_isIn (d + 9) hW  hr5 ?_
    intro hbr4
    show Ok g _ Qx 18 [(0, .ref a0), (1, .int x1), (2, .int x2)] [.int r4] (Z, I, L, O)
    refine ok_if_ne (t := 23) dX12_years_18 (by decide) (fun hc6 => ?_) (fun hc6 => ?_)
    · have h := (if_neg hc6).symm.trans h
      refine ok_aload_n dX12_years_23 0 rfl ?_
      obtain ⟨r7, hr8, h⟩ := bd h
      refine ok_callV (d := ((d + 9) + 2)) (mt := m12_keep) (mc := 0) (ms := 0) (As := []) (r := []) dX12_years_24 mo12_keep mv12_keep lkRX12_356 rfl hZ0 (q := (RX12, TX12, 34)) rfl rfl rfl (Nat.le_of_ble_eq_true rfl) (by show _ + 1 ≤ d + _; omega) (Nat.le_refl _) (Nat.le_refl _) (pRt_mono ?_)
      refine k12_keep (d + 9) hW hZ0 hr8 ?_
      intro _
      show Ok g _ Qx 27 [(0, .ref a0), (1, .int x1), (2, .int x2)] [] (Z, r7, L, O)
      refine ok_aload_n dX12_years_27 0 rfl ?_
      have hT9 : Z[(rO O a0 0)]? = some (13, 4371) := (wt_f (ci := 12) (k := 0) hW hZ0 rfl).2
      refine ok_getR (ci := 12) (k := 0) dX12_years_28 flRX12_7 rfl hW hZ0 (by decide) ?_
      refine ok_bipush (v := 8) dX12_years_31 (by decide) ?_
      refine ok_iload_n dX12_years_33 1 rfl ?_
      refine ok_iconst (v := 2) dX12_years_34 (by decide) ?_
      refine ok_imul dX12_years_35 ?_
      refine ok_sipush (v := 269) dX12_years_36 (by decide) ?_
      refine ok_iadd dX12_years_39 ?_
      obtain ⟨I10, eI10, h⟩ := blE h
      refine ok_iast3 dX12_years_40 hT9 (by unfold vp_in; decide) (by decide) eI10 ?_
      refine ok_iconst (v := 0) dX12_years_41 (by decide) ?_
      refine ok_istore_n (l' := [(3, .int 0), (0, .ref a0), (1, .int x1), (2, .int x2)]) dX12_years_42 rfl (Nat.le_of_ble_eq_true rfl) rfl ?_
      refine ok_sub [1, 3, 0] rfl ?_
      exact o12_years_c43 d hW hQ  n I10 L a0 x2 (0 : Int32) hZ0 h
    · have h := (if_pos hc6).symm.trans h
      refine ok_iconst (v := (-1)) dX12_years_21 (by decide) ?_
      cases h
      exact ok_iret dX12_years_22 hQ
theorem k12_years {g : pG} {Q : Option Value → pW → Prop} {Z : pZ} {I : (Nat → Nat → Int32)} {L : (Nat → Nat → Int64)} {O : (Nat → Nat → Option Nat)} {n : Nat} {a0 : Nat} {x1 : Int32} {x2 : Int32} {res : Int32 × (Nat → Nat → Int32) × (Nat → Nat → Int64)} (d : Nat) (hW : WT Z O) (hZ0 : Z[a0]? = some (12, 34)) (h : f12_years n I L O a0 x1 x2 = some res) (hQ : Q (some (.int res.1)) (Z, res.2.1, res.2.2, O)) : CT g (d + 12) m12_years 0 0 [.ref a0, .int x1, .int x2] (Z, I, L, O) Q :=
  ct_of_ok (mt := m12_years) (ini := false) mo12_years.2.2.2.2 (fun h => by cases h) (Nat.le_of_ble_eq_true rfl) (o12_years d hW hZ0 h ⟨trivial, hQ, rfl, rfl⟩)
theorem dX12_learnt_0 : decode cX12_learnt 0 = .ok (.iconst 0, 1) := by decide +kernel
theorem dX12_learnt_1 : decode cX12_learnt 1 = .ok (.istore_n 2, 1) := by decide +kernel
theorem dX12_learnt_2 : decode cX12_learnt 2 = .ok (.iconst 1, 1) := by decide +kernel
theorem dX12_learnt_3 : decode cX12_learnt 3 = .ok (.istore_n 3, 1) := by decide +kernel
theorem dX12_learnt_4 : decode cX12_learnt 4 = .ok (.iload_n 3, 1) := by decide +kernel
theorem dX12_learnt_5 : decode cX12_learnt 5 = .ok (.iconst 5, 1) := by decide +kernel
theorem dX12_learnt_6 : decode cX12_learnt 6 = .ok (.if_icmp .gt 28, 3) := by decide +kernel
theorem dX12_learnt_9 : decode cX12_learnt 9 = .ok (.iload_n 2, 1) := by decide +kernel
theorem dX12_learnt_10 : decode cX12_learnt 10 = .ok (.aload_n 0, 1) := by decide +kernel
theorem dX12_learnt_11 : decode cX12_learnt 11 = .ok (.iload_n 1, 1) := by decide +kernel
theorem dX12_learnt_12 : decode cX12_learnt 12 = .ok (.iload_n 3, 1) := by decide +kernel
theorem dX12_learnt_13 : decode cX12_learnt 13 = .ok (.invokevirtual 392, 3) := by decide +kernel
theorem dX12_learnt_16 : decode cX12_learnt 16 = .ok (.ifCond .eq 9, 3) := by decide +kernel
theorem dX12_learnt_19 : decode cX12_learnt 19 = .ok (.iconst 1, 1) := by decide +kernel
theorem dX12_learnt_20 : decode cX12_learnt 20 = .ok (.iload_n 3, 1) := by decide +kernel
theorem dX12_learnt_21 : decode cX12_learnt 21 = .ok (.ishl, 1) := by decide +kernel
theorem dX12_learnt_22 : decode cX12_learnt 22 = .ok (.goto 4, 3) := by decide +kernel
theorem dX12_learnt_25 : decode cX12_learnt 25 = .ok (.iconst 0, 1) := by decide +kernel
theorem dX12_learnt_26 : decode cX12_learnt 26 = .ok (.ior, 1) := by decide +kernel
theorem dX12_learnt_27 : decode cX12_learnt 27 = .ok (.istore_n 2, 1) := by decide +kernel
theorem dX12_learnt_28 : decode cX12_learnt 28 = .ok (.iinc 3 1, 3) := by decide +kernel
theorem dX12_learnt_31 : decode cX12_learnt 31 = .ok (.goto (-27), 3) := by decide +kernel
theorem dX12_learnt_34 : decode cX12_learnt 34 = .ok (.iload_n 2, 1) := by decide +kernel
theorem dX12_learnt_35 : decode cX12_learnt 35 = .ok (.ireturn, 1) := by decide +kernel
def m12_learnt : pMT := (yX12_learnt, cX12_learnt, 4, some .int)
theorem mo12_learnt : mOK m12_learnt 1 := ⟨tb_i 1764 (by decide +kernel), wi_RX12, ⟨wn_RX12.1, wn_RX12.2, by decide +kernel⟩, by decide, plainFor_of_name wp_RX12⟩
theorem mv12_learnt : mV m12_learnt := ⟨tb_i 1763 (by decide +kernel), tb_p 113 (by decide +kernel)⟩
def f12_learnt_c4 (n : Nat) (O : (Nat → Nat → Option Nat)) : Nat → (Nat → Nat → Int32) → (Nat → Nat → Int64) → Nat → Int32 → Int32 → Int32 → Option (Int32 × (Nat → Nat → Int32) × (Nat → Nat → Int64))
  | 0, _, _, _, _, _, _ => none
  | m + 1, I, L, b0, y1, y2, y3 => (if (5 : Int32) < y3 then some (y2, I, L) else (f12_isLearnt n I L O b0 y1 y3).bind fun r2 => (if r2.1 = 0 then f12_learnt_c4 n O m r2.2.1 r2.2.2 b0 y1 (y2 ||| 0) (y3 + 1) else bl ((y2 ||| ((1 : Int32) <<< (y3 &&& 31))) : Int32) fun z5 => f12_learnt_c4 n O m r2.2.1 r2.2.2 b0 y1 z5 (y3 + 1)))
set_option maxHeartbeats 4000000 in
set_option maxRecDepth 20000 in
theorem o12_learnt_c4 {g : pG} {Qx : Option Value → pW → Prop} {Z : pZ} {O : (Nat → Nat → Option Nat)} {n : Nat} {res : Int32 × (Nat → Nat → Int32) × (Nat → Nat → Int64)} (d : Nat) (hW : WT Z O) (hQ : Qx (some (.int res.1)) (Z, res.2.1, res.2.2, O)) : ∀ (m : Nat) (I : (Nat → Nat → Int32)) (L : (Nat → Nat → Int64)) (b0 : Nat) (y1 : Int32) (y2 : Int32) (y3 : Int32), (Z[b0]? = some (12, 34)) → f12_learnt_c4 n O m I L b0 y1 y2 y3 = some res → Ok g (d + 10, RX12, cX12_learnt, 4, false, 0, 0, Z.length, pSl Z) Qx 4 [(0, .ref b0), (1, .int y1), (2, .int y2), (3, .int y3)] [] (Z, I, L, O) := by
  intro m
  induction m with
  | zero => intro I L b0 y1 y2 y3 hZ_b0 h; rw [f12_learnt_c4] at h; cases h
  | succ m ih =>
    intro I L b0 y1 y2 y3 hZ_b0 h
    rw [f12_learnt_c4] at h
    refine ok_iload_n dX12_learnt_4 3 rfl ?_
    refine ok_iconst (v := 5) dX12_learnt_5 (by decide) ?_
    refine ok_icmp_gt (t := 34) dX12_learnt_6 (by decide) (fun hc1 => ?_) (fun hc1 => ?_)
    · have h := (if_pos hc1).symm.trans h
      refine ok_iload_n dX12_learnt_34 2 rfl ?_
      cases h
      exact ok_iret dX12_learnt_35 hQ
    · have h := (if_neg hc1).symm.trans h
      refine ok_iload_n dX12_learnt_9 2 rfl ?_
      refine ok_aload_n dX12_learnt_10 0 rfl ?_
      refine ok_iload_n dX12_learnt_11 1 rfl ?_
      refine ok_iload_n dX12_learnt_12 3 rfl ?_
      obtain ⟨r2, hr3, h⟩ := bd h
      refine ok_callV (d := ((d + 0) + 9)) (mt := m12_isLearnt) (mc := 0) (ms := 0) (As := [.int y1, .int y3]) (r := [.int y2]) dX12_learnt_13 mo12_isLearnt mv12_isLearnt lkRX12_392 rfl hZ_b0 (q := (RX12, TX12, 34)) rfl rfl rfl (Nat.le_of_ble_eq_true rfl) (by show _ + 1 ≤ d + _; omega) (Nat.le_refl _) (Nat.le_refl _) (pRt_mono ?_)
      refine k12_isLearnt (d + 0) hW hZ_b0 hr3 ?_
      intro hbr2
      show Ok g _ Qx 16 [(0, .ref b0), (1, .int y1), (2, .int y2), (3, .int y3)] [.int r2.1, .int y2] (Z, r2.2.1, r2.2.2, O)
      refine ok_if_eq (t := 25) dX12_learnt_16 (by decide) (fun hc4 => ?_) (fun hc4 => ?_)
      · have h := (if_pos hc4).symm.trans h
        refine ok_iconst (v := 0) dX12_learnt_25 (by decide) ?_
        refine ok_ior dX12_learnt_26 ?_
        refine ok_istore_n (l' := [(2, .int (y2 ||| 0)), (0, .ref b0), (1, .int y1), (3, .int y3)]) dX12_learnt_27 rfl (Nat.le_of_ble_eq_true rfl) rfl ?_
        refine ok_iinc (u := (y3 + 1)) (l' := [(3, .int (y3 + 1)), (2, .int (y2 ||| 0)), (0, .ref b0), (1, .int y1)]) dX12_learnt_28 3 rfl rfl (Nat.le_of_ble_eq_true rfl) rfl ?_
        refine ok_goto (t := 4) dX12_learnt_31 (by decide) ?_
        refine ok_sub [2, 3, 1, 0] rfl ?_
        exact ih r2.2.1 r2.2.2 b0 y1 (y2 ||| 0) (y3 + 1) hZ_b0 h
      · have h := (if_neg hc4).symm.trans h
        refine ok_iconst (v := 1) dX12_learnt_19 (by decide) ?_
        refine ok_iload_n dX12_learnt_20 3 rfl ?_
        refine ok_ishl dX12_learnt_21 ?_
        refine ok_goto (t := 26) dX12_learnt_22 (by decide) ?_
        refine ok_ior dX12_learnt_26 ?_
        obtain ⟨z5, ez5, h⟩ := blE h
        refine ok_nm ez5 ?_
        refine ok_istore_n (l' := [(2, .int z5), (0, .ref b0), (1, .int y1), (3, .int y3)]) dX12_learnt_27 rfl (Nat.le_of_ble_eq_true rfl) rfl ?_
        refine ok_iinc (u := (y3 + 1)) (l' := [(3, .int (y3 + 1)), (2, .int z5), (0, .ref b0), (1, .int y1)]) dX12_learnt_28 3 rfl rfl (Nat.le_of_ble_eq_true rfl) rfl ?_
        refine ok_goto (t := 4) dX12_learnt_31 (by decide) ?_
        refine ok_sub [2, 3, 1, 0] rfl ?_
        exact ih r2.2.1 r2.2.2 b0 y1 z5 (y3 + 1) hZ_b0 h
def f12_learnt (n : Nat) (I : (Nat → Nat → Int32)) (L : (Nat → Nat → Int64)) (O : (Nat → Nat → Option Nat)) (a0 : Nat) (x1 : Int32) : Option (Int32 × (Nat → Nat → Int32) × (Nat → Nat → Int64)) := f12_learnt_c4 n O n I L a0 x1 (0 : Int32) (1 : Int32)
set_option maxHeartbeats 4000000 in
set_option maxRecDepth 20000 in
theorem o12_learnt {g : pG} {Qx : Option Value → pW → Prop} {Z : pZ} {I : (Nat → Nat → Int32)} {L : (Nat → Nat → Int64)} {O : (Nat → Nat → Option Nat)} {n : Nat} {a0 : Nat} {x1 : Int32} {res : Int32 × (Nat → Nat → Int32) × (Nat → Nat → Int64)} (d : Nat) (hW : WT Z O) (hZ0 : Z[a0]? = some (12, 34)) (h : f12_learnt n I L O a0 x1 = some res) (hQ : Qx (some (.int res.1)) (Z, res.2.1, res.2.2, O)) : Ok g (d + 10, RX12, cX12_learnt, 4, false, 0, 0, Z.length, pSl Z) Qx 0 [(0, .ref a0), (1, .int x1)] [] (Z, I, L, O) := by
  unfold f12_learnt at h
  refine ok_iconst (v := 0) dX12_learnt_0 (by decide) ?_
  refine ok_istore_n (l' := [(2, .int 0), (0, .ref a0), (1, .int x1)]) dX12_learnt_1 rfl (Nat.le_of_ble_eq_true rfl) rfl ?_
  refine ok_iconst (v := 1) dX12_learnt_2 (by decide) ?_
  refine ok_istore_n (l' := [(3, .int 1), (2, .int 0), (0, .ref a0), (1, .int x1)]) dX12_learnt_3 rfl (Nat.le_of_ble_eq_true rfl) rfl ?_
  refine ok_sub [2, 3, 1, 0] rfl ?_
  exact o12_learnt_c4 d hW hQ  n I L a0 x1 (0 : Int32) (1 : Int32) hZ0 h
theorem k12_learnt {g : pG} {Q : Option Value → pW → Prop} {Z : pZ} {I : (Nat → Nat → Int32)} {L : (Nat → Nat → Int64)} {O : (Nat → Nat → Option Nat)} {n : Nat} {a0 : Nat} {x1 : Int32} {res : Int32 × (Nat → Nat → Int32) × (Nat → Nat → Int64)} (d : Nat) (hW : WT Z O) (hZ0 : Z[a0]? = some (12, 34)) (h : f12_learnt n I L O a0 x1 = some res) (hQ : Q (some (.int res.1)) (Z, res.2.1, res.2.2, O)) : CT g (d + 10) m12_learnt 0 0 [.ref a0, .int x1] (Z, I, L, O) Q :=
  ct_of_ok (mt := m12_learnt) (ini := false) mo12_learnt.2.2.2.2 (fun h => by cases h) (Nat.le_of_ble_eq_true rfl) (o12_learnt d hW hZ0 h ⟨trivial, hQ, rfl, rfl⟩)
theorem dX12_heardMost_0 : decode cX12_heardMost 0 = .ok (.iconst (-1), 1) := by decide +kernel
theorem dX12_heardMost_1 : decode cX12_heardMost 1 = .ok (.istore_n 2, 1) := by decide +kernel
theorem dX12_heardMost_2 : decode cX12_heardMost 2 = .ok (.iconst 1, 1) := by decide +kernel
theorem dX12_heardMost_3 : decode cX12_heardMost 3 = .ok (.istore_n 3, 1) := by decide +kernel
theorem dX12_heardMost_4 : decode cX12_heardMost 4 = .ok (.iload_n 3, 1) := by decide +kernel
theorem dX12_heardMost_5 : decode cX12_heardMost 5 = .ok (.iconst 5, 1) := by decide +kernel
theorem dX12_heardMost_6 : decode cX12_heardMost 6 = .ok (.if_icmp .gt 35, 3) := by decide +kernel
theorem dX12_heardMost_9 : decode cX12_heardMost 9 = .ok (.aload_n 0, 1) := by decide +kernel
theorem dX12_heardMost_10 : decode cX12_heardMost 10 = .ok (.iload_n 1, 1) := by decide +kernel
theorem dX12_heardMost_11 : decode cX12_heardMost 11 = .ok (.iload_n 3, 1) := by decide +kernel
theorem dX12_heardMost_12 : decode cX12_heardMost 12 = .ok (.invokevirtual 306, 3) := by decide +kernel
theorem dX12_heardMost_15 : decode cX12_heardMost 15 = .ok (.iload_n 2, 1) := by decide +kernel
theorem dX12_heardMost_16 : decode cX12_heardMost 16 = .ok (.iconst (-1), 1) := by decide +kernel
theorem dX12_heardMost_17 : decode cX12_heardMost 17 = .ok (.if_icmp .ne 7, 3) := by decide +kernel
theorem dX12_heardMost_20 : decode cX12_heardMost 20 = .ok (.iconst 0, 1) := by decide +kernel
theorem dX12_heardMost_21 : decode cX12_heardMost 21 = .ok (.goto 9, 3) := by decide +kernel
theorem dX12_heardMost_24 : decode cX12_heardMost 24 = .ok (.aload_n 0, 1) := by decide +kernel
theorem dX12_heardMost_25 : decode cX12_heardMost 25 = .ok (.iload_n 1, 1) := by decide +kernel
theorem dX12_heardMost_26 : decode cX12_heardMost 26 = .ok (.iload_n 2, 1) := by decide +kernel
theorem dX12_heardMost_27 : decode cX12_heardMost 27 = .ok (.invokevirtual 306, 3) := by decide +kernel
theorem dX12_heardMost_30 : decode cX12_heardMost 30 = .ok (.if_icmp .le 5, 3) := by decide +kernel
theorem dX12_heardMost_33 : decode cX12_heardMost 33 = .ok (.iload_n 3, 1) := by decide +kernel
theorem dX12_heardMost_34 : decode cX12_heardMost 34 = .ok (.istore_n 2, 1) := by decide +kernel
theorem dX12_heardMost_35 : decode cX12_heardMost 35 = .ok (.iinc 3 1, 3) := by decide +kernel
theorem dX12_heardMost_38 : decode cX12_heardMost 38 = .ok (.goto (-34), 3) := by decide +kernel
theorem dX12_heardMost_41 : decode cX12_heardMost 41 = .ok (.iload_n 2, 1) := by decide +kernel
theorem dX12_heardMost_42 : decode cX12_heardMost 42 = .ok (.ireturn, 1) := by decide +kernel
def m12_heardMost : pMT := (yX12_heardMost, cX12_heardMost, 4, some .int)
theorem mo12_heardMost : mOK m12_heardMost 1 := ⟨tb_i 1776 (by decide +kernel), wi_RX12, ⟨wn_RX12.1, wn_RX12.2, by decide +kernel⟩, by decide, plainFor_of_name wp_RX12⟩
theorem mv12_heardMost : mV m12_heardMost := ⟨tb_i 1775 (by decide +kernel), tb_p 116 (by decide +kernel)⟩
def f12_heardMost_c4 (n : Nat) (I : (Nat → Nat → Int32)) (O : (Nat → Nat → Option Nat)) : Nat → Nat → Int32 → Int32 → Int32 → Option (Int32)
  | 0, _, _, _, _ => none
  | m + 1, b0, y1, y2, y3 => (if (5 : Int32) < y3 then some (y2) else (f12_heardBy I O b0 y1 y3).bind fun r2 => (if y2 = (-1 : Int32) then (if r2 ≤ (0 : Int32) then f12_heardMost_c4 n I O m b0 y1 y2 (y3 + 1) else f12_heardMost_c4 n I O m b0 y1 y3 (y3 + 1)) else (f12_heardBy I O b0 y1 y2).bind fun r5 => (if r2 ≤ r5 then f12_heardMost_c4 n I O m b0 y1 y2 (y3 + 1) else f12_heardMost_c4 n I O m b0 y1 y3 (y3 + 1))))
set_option maxHeartbeats 4000000 in
set_option maxRecDepth 20000 in
theorem o12_heardMost_c4 {g : pG} {Qx : Option Value → pW → Prop} {Z : pZ} {I : (Nat → Nat → Int32)} {L : (Nat → Nat → Int64)} {O : (Nat → Nat → Option Nat)} {n : Nat} {res : Int32} (d : Nat) (hW : WT Z O) (hQ : Qx (some (.int res)) (Z, I, L, O)) : ∀ (m : Nat) (b0 : Nat) (y1 : Int32) (y2 : Int32) (y3 : Int32), (Z[b0]? = some (12, 34)) → f12_heardMost_c4 n I O m b0 y1 y2 y3 = some res → Ok g (d + 3, RX12, cX12_heardMost, 4, false, 0, 0, Z.length, pSl Z) Qx 4 [(0, .ref b0), (1, .int y1), (2, .int y2), (3, .int y3)] [] (Z, I, L, O) := by
  intro m
  induction m with
  | zero => intro b0 y1 y2 y3 hZ_b0 h; rw [f12_heardMost_c4] at h; cases h
  | succ m ih =>
    intro b0 y1 y2 y3 hZ_b0 h
    rw [f12_heardMost_c4] at h
    refine ok_iload_n dX12_heardMost_4 3 rfl ?_
    refine ok_iconst (v := 5) dX12_heardMost_5 (by decide) ?_
    refine ok_icmp_gt (t := 41) dX12_heardMost_6 (by decide) (fun hc1 => ?_) (fun hc1 => ?_)
    · have h := (if_pos hc1).symm.trans h
      refine ok_iload_n dX12_heardMost_41 2 rfl ?_
      cases h
      exact ok_iret dX12_heardMost_42 hQ
    · have h := (if_neg hc1).symm.trans h
      refine ok_aload_n dX12_heardMost_9 0 rfl ?_
      refine ok_iload_n dX12_heardMost_10 1 rfl ?_
      refine ok_iload_n dX12_heardMost_11 3 rfl ?_
      obtain ⟨r2, hr3, h⟩ := bd h
      refine ok_callV (d := ((d + 0) + 2)) (mt := m12_heardBy) (mc := 0) (ms := 0) (As := [.int y1, .int y3]) (r := []) dX12_heardMost_12 mo12_heardBy mv12_heardBy lkRX12_306 rfl hZ_b0 (q := (RX12, TX12, 34)) rfl rfl rfl (Nat.le_of_ble_eq_true rfl) (by show _ + 1 ≤ d + _; omega) (Nat.le_refl _) (Nat.le_refl _) (pRt_mono ?_)
      refine k12_heardBy (d + 0) hW hZ_b0 hr3 ?_
      intro _
      show Ok g _ Qx 15 [(0, .ref b0), (1, .int y1), (2, .int y2), (3, .int y3)] [.int r2] (Z, I, L, O)
      refine ok_iload_n dX12_heardMost_15 2 rfl ?_
      refine ok_iconst (v := (-1)) dX12_heardMost_16 (by decide) ?_
      refine ok_icmp_ne (t := 24) dX12_heardMost_17 (by decide) (fun hc4 => ?_) (fun hc4 => ?_)
      · have h := (if_neg hc4).symm.trans h
        refine ok_aload_n dX12_heardMost_24 0 rfl ?_
        refine ok_iload_n dX12_heardMost_25 1 rfl ?_
        refine ok_iload_n dX12_heardMost_26 2 rfl ?_
        obtain ⟨r5, hr6, h⟩ := bd h
        refine ok_callV (d := ((d + 0) + 2)) (mt := m12_heardBy) (mc := 0) (ms := 0) (As := [.int y1, .int y2]) (r := [.int r2]) dX12_heardMost_27 mo12_heardBy mv12_heardBy lkRX12_306 rfl hZ_b0 (q := (RX12, TX12, 34)) rfl rfl rfl (Nat.le_of_ble_eq_true rfl) (by show _ + 1 ≤ d + _; omega) (Nat.le_refl _) (Nat.le_refl _) (pRt_mono ?_)
        refine k12_heardBy (d + 0) hW hZ_b0 hr6 ?_
        intro _
        show Ok g _ Qx 30 [(0, .ref b0), (1, .int y1), (2, .int y2), (3, .int y3)] [.int r5, .int r2] (Z, I, L, O)
        refine ok_icmp_le (t := 35) dX12_heardMost_30 (by decide) (fun hc7 => ?_) (fun hc7 => ?_)
        · have h := (if_pos hc7).symm.trans h
          refine ok_iinc (u := (y3 + 1)) (l' := [(3, .int (y3 + 1)), (0, .ref b0), (1, .int y1), (2, .int y2)]) dX12_heardMost_35 3 rfl rfl (Nat.le_of_ble_eq_true rfl) rfl ?_
          refine ok_goto (t := 4) dX12_heardMost_38 (by decide) ?_
          refine ok_sub [1, 2, 3, 0] rfl ?_
          exact ih b0 y1 y2 (y3 + 1) hZ_b0 h
        · have h := (if_neg hc7).symm.trans h
          refine ok_iload_n dX12_heardMost_33 3 rfl ?_
          refine ok_istore_n (l' := [(2, .int y3), (0, .ref b0), (1, .int y1), (3, .int y3)]) dX12_heardMost_34 rfl (Nat.le_of_ble_eq_true rfl) rfl ?_
          refine ok_iinc (u := (y3 + 1)) (l' := [(3, .int (y3 + 1)), (2, .int y3), (0, .ref b0), (1, .int y1)]) dX12_heardMost_35 3 rfl rfl (Nat.le_of_ble_eq_true rfl) rfl ?_
          refine ok_goto (t := 4) dX12_heardMost_38 (by decide) ?_
          refine ok_sub [2, 3, 1, 0] rfl ?_
          exact ih b0 y1 y3 (y3 + 1) hZ_b0 h
      · have h := (if_pos hc4).symm.trans h
        refine ok_iconst (v := 0) dX12_heardMost_20 (by decide) ?_
        refine ok_goto (t := 30) dX12_heardMost_21 (by decide) ?_
        refine ok_icmp_le (t := 35) dX12_heardMost_30 (by decide) (fun hc8 => ?_) (fun hc8 => ?_)
        · have h := (if_pos hc8).symm.trans h
          refine ok_iinc (u := (y3 + 1)) (l' := [(3, .int (y3 + 1)), (0, .ref b0), (1, .int y1), (2, .int y2)]) dX12_heardMost_35 3 rfl rfl (Nat.le_of_ble_eq_true rfl) rfl ?_
          refine ok_goto (t := 4) dX12_heardMost_38 (by decide) ?_
          refine ok_sub [1, 2, 3, 0] rfl ?_
          exact ih b0 y1 y2 (y3 + 1) hZ_b0 h
        · have h := (if_neg hc8).symm.trans h
          refine ok_iload_n dX12_heardMost_33 3 rfl ?_
          refine ok_istore_n (l' := [(2, .int y3), (0, .ref b0), (1, .int y1), (3, .int y3)]) dX12_heardMost_34 rfl (Nat.le_of_ble_eq_true rfl) rfl ?_
          refine ok_iinc (u := (y3 + 1)) (l' := [(3, .int (y3 + 1)), (2, .int y3), (0, .ref b0), (1, .int y1)]) dX12_heardMost_35 3 rfl rfl (Nat.le_of_ble_eq_true rfl) rfl ?_
          refine ok_goto (t := 4) dX12_heardMost_38 (by decide) ?_
          refine ok_sub [2, 3, 1, 0] rfl ?_
          exact ih b0 y1 y3 (y3 + 1) hZ_b0 h
def f12_heardMost (n : Nat) (I : (Nat → Nat → Int32)) (O : (Nat → Nat → Option Nat)) (a0 : Nat) (x1 : Int32) : Option (Int32) := f12_heardMost_c4 n I O n a0 x1 (-1 : Int32) (1 : Int32)
set_option maxHeartbeats 4000000 in
set_option maxRecDepth 20000 in
theorem o12_heardMost {g : pG} {Qx : Option Value → pW → Prop} {Z : pZ} {I : (Nat → Nat → Int32)} {L : (Nat → Nat → Int64)} {O : (Nat → Nat → Option Nat)} {n : Nat} {a0 : Nat} {x1 : Int32} {res : Int32} (d : Nat) (hW : WT Z O) (hZ0 : Z[a0]? = some (12, 34)) (h : f12_heardMost n I O a0 x1 = some res) (hQ : Qx (some (.int res)) (Z, I, L, O)) : Ok g (d + 3, RX12, cX12_heardMost, 4, false, 0, 0, Z.length, pSl Z) Qx 0 [(0, .ref a0), (1, .int x1)] [] (Z, I, L, O) := by
  unfold f12_heardMost at h
  refine ok_iconst (v := (-1)) dX12_heardMost_0 (by decide) ?_
  refine ok_istore_n (l' := [(2, .int (-1)), (0, .ref a0), (1, .int x1)]) dX12_heardMost_1 rfl (Nat.le_of_ble_eq_true rfl) rfl ?_
  refine ok_iconst (v := 1) dX12_heardMost_2 (by decide) ?_
  refine ok_istore_n (l' := [(3, .int 1), (2, .int (-1)), (0, .ref a0), (1, .int x1)]) dX12_heardMost_3 rfl (Nat.le_of_ble_eq_true rfl) rfl ?_
  refine ok_sub [2, 3, 1, 0] rfl ?_
  exact o12_heardMost_c4 d hW hQ  n a0 x1 (-1 : Int32) (1 : Int32) hZ0 h
theorem k12_heardMost {g : pG} {Q : Option Value → pW → Prop} {Z : pZ} {I : (Nat → Nat → Int32)} {L : (Nat → Nat → Int64)} {O : (Nat → Nat → Option Nat)} {n : Nat} {a0 : Nat} {x1 : Int32} {res : Int32} (d : Nat) (hW : WT Z O) (hZ0 : Z[a0]? = some (12, 34)) (h : f12_heardMost n I O a0 x1 = some res) (hQ : Q (some (.int res)) (Z, I, L, O)) : CT g (d + 3) m12_heardMost 0 0 [.ref a0, .int x1] (Z, I, L, O) Q :=
  ct_of_ok (mt := m12_heardMost) (ini := false) mo12_heardMost.2.2.2.2 (fun h => by cases h) (Nat.le_of_ble_eq_true rfl) (o12_heardMost d hW hZ0 h ⟨trivial, hQ, rfl, rfl⟩)
theorem dX12_of_0 : decode cX12_of 0 = .ok (.aload_n 0, 1) := by decide +kernel
theorem dX12_of_1 : decode cX12_of 1 = .ok (.iload_n 1, 1) := by decide +kernel
theorem dX12_of_2 : decode cX12_of 2 = .ok (.invokevirtual 353, 3) := by decide +kernel
theorem dX12_of_5 : decode cX12_of 5 = .ok (.ifCond .ne 5, 3) := by decide +kernel
theorem dX12_of_8 : decode cX12_of 8 = .ok (.iconst (-1), 1) := by decide +kernel
theorem dX12_of_9 : decode cX12_of 9 = .ok (.ireturn, 1) := by decide +kernel
theorem dX12_of_10 : decode cX12_of 10 = .ok (.iconst 0, 1) := by decide +kernel
theorem dX12_of_11 : decode cX12_of 11 = .ok (.istore_n 3, 1) := by decide +kernel
theorem dX12_of_12 : decode cX12_of 12 = .ok (.iconst 1, 1) := by decide +kernel
theorem dX12_of_13 : decode cX12_of 13 = .ok (.istore 4, 2) := by decide +kernel
theorem dX12_of_15 : decode cX12_of 15 = .ok (.iload 4, 2) := by decide +kernel
theorem dX12_of_17 : decode cX12_of 17 = .ok (.iconst 5, 1) := by decide +kernel
theorem dX12_of_18 : decode cX12_of 18 = .ok (.if_icmp .gt 19, 3) := by decide +kernel
theorem dX12_of_21 : decode cX12_of 21 = .ok (.iload_n 3, 1) := by decide +kernel
theorem dX12_of_22 : decode cX12_of 22 = .ok (.aload_n 0, 1) := by decide +kernel
theorem dX12_of_23 : decode cX12_of 23 = .ok (.iload_n 1, 1) := by decide +kernel
theorem dX12_of_24 : decode cX12_of 24 = .ok (.iload 4, 2) := by decide +kernel
theorem dX12_of_26 : decode cX12_of 26 = .ok (.invokevirtual 306, 3) := by decide +kernel
theorem dX12_of_29 : decode cX12_of 29 = .ok (.iadd, 1) := by decide +kernel
theorem dX12_of_30 : decode cX12_of 30 = .ok (.istore_n 3, 1) := by decide +kernel
theorem dX12_of_31 : decode cX12_of 31 = .ok (.iinc 4 1, 3) := by decide +kernel
theorem dX12_of_34 : decode cX12_of 34 = .ok (.goto (-19), 3) := by decide +kernel
theorem dX12_of_37 : decode cX12_of 37 = .ok (.iload_n 2, 1) := by decide +kernel
theorem dX12_of_38 : decode cX12_of 38 = .ok (.ifCond .ne 11, 3) := by decide +kernel
theorem dX12_of_41 : decode cX12_of 41 = .ok (.aload_n 0, 1) := by decide +kernel
theorem dX12_of_42 : decode cX12_of 42 = .ok (.iload_n 1, 1) := by decide +kernel
theorem dX12_of_43 : decode cX12_of 43 = .ok (.invokevirtual 395, 3) := by decide +kernel
theorem dX12_of_46 : decode cX12_of 46 = .ok (.goto 26, 3) := by decide +kernel
theorem dX12_of_49 : decode cX12_of 49 = .ok (.iload_n 2, 1) := by decide +kernel
theorem dX12_of_50 : decode cX12_of 50 = .ok (.iconst 1, 1) := by decide +kernel
theorem dX12_of_51 : decode cX12_of 51 = .ok (.if_icmp .ne 7, 3) := by decide +kernel
theorem dX12_of_54 : decode cX12_of 54 = .ok (.iload_n 3, 1) := by decide +kernel
theorem dX12_of_55 : decode cX12_of 55 = .ok (.goto 17, 3) := by decide +kernel
theorem dX12_of_58 : decode cX12_of 58 = .ok (.iload_n 2, 1) := by decide +kernel
theorem dX12_of_59 : decode cX12_of 59 = .ok (.iconst 2, 1) := by decide +kernel
theorem dX12_of_60 : decode cX12_of 60 = .ok (.if_icmp .ne 11, 3) := by decide +kernel
theorem dX12_of_63 : decode cX12_of 63 = .ok (.aload_n 0, 1) := by decide +kernel
theorem dX12_of_64 : decode cX12_of 64 = .ok (.iload_n 1, 1) := by decide +kernel
theorem dX12_of_65 : decode cX12_of 65 = .ok (.invokevirtual 398, 3) := by decide +kernel
theorem dX12_of_68 : decode cX12_of 68 = .ok (.goto 4, 3) := by decide +kernel
theorem dX12_of_71 : decode cX12_of 71 = .ok (.iconst (-1), 1) := by decide +kernel
theorem dX12_of_72 : decode cX12_of 72 = .ok (.ireturn, 1) := by decide +kernel
def m12_of : pMT := (yX12_of, cX12_of, 5, some .int)
theorem mo12_of : mOK m12_of 2 := ⟨tb_i 1760 (by decide +kernel), wi_RX12, ⟨wn_RX12.1, wn_RX12.2, by decide +kernel⟩, by decide, plainFor_of_name wp_RX12⟩
theorem mv12_of : mV m12_of := ⟨tb_i 1758 (by decide +kernel), tb_i 1759 (by decide +kernel)⟩
def f12_of_c15 (n : Nat) (O : (Nat → Nat → Option Nat)) : Nat → (Nat → Nat → Int32) → (Nat → Nat → Int64) → Nat → Int32 → Int32 → Int32 → Int32 → Option (Int32 × (Nat → Nat → Int32) × (Nat → Nat → Int64))
  | 0, _, _, _, _, _, _, _ => none
  | m + 1, I, L, b0, y1, y2, y3, y4 => (if (5 : Int32) < y4 then (if y2 = 0 then (f12_learnt n I L O b0 y1).bind fun r7 => some (r7.1, r7.2.1, r7.2.2) else (if y2 = (1 : Int32) then some (y3, I, L) else (if y2 = (2 : Int32) then (f12_heardMost n I O b0 y1).bind fun r5 => some (r5, I, L) else some (((-1) : Int32), I, L)))) else (f12_heardBy I O b0 y1 y4).bind fun r9 => f12_of_c15 n O m I L b0 y1 y2 (y3 + r9) (y4 + 1))
set_option maxHeartbeats 4000000 in
set_option maxRecDepth 20000 in
theorem o12_of_c15 {g : pG} {Qx : Option Value → pW → Prop} {Z : pZ} {O : (Nat → Nat → Option Nat)} {n : Nat} {res : Int32 × (Nat → Nat → Int32) × (Nat → Nat → Int64)} (d : Nat) (hW : WT Z O) (hQ : Qx (some (.int res.1)) (Z, res.2.1, res.2.2, O)) : ∀ (m : Nat) (I : (Nat → Nat → Int32)) (L : (Nat → Nat → Int64)) (b0 : Nat) (y1 : Int32) (y2 : Int32) (y3 : Int32) (y4 : Int32), (Z[b0]? = some (12, 34)) → f12_of_c15 n O m I L b0 y1 y2 y3 y4 = some res → Ok g (d + 11, RX12, cX12_of, 5, false, 0, 0, Z.length, pSl Z) Qx 15 [(0, .ref b0), (1, .int y1), (2, .int y2), (3, .int y3), (4, .int y4)] [] (Z, I, L, O) := by
  intro m
  induction m with
  | zero => intro I L b0 y1 y2 y3 y4 hZ_b0 h; rw [f12_of_c15] at h; cases h
  | succ m ih =>
    intro I L b0 y1 y2 y3 y4 hZ_b0 h
    rw [f12_of_c15] at h
    refine ok_iload dX12_of_15 4 rfl ?_
    refine ok_iconst (v := 5) dX12_of_17 (by decide) ?_
    refine ok_icmp_gt (t := 37) dX12_of_18 (by decide) (fun hc1 => ?_) (fun hc1 => ?_)
    · have h := (if_pos hc1).symm.trans h
      refine ok_iload_n dX12_of_37 2 rfl ?_
      refine ok_if_ne (t := 49) dX12_of_38 (by decide) (fun hc2 => ?_) (fun hc2 => ?_)
      · have h := (if_neg hc2).symm.trans h
        refine ok_iload_n dX12_of_49 2 rfl ?_
        refine ok_iconst (v := 1) dX12_of_50 (by decide) ?_
        refine ok_icmp_ne (t := 58) dX12_of_51 (by decide) (fun hc3 => ?_) (fun hc3 => ?_)
        · have h := (if_neg hc3).symm.trans h
          refine ok_iload_n dX12_of_58 2 rfl ?_
          refine ok_iconst (v := 2) dX12_of_59 (by decide) ?_
          refine ok_icmp_ne (t := 71) dX12_of_60 (by decide) (fun hc4 => ?_) (fun hc4 => ?_)
          · have h := (if_neg hc4).symm.trans h
            refine ok_iconst (v := (-1)) dX12_of_71 (by decide) ?_
            cases h
            exact ok_iret dX12_of_72 hQ
          · have h := (if_pos hc4).symm.trans h
            refine ok_aload_n dX12_of_63 0 rfl ?_
            refine ok_iload_n dX12_of_64 1 rfl ?_
            obtain ⟨r5, hr6, h⟩ := bd h
            refine ok_callV (d := ((d + 7) + 3)) (mt := m12_heardMost) (mc := 0) (ms := 0) (As := [.int y1]) (r := []) dX12_of_65 mo12_heardMost mv12_heardMost lkRX12_398 rfl hZ_b0 (q := (RX12, TX12, 34)) rfl rfl rfl (Nat.le_of_ble_eq_true rfl) (by show _ + 1 ≤ d + _; omega) (Nat.le_refl _) (Nat.le_refl _) (pRt_mono ?_)
            refine k12_heardMost (d + 7) hW hZ_b0 hr6 ?_
            intro _
            show Ok g _ Qx 68 [(0, .ref b0), (1, .int y1), (2, .int y2), (3, .int y3), (4, .int y4)] [.int r5] (Z, I, L, O)
            refine ok_goto (t := 72) dX12_of_68 (by decide) ?_
            cases h
            exact ok_iret dX12_of_72 hQ
        · have h := (if_pos hc3).symm.trans h
          refine ok_iload_n dX12_of_54 3 rfl ?_
          refine ok_goto (t := 72) dX12_of_55 (by decide) ?_
          cases h
          exact ok_iret dX12_of_72 hQ
      · have h := (if_pos hc2).symm.trans h
        refine ok_aload_n dX12_of_41 0 rfl ?_
        refine ok_iload_n dX12_of_42 1 rfl ?_
        obtain ⟨r7, hr8, h⟩ := bd h
        refine ok_callV (d := ((d + 0) + 10)) (mt := m12_learnt) (mc := 0) (ms := 0) (As := [.int y1]) (r := []) dX12_of_43 mo12_learnt mv12_learnt lkRX12_395 rfl hZ_b0 (q := (RX12, TX12, 34)) rfl rfl rfl (Nat.le_of_ble_eq_true rfl) (by show _ + 1 ≤ d + _; omega) (Nat.le_refl _) (Nat.le_refl _) (pRt_mono ?_)
        refine k12_learnt (d + 0) hW hZ_b0 hr8 ?_
        intro _
        show Ok g _ Qx 46 [(0, .ref b0), (1, .int y1), (2, .int y2), (3, .int y3), (4, .int y4)] [.int r7.1] (Z, r7.2.1, r7.2.2, O)
        refine ok_goto (t := 72) dX12_of_46 (by decide) ?_
        cases h
        exact ok_iret dX12_of_72 hQ
    · have h := (if_neg hc1).symm.trans h
      refine ok_iload_n dX12_of_21 3 rfl ?_
      refine ok_aload_n dX12_of_22 0 rfl ?_
      refine ok_iload_n dX12_of_23 1 rfl ?_
      refine ok_iload dX12_of_24 4 rfl ?_
      obtain ⟨r9, hr10, h⟩ := bd h
      refine ok_callV (d := ((d + 8) + 2)) (mt := m12_heardBy) (mc := 0) (ms := 0) (As := [.int y1, .int y4]) (r := [.int y3]) dX12_of_26 mo12_heardBy mv12_heardBy lkRX12_306 rfl hZ_b0 (q := (RX12, TX12, 34)) rfl rfl rfl (Nat.le_of_ble_eq_true rfl) (by show _ + 1 ≤ d + _; omega) (Nat.le_refl _) (Nat.le_refl _) (pRt_mono ?_)
      refine k12_heardBy (d + 8) hW hZ_b0 hr10 ?_
      intro _
      show Ok g _ Qx 29 [(0, .ref b0), (1, .int y1), (2, .int y2), (3, .int y3), (4, .int y4)] [.int r9, .int y3] (Z, I, L, O)
      refine ok_iadd dX12_of_29 ?_
      refine ok_istore_n (l' := [(3, .int (y3 + r9)), (0, .ref b0), (1, .int y1), (2, .int y2), (4, .int y4)]) dX12_of_30 rfl (Nat.le_of_ble_eq_true rfl) rfl ?_
      refine ok_iinc (u := (y4 + 1)) (l' := [(4, .int (y4 + 1)), (3, .int (y3 + r9)), (0, .ref b0), (1, .int y1), (2, .int y2)]) dX12_of_31 4 rfl rfl (Nat.le_of_ble_eq_true rfl) rfl ?_
      refine ok_goto (t := 15) dX12_of_34 (by decide) ?_
      refine ok_sub [2, 3, 4, 1, 0] rfl ?_
      exact ih I L b0 y1 y2 (y3 + r9) (y4 + 1) hZ_b0 h
def f12_of (n : Nat) (I : (Nat → Nat → Int32)) (L : (Nat → Nat → Int64)) (O : (Nat → Nat → Option Nat)) (a0 : Nat) (x1 : Int32) (x2 : Int32) : Option (Int32 × (Nat → Nat → Int32) × (Nat → Nat → Int64)) := (f12_isChild I O a0 x1).bind fun r1 => (if r1 = 0 then some (((-1) : Int32), I, L) else f12_of_c15 n O n I L a0 x1 x2 (0 : Int32) (1 : Int32))
set_option maxHeartbeats 4000000 in
set_option maxRecDepth 20000 in
theorem o12_of {g : pG} {Qx : Option Value → pW → Prop} {Z : pZ} {I : (Nat → Nat → Int32)} {L : (Nat → Nat → Int64)} {O : (Nat → Nat → Option Nat)} {n : Nat} {a0 : Nat} {x1 : Int32} {x2 : Int32} {res : Int32 × (Nat → Nat → Int32) × (Nat → Nat → Int64)} (d : Nat) (hW : WT Z O) (hZ0 : Z[a0]? = some (12, 34)) (h : f12_of n I L O a0 x1 x2 = some res) (hQ : Qx (some (.int res.1)) (Z, res.2.1, res.2.2, O)) : Ok g (d + 11, RX12, cX12_of, 5, false, 0, 0, Z.length, pSl Z) Qx 0 [(0, .ref a0), (1, .int x1), (2, .int x2)] [] (Z, I, L, O) := by
  unfold f12_of at h
  refine ok_aload_n dX12_of_0 0 rfl ?_
  refine ok_iload_n dX12_of_1 1 rfl ?_
  obtain ⟨r1, hr2, h⟩ := bd h
  refine ok_callV (d := ((d + 7) + 3)) (mt := m12_isChild) (mc := 0) (ms := 0) (As := [.int x1]) (r := []) dX12_of_2 mo12_isChild mv12_isChild lkRX12_353 rfl hZ0 (q := (RX12, TX12, 34)) rfl rfl rfl (Nat.le_of_ble_eq_true rfl) (by show _ + 1 ≤ d + _; omega) (Nat.le_refl _) (Nat.le_refl _) (pRt_mono ?_)
  refine k12_isChild (d + 7) hW hZ0 hr2 ?_
  intro hbr1
  show Ok g _ Qx 5 [(0, .ref a0), (1, .int x1), (2, .int x2)] [.int r1] (Z, I, L, O)
  refine ok_if_ne (t := 10) dX12_of_5 (by decide) (fun hc3 => ?_) (fun hc3 => ?_)
  · have h := (if_neg hc3).symm.trans h
    refine ok_iconst (v := 0) dX12_of_10 (by decide) ?_
    refine ok_istore_n (l' := [(3, .int 0), (0, .ref a0), (1, .int x1), (2, .int x2)]) dX12_of_11 rfl (Nat.le_of_ble_eq_true rfl) rfl ?_
    refine ok_iconst (v := 1) dX12_of_12 (by decide) ?_
    refine ok_istore (l' := [(4, .int 1), (3, .int 0), (0, .ref a0), (1, .int x1), (2, .int x2)]) dX12_of_13 (Nat.le_of_ble_eq_true rfl) rfl ?_
    refine ok_sub [2, 3, 4, 1, 0] rfl ?_
    exact o12_of_c15 d hW hQ  n I L a0 x1 x2 (0 : Int32) (1 : Int32) hZ0 h
  · have h := (if_pos hc3).symm.trans h
    refine ok_iconst (v := (-1)) dX12_of_8 (by decide) ?_
    cases h
    exact ok_iret dX12_of_9 hQ
theorem k12_of {g : pG} {Q : Option Value → pW → Prop} {Z : pZ} {I : (Nat → Nat → Int32)} {L : (Nat → Nat → Int64)} {O : (Nat → Nat → Option Nat)} {n : Nat} {a0 : Nat} {x1 : Int32} {x2 : Int32} {res : Int32 × (Nat → Nat → Int32) × (Nat → Nat → Int64)} (d : Nat) (hW : WT Z O) (hZ0 : Z[a0]? = some (12, 34)) (h : f12_of n I L O a0 x1 x2 = some res) (hQ : Q (some (.int res.1)) (Z, res.2.1, res.2.2, O)) : CT g (d + 11) m12_of 0 0 [.ref a0, .int x1, .int x2] (Z, I, L, O) Q :=
  ct_of_ok (mt := m12_of) (ini := false) mo12_of.2.2.2.2 (fun h => by cases h) (Nat.le_of_ble_eq_true rfl) (o12_of d hW hZ0 h ⟨trivial, hQ, rfl, rfl⟩)
theorem dX12_heard_0 : decode cX12_heard 0 = .ok (.aload_n 0, 1) := by decide +kernel
theorem dX12_heard_1 : decode cX12_heard 1 = .ok (.iload_n 1, 1) := by decide +kernel
theorem dX12_heard_2 : decode cX12_heard 2 = .ok (.invokevirtual 353, 3) := by decide +kernel
theorem dX12_heard_5 : decode cX12_heard 5 = .ok (.ifCond .eq 21, 3) := by decide +kernel
theorem dX12_heard_8 : decode cX12_heard 8 = .ok (.iload_n 2, 1) := by decide +kernel
theorem dX12_heard_9 : decode cX12_heard 9 = .ok (.iconst 1, 1) := by decide +kernel
theorem dX12_heard_10 : decode cX12_heard 10 = .ok (.iconst 5, 1) := by decide +kernel
theorem dX12_heard_11 : decode cX12_heard 11 = .ok (.invokestatic 75, 3) := by decide +kernel
theorem dX12_heard_14 : decode cX12_heard 14 = .ok (.ifCond .eq 12, 3) := by decide +kernel
theorem dX12_heard_17 : decode cX12_heard 17 = .ok (.aload_n 0, 1) := by decide +kernel
theorem dX12_heard_18 : decode cX12_heard 18 = .ok (.iload_n 1, 1) := by decide +kernel
theorem dX12_heard_19 : decode cX12_heard 19 = .ok (.iload_n 2, 1) := by decide +kernel
theorem dX12_heard_20 : decode cX12_heard 20 = .ok (.invokevirtual 306, 3) := by decide +kernel
theorem dX12_heard_23 : decode cX12_heard 23 = .ok (.goto 4, 3) := by decide +kernel
theorem dX12_heard_26 : decode cX12_heard 26 = .ok (.iconst (-1), 1) := by decide +kernel
theorem dX12_heard_27 : decode cX12_heard 27 = .ok (.ireturn, 1) := by decide +kernel
def m12_heard : pMT := (yX12_heard, cX12_heard, 3, some .int)
theorem mo12_heard : mOK m12_heard 2 := ⟨tb_i 1780 (by decide +kernel), wi_RX12, ⟨wn_RX12.1, wn_RX12.2, by decide +kernel⟩, by decide, plainFor_of_name wp_RX12⟩
theorem mv12_heard : mV m12_heard := ⟨tb_i 1778 (by decide +kernel), tb_i 1779 (by decide +kernel)⟩
def f12_heard (I : (Nat → Nat → Int32)) (O : (Nat → Nat → Option Nat)) (a0 : Nat) (x1 : Int32) (x2 : Int32) : Option (Int32) := (f12_isChild I O a0 x1).bind fun r1 => (if r1 = 0 then some (((-1) : Int32)) else (f12_isIn x2 (1 : Int32) (5 : Int32)).bind fun r4 => (if r4 = 0 then some (((-1) : Int32)) else (f12_heardBy I O a0 x1 x2).bind fun r7 => some (r7)))
set_option maxHeartbeats 4000000 in
set_option maxRecDepth 20000 in
theorem o12_heard {g : pG} {Qx : Option Value → pW → Prop} {Z : pZ} {I : (Nat → Nat → Int32)} {L : (Nat → Nat → Int64)} {O : (Nat → Nat → Option Nat)} {a0 : Nat} {x1 : Int32} {x2 : Int32} {res : Int32} (d : Nat) (hW : WT Z O) (hZ0 : Z[a0]? = some (12, 34)) (h : f12_heard I O a0 x1 x2 = some res) (hQ : Qx (some (.int res)) (Z, I, L, O)) : Ok g (d + 4, RX12, cX12_heard, 3, false, 0, 0, Z.length, pSl Z) Qx 0 [(0, .ref a0), (1, .int x1), (2, .int x2)] [] (Z, I, L, O) := by
  unfold f12_heard at h
  refine ok_aload_n dX12_heard_0 0 rfl ?_
  refine ok_iload_n dX12_heard_1 1 rfl ?_
  obtain ⟨r1, hr2, h⟩ := bd h
  refine ok_callV (d := ((d + 0) + 3)) (mt := m12_isChild) (mc := 0) (ms := 0) (As := [.int x1]) (r := []) dX12_heard_2 mo12_isChild mv12_isChild lkRX12_353 rfl hZ0 (q := (RX12, TX12, 34)) rfl rfl rfl (Nat.le_of_ble_eq_true rfl) (by show _ + 1 ≤ d + _; omega) (Nat.le_refl _) (Nat.le_refl _) (pRt_mono ?_)
  refine k12_isChild (d + 0) hW hZ0 hr2 ?_
  intro hbr1
  show Ok g _ Qx 5 [(0, .ref a0), (1, .int x1), (2, .int x2)] [.int r1] (Z, I, L, O)
  refine ok_if_eq (t := 26) dX12_heard_5 (by decide) (fun hc3 => ?_) (fun hc3 => ?_)
  · have h := (if_pos hc3).symm.trans h
    refine ok_iconst (v := (-1)) dX12_heard_26 (by decide) ?_
    cases h
    exact ok_iret dX12_heard_27 hQ
  · have h := (if_neg hc3).symm.trans h
    refine ok_iload_n dX12_heard_8 2 rfl ?_
    refine ok_iconst (v := 1) dX12_heard_9 (by decide) ?_
    refine ok_iconst (v := 5) dX12_heard_10 (by decide) ?_
    obtain ⟨r4, hr5, h⟩ := bd h
    refine ok_callS (d := ((d + 1) + 2)) (mt := m12_isIn) (mc := 0) (ms := 0) (As := [.int x2, .int 1, .int 5]) (r := []) dX12_heard_11 mo12_isIn mv12_isIn lkRX12_75 rfl rfl (Nat.le_of_ble_eq_true rfl) (by show _ + 1 ≤ d + _; omega) (Nat.le_refl _) (Nat.le_refl _) (pRt_mono ?_)
    refine k12_isIn (d + 1) hW  hr5 ?_
    intro hbr4
    show Ok g _ Qx 14 [(0, .ref a0), (1, .int x1), (2, .int x2)] [.int r4] (Z, I, L, O)
    refine ok_if_eq (t := 26) dX12_heard_14 (by decide) (fun hc6 => ?_) (fun hc6 => ?_)
    · have h := (if_pos hc6).symm.trans h
      refine ok_iconst (v := (-1)) dX12_heard_26 (by decide) ?_
      cases h
      exact ok_iret dX12_heard_27 hQ
    · have h := (if_neg hc6).symm.trans h
      refine ok_aload_n dX12_heard_17 0 rfl ?_
      refine ok_iload_n dX12_heard_18 1 rfl ?_
      refine ok_iload_n dX12_heard_19 2 rfl ?_
      obtain ⟨r7, hr8, h⟩ := bd h
      refine ok_callV (d := ((d + 1) + 2)) (mt := m12_heardBy) (mc := 0) (ms := 0) (As := [.int x1, .int x2]) (r := []) dX12_heard_20 mo12_heardBy mv12_heardBy lkRX12_306 rfl hZ0 (q := (RX12, TX12, 34)) rfl rfl rfl (Nat.le_of_ble_eq_true rfl) (by show _ + 1 ≤ d + _; omega) (Nat.le_refl _) (Nat.le_refl _) (pRt_mono ?_)
      refine k12_heardBy (d + 1) hW hZ0 hr8 ?_
      intro _
      show Ok g _ Qx 23 [(0, .ref a0), (1, .int x1), (2, .int x2)] [.int r7] (Z, I, L, O)
      refine ok_goto (t := 27) dX12_heard_23 (by decide) ?_
      cases h
      exact ok_iret dX12_heard_27 hQ
theorem k12_heard {g : pG} {Q : Option Value → pW → Prop} {Z : pZ} {I : (Nat → Nat → Int32)} {L : (Nat → Nat → Int64)} {O : (Nat → Nat → Option Nat)} {a0 : Nat} {x1 : Int32} {x2 : Int32} {res : Int32} (d : Nat) (hW : WT Z O) (hZ0 : Z[a0]? = some (12, 34)) (h : f12_heard I O a0 x1 x2 = some res) (hQ : Q (some (.int res)) (Z, I, L, O)) : CT g (d + 4) m12_heard 0 0 [.ref a0, .int x1, .int x2] (Z, I, L, O) Q :=
  ct_of_ok (mt := m12_heard) (ini := false) mo12_heard.2.2.2.2 (fun h => by cases h) (Nat.le_of_ble_eq_true rfl) (o12_heard d hW hZ0 h ⟨trivial, hQ, rfl, rfl⟩)
theorem dX12_tornIn_0 : decode cX12_tornIn 0 = .ok (.iconst 0, 1) := by decide +kernel
theorem dX12_tornIn_1 : decode cX12_tornIn 1 = .ok (.istore_n 2, 1) := by decide +kernel
theorem dX12_tornIn_2 : decode cX12_tornIn 2 = .ok (.iconst 0, 1) := by decide +kernel
theorem dX12_tornIn_3 : decode cX12_tornIn 3 = .ok (.istore_n 3, 1) := by decide +kernel
theorem dX12_tornIn_4 : decode cX12_tornIn 4 = .ok (.iload_n 3, 1) := by decide +kernel
theorem dX12_tornIn_5 : decode cX12_tornIn 5 = .ok (.aload_n 0, 1) := by decide +kernel
theorem dX12_tornIn_6 : decode cX12_tornIn 6 = .ok (.getfield 7, 3) := by decide +kernel
theorem dX12_tornIn_9 : decode cX12_tornIn 9 = .ok (.bipush 114, 2) := by decide +kernel
theorem dX12_tornIn_11 : decode cX12_tornIn 11 = .ok (.iload_n 1, 1) := by decide +kernel
theorem dX12_tornIn_12 : decode cX12_tornIn 12 = .ok (.iadd, 1) := by decide +kernel
theorem dX12_tornIn_13 : decode cX12_tornIn 13 = .ok (.iaload, 1) := by decide +kernel
theorem dX12_tornIn_14 : decode cX12_tornIn 14 = .ok (.if_icmp .ge 28, 3) := by decide +kernel
theorem dX12_tornIn_17 : decode cX12_tornIn 17 = .ok (.iload_n 2, 1) := by decide +kernel
theorem dX12_tornIn_18 : decode cX12_tornIn 18 = .ok (.aload_n 0, 1) := by decide +kernel
theorem dX12_tornIn_19 : decode cX12_tornIn 19 = .ok (.iload_n 1, 1) := by decide +kernel
theorem dX12_tornIn_20 : decode cX12_tornIn 20 = .ok (.iload_n 3, 1) := by decide +kernel
theorem dX12_tornIn_21 : decode cX12_tornIn 21 = .ok (.invokevirtual 90, 3) := by decide +kernel
theorem dX12_tornIn_24 : decode cX12_tornIn 24 = .ok (.ifCond .eq 9, 3) := by decide +kernel
theorem dX12_tornIn_27 : decode cX12_tornIn 27 = .ok (.iconst 1, 1) := by decide +kernel
theorem dX12_tornIn_28 : decode cX12_tornIn 28 = .ok (.iload_n 3, 1) := by decide +kernel
theorem dX12_tornIn_29 : decode cX12_tornIn 29 = .ok (.ishl, 1) := by decide +kernel
theorem dX12_tornIn_30 : decode cX12_tornIn 30 = .ok (.goto 4, 3) := by decide +kernel
theorem dX12_tornIn_33 : decode cX12_tornIn 33 = .ok (.iconst 0, 1) := by decide +kernel
theorem dX12_tornIn_34 : decode cX12_tornIn 34 = .ok (.ior, 1) := by decide +kernel
theorem dX12_tornIn_35 : decode cX12_tornIn 35 = .ok (.istore_n 2, 1) := by decide +kernel
theorem dX12_tornIn_36 : decode cX12_tornIn 36 = .ok (.iinc 3 1, 3) := by decide +kernel
theorem dX12_tornIn_39 : decode cX12_tornIn 39 = .ok (.goto (-35), 3) := by decide +kernel
theorem dX12_tornIn_42 : decode cX12_tornIn 42 = .ok (.iload_n 2, 1) := by decide +kernel
theorem dX12_tornIn_43 : decode cX12_tornIn 43 = .ok (.ireturn, 1) := by decide +kernel
def m12_tornIn : pMT := (yX12_tornIn, cX12_tornIn, 4, some .int)
theorem mo12_tornIn : mOK m12_tornIn 1 := ⟨tb_i 1788 (by decide +kernel), wi_RX12, ⟨wn_RX12.1, wn_RX12.2, by decide +kernel⟩, by decide, plainFor_of_name wp_RX12⟩
theorem mv12_tornIn : mV m12_tornIn := ⟨tb_i 1787 (by decide +kernel), tb_p 117 (by decide +kernel)⟩
def f12_tornIn_c4 (n : Nat) (I : (Nat → Nat → Int32)) (O : (Nat → Nat → Option Nat)) : Nat → Nat → Int32 → Int32 → Int32 → Option (Int32)
  | 0, _, _, _, _ => none
  | m + 1, b0, y1, y2, y3 => (if ((114 : Int32) + y1) < 0 ∨ 4371 ≤ ((114 : Int32) + y1).toNatClampNeg then none else (if (I (rO O b0 0) ((114 : Int32) + y1).toNatClampNeg) ≤ y3 then some (y2) else (f12_isTorn I O b0 y1 y3).bind fun r4 => (if r4 = 0 then f12_tornIn_c4 n I O m b0 y1 (y2 ||| 0) (y3 + 1) else bl ((y2 ||| ((1 : Int32) <<< (y3 &&& 31))) : Int32) fun z7 => f12_tornIn_c4 n I O m b0 y1 z7 (y3 + 1))))
set_option maxHeartbeats 4000000 in
set_option maxRecDepth 20000 in
theorem o12_tornIn_c4 {g : pG} {Qx : Option Value → pW → Prop} {Z : pZ} {I : (Nat → Nat → Int32)} {L : (Nat → Nat → Int64)} {O : (Nat → Nat → Option Nat)} {n : Nat} {res : Int32} (d : Nat) (hW : WT Z O) (hQ : Qx (some (.int res)) (Z, I, L, O)) : ∀ (m : Nat) (b0 : Nat) (y1 : Int32) (y2 : Int32) (y3 : Int32), (Z[b0]? = some (12, 34)) → f12_tornIn_c4 n I O m b0 y1 y2 y3 = some res → Ok g (d + 4, RX12, cX12_tornIn, 4, false, 0, 0, Z.length, pSl Z) Qx 4 [(0, .ref b0), (1, .int y1), (2, .int y2), (3, .int y3)] [] (Z, I, L, O) := by
  intro m
  induction m with
  | zero => intro b0 y1 y2 y3 hZ_b0 h; rw [f12_tornIn_c4] at h; cases h
  | succ m ih =>
    intro b0 y1 y2 y3 hZ_b0 h
    rw [f12_tornIn_c4] at h
    refine ok_iload_n dX12_tornIn_4 3 rfl ?_
    refine ok_aload_n dX12_tornIn_5 0 rfl ?_
    have hT1 : Z[(rO O b0 0)]? = some (13, 4371) := (wt_f (ci := 12) (k := 0) hW hZ_b0 rfl).2
    refine ok_getR (ci := 12) (k := 0) dX12_tornIn_6 flRX12_7 rfl hW hZ_b0 (by decide) ?_
    refine ok_bipush (v := 114) dX12_tornIn_9 (by decide) ?_
    refine ok_iload_n dX12_tornIn_11 1 rfl ?_
    refine ok_iadd dX12_tornIn_12 ?_
    obtain ⟨hg2, h⟩ := gd h
    refine ok_iald2 (N := ((114 : Int32) + y1).toNatClampNeg) dX12_tornIn_13 hT1 hg2 rfl ?_
    refine ok_icmp_ge (t := 42) dX12_tornIn_14 (by decide) (fun hc3 => ?_) (fun hc3 => ?_)
    · have h := (if_pos hc3).symm.trans h
      refine ok_iload_n dX12_tornIn_42 2 rfl ?_
      cases h
      exact ok_iret dX12_tornIn_43 hQ
    · have h := (if_neg hc3).symm.trans h
      refine ok_iload_n dX12_tornIn_17 2 rfl ?_
      refine ok_aload_n dX12_tornIn_18 0 rfl ?_
      refine ok_iload_n dX12_tornIn_19 1 rfl ?_
      refine ok_iload_n dX12_tornIn_20 3 rfl ?_
      obtain ⟨r4, hr5, h⟩ := bd h
      refine ok_callV (d := ((d + 0) + 3)) (mt := m12_isTorn) (mc := 0) (ms := 0) (As := [.int y1, .int y3]) (r := [.int y2]) dX12_tornIn_21 mo12_isTorn mv12_isTorn lkRX12_90 rfl hZ_b0 (q := (RX12, TX12, 34)) rfl rfl rfl (Nat.le_of_ble_eq_true rfl) (by show _ + 1 ≤ d + _; omega) (Nat.le_refl _) (Nat.le_refl _) (pRt_mono ?_)
      refine k12_isTorn (d + 0) hW hZ_b0 hr5 ?_
      intro hbr4
      show Ok g _ Qx 24 [(0, .ref b0), (1, .int y1), (2, .int y2), (3, .int y3)] [.int r4, .int y2] (Z, I, L, O)
      refine ok_if_eq (t := 33) dX12_tornIn_24 (by decide) (fun hc6 => ?_) (fun hc6 => ?_)
      · have h := (if_pos hc6).symm.trans h
        refine ok_iconst (v := 0) dX12_tornIn_33 (by decide) ?_
        refine ok_ior dX12_tornIn_34 ?_
        refine ok_istore_n (l' := [(2, .int (y2 ||| 0)), (0, .ref b0), (1, .int y1), (3, .int y3)]) dX12_tornIn_35 rfl (Nat.le_of_ble_eq_true rfl) rfl ?_
        refine ok_iinc (u := (y3 + 1)) (l' := [(3, .int (y3 + 1)), (2, .int (y2 ||| 0)), (0, .ref b0), (1, .int y1)]) dX12_tornIn_36 3 rfl rfl (Nat.le_of_ble_eq_true rfl) rfl ?_
        refine ok_goto (t := 4) dX12_tornIn_39 (by decide) ?_
        refine ok_sub [2, 3, 1, 0] rfl ?_
        exact ih b0 y1 (y2 ||| 0) (y3 + 1) hZ_b0 h
      · have h := (if_neg hc6).symm.trans h
        refine ok_iconst (v := 1) dX12_tornIn_27 (by decide) ?_
        refine ok_iload_n dX12_tornIn_28 3 rfl ?_
        refine ok_ishl dX12_tornIn_29 ?_
        refine ok_goto (t := 34) dX12_tornIn_30 (by decide) ?_
        refine ok_ior dX12_tornIn_34 ?_
        obtain ⟨z7, ez7, h⟩ := blE h
        refine ok_nm ez7 ?_
        refine ok_istore_n (l' := [(2, .int z7), (0, .ref b0), (1, .int y1), (3, .int y3)]) dX12_tornIn_35 rfl (Nat.le_of_ble_eq_true rfl) rfl ?_
        refine ok_iinc (u := (y3 + 1)) (l' := [(3, .int (y3 + 1)), (2, .int z7), (0, .ref b0), (1, .int y1)]) dX12_tornIn_36 3 rfl rfl (Nat.le_of_ble_eq_true rfl) rfl ?_
        refine ok_goto (t := 4) dX12_tornIn_39 (by decide) ?_
        refine ok_sub [2, 3, 1, 0] rfl ?_
        exact ih b0 y1 z7 (y3 + 1) hZ_b0 h
def f12_tornIn (n : Nat) (I : (Nat → Nat → Int32)) (O : (Nat → Nat → Option Nat)) (a0 : Nat) (x1 : Int32) : Option (Int32) := f12_tornIn_c4 n I O n a0 x1 (0 : Int32) (0 : Int32)
set_option maxHeartbeats 4000000 in
set_option maxRecDepth 20000 in
theorem o12_tornIn {g : pG} {Qx : Option Value → pW → Prop} {Z : pZ} {I : (Nat → Nat → Int32)} {L : (Nat → Nat → Int64)} {O : (Nat → Nat → Option Nat)} {n : Nat} {a0 : Nat} {x1 : Int32} {res : Int32} (d : Nat) (hW : WT Z O) (hZ0 : Z[a0]? = some (12, 34)) (h : f12_tornIn n I O a0 x1 = some res) (hQ : Qx (some (.int res)) (Z, I, L, O)) : Ok g (d + 4, RX12, cX12_tornIn, 4, false, 0, 0, Z.length, pSl Z) Qx 0 [(0, .ref a0), (1, .int x1)] [] (Z, I, L, O) := by
  unfold f12_tornIn at h
  refine ok_iconst (v := 0) dX12_tornIn_0 (by decide) ?_
  refine ok_istore_n (l' := [(2, .int 0), (0, .ref a0), (1, .int x1)]) dX12_tornIn_1 rfl (Nat.le_of_ble_eq_true rfl) rfl ?_
  refine ok_iconst (v := 0) dX12_tornIn_2 (by decide) ?_
  refine ok_istore_n (l' := [(3, .int 0), (2, .int 0), (0, .ref a0), (1, .int x1)]) dX12_tornIn_3 rfl (Nat.le_of_ble_eq_true rfl) rfl ?_
  refine ok_sub [2, 3, 1, 0] rfl ?_
  exact o12_tornIn_c4 d hW hQ  n a0 x1 (0 : Int32) (0 : Int32) hZ0 h
theorem k12_tornIn {g : pG} {Q : Option Value → pW → Prop} {Z : pZ} {I : (Nat → Nat → Int32)} {L : (Nat → Nat → Int64)} {O : (Nat → Nat → Option Nat)} {n : Nat} {a0 : Nat} {x1 : Int32} {res : Int32} (d : Nat) (hW : WT Z O) (hZ0 : Z[a0]? = some (12, 34)) (h : f12_tornIn n I O a0 x1 = some res) (hQ : Q (some (.int res)) (Z, I, L, O)) : CT g (d + 4) m12_tornIn 0 0 [.ref a0, .int x1] (Z, I, L, O) Q :=
  ct_of_ok (mt := m12_tornIn) (ini := false) mo12_tornIn.2.2.2.2 (fun h => by cases h) (Nat.le_of_ble_eq_true rfl) (o12_tornIn d hW hZ0 h ⟨trivial, hQ, rfl, rfl⟩)
theorem dX12_keysIn_0 : decode cX12_keysIn 0 = .ok (.iconst 0, 1) := by decide +kernel
theorem dX12_keysIn_1 : decode cX12_keysIn 1 = .ok (.istore_n 2, 1) := by decide +kernel
theorem dX12_keysIn_2 : decode cX12_keysIn 2 = .ok (.iconst 0, 1) := by decide +kernel
theorem dX12_keysIn_3 : decode cX12_keysIn 3 = .ok (.istore_n 3, 1) := by decide +kernel
theorem dX12_keysIn_4 : decode cX12_keysIn 4 = .ok (.iload_n 3, 1) := by decide +kernel
theorem dX12_keysIn_5 : decode cX12_keysIn 5 = .ok (.aload_n 0, 1) := by decide +kernel
theorem dX12_keysIn_6 : decode cX12_keysIn 6 = .ok (.getfield 7, 3) := by decide +kernel
theorem dX12_keysIn_9 : decode cX12_keysIn 9 = .ok (.bipush 114, 2) := by decide +kernel
theorem dX12_keysIn_11 : decode cX12_keysIn 11 = .ok (.iload_n 1, 1) := by decide +kernel
theorem dX12_keysIn_12 : decode cX12_keysIn 12 = .ok (.iadd, 1) := by decide +kernel
theorem dX12_keysIn_13 : decode cX12_keysIn 13 = .ok (.iaload, 1) := by decide +kernel
theorem dX12_keysIn_14 : decode cX12_keysIn 14 = .ok (.if_icmp .ge 33, 3) := by decide +kernel
theorem dX12_keysIn_17 : decode cX12_keysIn 17 = .ok (.iload_n 2, 1) := by decide +kernel
theorem dX12_keysIn_18 : decode cX12_keysIn 18 = .ok (.aload_n 0, 1) := by decide +kernel
theorem dX12_keysIn_19 : decode cX12_keysIn 19 = .ok (.iload_n 1, 1) := by decide +kernel
theorem dX12_keysIn_20 : decode cX12_keysIn 20 = .ok (.iload_n 3, 1) := by decide +kernel
theorem dX12_keysIn_21 : decode cX12_keysIn 21 = .ok (.invokevirtual 87, 3) := by decide +kernel
theorem dX12_keysIn_24 : decode cX12_keysIn 24 = .ok (.ifCond .le 14, 3) := by decide +kernel
theorem dX12_keysIn_27 : decode cX12_keysIn 27 = .ok (.iconst 1, 1) := by decide +kernel
theorem dX12_keysIn_28 : decode cX12_keysIn 28 = .ok (.aload_n 0, 1) := by decide +kernel
theorem dX12_keysIn_29 : decode cX12_keysIn 29 = .ok (.iload_n 1, 1) := by decide +kernel
theorem dX12_keysIn_30 : decode cX12_keysIn 30 = .ok (.iload_n 3, 1) := by decide +kernel
theorem dX12_keysIn_31 : decode cX12_keysIn 31 = .ok (.invokevirtual 87, 3) := by decide +kernel
theorem dX12_keysIn_34 : decode cX12_keysIn 34 = .ok (.ishl, 1) := by decide +kernel
theorem dX12_keysIn_35 : decode cX12_keysIn 35 = .ok (.goto 4, 3) := by decide +kernel
theorem dX12_keysIn_38 : decode cX12_keysIn 38 = .ok (.iconst 0, 1) := by decide +kernel
theorem dX12_keysIn_39 : decode cX12_keysIn 39 = .ok (.ior, 1) := by decide +kernel
theorem dX12_keysIn_40 : decode cX12_keysIn 40 = .ok (.istore_n 2, 1) := by decide +kernel
theorem dX12_keysIn_41 : decode cX12_keysIn 41 = .ok (.iinc 3 1, 3) := by decide +kernel
theorem dX12_keysIn_44 : decode cX12_keysIn 44 = .ok (.goto (-40), 3) := by decide +kernel
theorem dX12_keysIn_47 : decode cX12_keysIn 47 = .ok (.iload_n 2, 1) := by decide +kernel
theorem dX12_keysIn_48 : decode cX12_keysIn 48 = .ok (.ireturn, 1) := by decide +kernel
def m12_keysIn : pMT := (yX12_keysIn, cX12_keysIn, 4, some .int)
theorem mo12_keysIn : mOK m12_keysIn 1 := ⟨tb_i 1792 (by decide +kernel), wi_RX12, ⟨wn_RX12.1, wn_RX12.2, by decide +kernel⟩, by decide, plainFor_of_name wp_RX12⟩
theorem mv12_keysIn : mV m12_keysIn := ⟨tb_i 1791 (by decide +kernel), tb_p 118 (by decide +kernel)⟩
def f12_keysIn_c4 (n : Nat) (I : (Nat → Nat → Int32)) (O : (Nat → Nat → Option Nat)) : Nat → Nat → Int32 → Int32 → Int32 → Option (Int32)
  | 0, _, _, _, _ => none
  | m + 1, b0, y1, y2, y3 => (if ((114 : Int32) + y1) < 0 ∨ 4371 ≤ ((114 : Int32) + y1).toNatClampNeg then none else (if (I (rO O b0 0) ((114 : Int32) + y1).toNatClampNeg) ≤ y3 then some (y2) else (f12_keyOf I O b0 y1 y3).bind fun r4 => (if r4 ≤ 0 then f12_keysIn_c4 n I O m b0 y1 (y2 ||| 0) (y3 + 1) else (f12_keyOf I O b0 y1 y3).bind fun r7 => bl ((y2 ||| ((1 : Int32) <<< (r7 &&& 31))) : Int32) fun z9 => f12_keysIn_c4 n I O m b0 y1 z9 (y3 + 1))))
set_option maxHeartbeats 4000000 in
set_option maxRecDepth 20000 in
theorem o12_keysIn_c4 {g : pG} {Qx : Option Value → pW → Prop} {Z : pZ} {I : (Nat → Nat → Int32)} {L : (Nat → Nat → Int64)} {O : (Nat → Nat → Option Nat)} {n : Nat} {res : Int32} (d : Nat) (hW : WT Z O) (hQ : Qx (some (.int res)) (Z, I, L, O)) : ∀ (m : Nat) (b0 : Nat) (y1 : Int32) (y2 : Int32) (y3 : Int32), (Z[b0]? = some (12, 34)) → f12_keysIn_c4 n I O m b0 y1 y2 y3 = some res → Ok g (d + 3, RX12, cX12_keysIn, 4, false, 0, 0, Z.length, pSl Z) Qx 4 [(0, .ref b0), (1, .int y1), (2, .int y2), (3, .int y3)] [] (Z, I, L, O) := by
  intro m
  induction m with
  | zero => intro b0 y1 y2 y3 hZ_b0 h; rw [f12_keysIn_c4] at h; cases h
  | succ m ih =>
    intro b0 y1 y2 y3 hZ_b0 h
    rw [f12_keysIn_c4] at h
    refine ok_iload_n dX12_keysIn_4 3 rfl ?_
    refine ok_aload_n dX12_keysIn_5 0 rfl ?_
    have hT1 : Z[(rO O b0 0)]? = some (13, 4371) := (wt_f (ci := 12) (k := 0) hW hZ_b0 rfl).2
    refine ok_getR (ci := 12) (k := 0) dX12_keysIn_6 flRX12_7 rfl hW hZ_b0 (by decide) ?_
    refine ok_bipush (v := 114) dX12_keysIn_9 (by decide) ?_
    refine ok_iload_n dX12_keysIn_11 1 rfl ?_
    refine ok_iadd dX12_keysIn_12 ?_
    obtain ⟨hg2, h⟩ := gd h
    refine ok_iald2 (N := ((114 : Int32) + y1).toNatClampNeg) dX12_keysIn_13 hT1 hg2 rfl ?_
    refine ok_icmp_ge (t := 47) dX12_keysIn_14 (by decide) (fun hc3 => ?_) (fun hc3 => ?_)
    · have h := (if_pos hc3).symm.trans h
      refine ok_iload_n dX12_keysIn_47 2 rfl ?_
      cases h
      exact ok_iret dX12_keysIn_48 hQ
    · have h := (if_neg hc3).symm.trans h
      refine ok_iload_n dX12_keysIn_17 2 rfl ?_
      refine ok_aload_n dX12_keysIn_18 0 rfl ?_
      refine ok_iload_n dX12_keysIn_19 1 rfl ?_
      refine ok_iload_n dX12_keysIn_20 3 rfl ?_
      obtain ⟨r4, hr5, h⟩ := bd h
      refine ok_callV (d := ((d + 0) + 2)) (mt := m12_keyOf) (mc := 0) (ms := 0) (As := [.int y1, .int y3]) (r := [.int y2]) dX12_keysIn_21 mo12_keyOf mv12_keyOf lkRX12_87 rfl hZ_b0 (q := (RX12, TX12, 34)) rfl rfl rfl (Nat.le_of_ble_eq_true rfl) (by show _ + 1 ≤ d + _; omega) (Nat.le_refl _) (Nat.le_refl _) (pRt_mono ?_)
      refine k12_keyOf (d + 0) hW hZ_b0 hr5 ?_
      intro _
      show Ok g _ Qx 24 [(0, .ref b0), (1, .int y1), (2, .int y2), (3, .int y3)] [.int r4, .int y2] (Z, I, L, O)
      refine ok_if_le (t := 38) dX12_keysIn_24 (by decide) (fun hc6 => ?_) (fun hc6 => ?_)
      · have h := (if_pos hc6).symm.trans h
        refine ok_iconst (v := 0) dX12_keysIn_38 (by decide) ?_
        refine ok_ior dX12_keysIn_39 ?_
        refine ok_istore_n (l' := [(2, .int (y2 ||| 0)), (0, .ref b0), (1, .int y1), (3, .int y3)]) dX12_keysIn_40 rfl (Nat.le_of_ble_eq_true rfl) rfl ?_
        refine ok_iinc (u := (y3 + 1)) (l' := [(3, .int (y3 + 1)), (2, .int (y2 ||| 0)), (0, .ref b0), (1, .int y1)]) dX12_keysIn_41 3 rfl rfl (Nat.le_of_ble_eq_true rfl) rfl ?_
        refine ok_goto (t := 4) dX12_keysIn_44 (by decide) ?_
        refine ok_sub [2, 3, 1, 0] rfl ?_
        exact ih b0 y1 (y2 ||| 0) (y3 + 1) hZ_b0 h
      · have h := (if_neg hc6).symm.trans h
        refine ok_iconst (v := 1) dX12_keysIn_27 (by decide) ?_
        refine ok_aload_n dX12_keysIn_28 0 rfl ?_
        refine ok_iload_n dX12_keysIn_29 1 rfl ?_
        refine ok_iload_n dX12_keysIn_30 3 rfl ?_
        obtain ⟨r7, hr8, h⟩ := bd h
        refine ok_callV (d := ((d + 0) + 2)) (mt := m12_keyOf) (mc := 0) (ms := 0) (As := [.int y1, .int y3]) (r := [.int 1, .int y2]) dX12_keysIn_31 mo12_keyOf mv12_keyOf lkRX12_87 rfl hZ_b0 (q := (RX12, TX12, 34)) rfl rfl rfl (Nat.le_of_ble_eq_true rfl) (by show _ + 1 ≤ d + _; omega) (Nat.le_refl _) (Nat.le_refl _) (pRt_mono ?_)
        refine k12_keyOf (d + 0) hW hZ_b0 hr8 ?_
        intro _
        show Ok g _ Qx 34 [(0, .ref b0), (1, .int y1), (2, .int y2), (3, .int y3)] [.int r7, .int 1, .int y2] (Z, I, L, O)
        refine ok_ishl dX12_keysIn_34 ?_
        refine ok_goto (t := 39) dX12_keysIn_35 (by decide) ?_
        refine ok_ior dX12_keysIn_39 ?_
        obtain ⟨z9, ez9, h⟩ := blE h
        refine ok_nm ez9 ?_
        refine ok_istore_n (l' := [(2, .int z9), (0, .ref b0), (1, .int y1), (3, .int y3)]) dX12_keysIn_40 rfl (Nat.le_of_ble_eq_true rfl) rfl ?_
        refine ok_iinc (u := (y3 + 1)) (l' := [(3, .int (y3 + 1)), (2, .int z9), (0, .ref b0), (1, .int y1)]) dX12_keysIn_41 3 rfl rfl (Nat.le_of_ble_eq_true rfl) rfl ?_
        refine ok_goto (t := 4) dX12_keysIn_44 (by decide) ?_
        refine ok_sub [2, 3, 1, 0] rfl ?_
        exact ih b0 y1 z9 (y3 + 1) hZ_b0 h
def f12_keysIn (n : Nat) (I : (Nat → Nat → Int32)) (O : (Nat → Nat → Option Nat)) (a0 : Nat) (x1 : Int32) : Option (Int32) := f12_keysIn_c4 n I O n a0 x1 (0 : Int32) (0 : Int32)
set_option maxHeartbeats 4000000 in
set_option maxRecDepth 20000 in
theorem o12_keysIn {g : pG} {Qx : Option Value → pW → Prop} {Z : pZ} {I : (Nat → Nat → Int32)} {L : (Nat → Nat → Int64)} {O : (Nat → Nat → Option Nat)} {n : Nat} {a0 : Nat} {x1 : Int32} {res : Int32} (d : Nat) (hW : WT Z O) (hZ0 : Z[a0]? = some (12, 34)) (h : f12_keysIn n I O a0 x1 = some res) (hQ : Qx (some (.int res)) (Z, I, L, O)) : Ok g (d + 3, RX12, cX12_keysIn, 4, false, 0, 0, Z.length, pSl Z) Qx 0 [(0, .ref a0), (1, .int x1)] [] (Z, I, L, O) := by
  unfold f12_keysIn at h
  refine ok_iconst (v := 0) dX12_keysIn_0 (by decide) ?_
  refine ok_istore_n (l' := [(2, .int 0), (0, .ref a0), (1, .int x1)]) dX12_keysIn_1 rfl (Nat.le_of_ble_eq_true rfl) rfl ?_
  refine ok_iconst (v := 0) dX12_keysIn_2 (by decide) ?_
  refine ok_istore_n (l' := [(3, .int 0), (2, .int 0), (0, .ref a0), (1, .int x1)]) dX12_keysIn_3 rfl (Nat.le_of_ble_eq_true rfl) rfl ?_
  refine ok_sub [2, 3, 1, 0] rfl ?_
  exact o12_keysIn_c4 d hW hQ  n a0 x1 (0 : Int32) (0 : Int32) hZ0 h
theorem k12_keysIn {g : pG} {Q : Option Value → pW → Prop} {Z : pZ} {I : (Nat → Nat → Int32)} {L : (Nat → Nat → Int64)} {O : (Nat → Nat → Option Nat)} {n : Nat} {a0 : Nat} {x1 : Int32} {res : Int32} (d : Nat) (hW : WT Z O) (hZ0 : Z[a0]? = some (12, 34)) (h : f12_keysIn n I O a0 x1 = some res) (hQ : Q (some (.int res)) (Z, I, L, O)) : CT g (d + 3) m12_keysIn 0 0 [.ref a0, .int x1] (Z, I, L, O) Q :=
  ct_of_ok (mt := m12_keysIn) (ini := false) mo12_keysIn.2.2.2.2 (fun h => by cases h) (Nat.le_of_ble_eq_true rfl) (o12_keysIn d hW hZ0 h ⟨trivial, hQ, rfl, rfl⟩)
theorem dX12_tearsOf_0 : decode cX12_tearsOf 0 = .ok (.bipush 99, 2) := by decide +kernel
theorem dX12_tearsOf_2 : decode cX12_tearsOf 2 = .ok (.istore_n 2, 1) := by decide +kernel
theorem dX12_tearsOf_3 : decode cX12_tearsOf 3 = .ok (.iconst 0, 1) := by decide +kernel
theorem dX12_tearsOf_4 : decode cX12_tearsOf 4 = .ok (.istore_n 3, 1) := by decide +kernel
theorem dX12_tearsOf_5 : decode cX12_tearsOf 5 = .ok (.iload_n 3, 1) := by decide +kernel
theorem dX12_tearsOf_6 : decode cX12_tearsOf 6 = .ok (.aload_n 0, 1) := by decide +kernel
theorem dX12_tearsOf_7 : decode cX12_tearsOf 7 = .ok (.getfield 7, 3) := by decide +kernel
theorem dX12_tearsOf_10 : decode cX12_tearsOf 10 = .ok (.bipush 114, 2) := by decide +kernel
theorem dX12_tearsOf_12 : decode cX12_tearsOf 12 = .ok (.iload_n 1, 1) := by decide +kernel
theorem dX12_tearsOf_13 : decode cX12_tearsOf 13 = .ok (.iadd, 1) := by decide +kernel
theorem dX12_tearsOf_14 : decode cX12_tearsOf 14 = .ok (.iaload, 1) := by decide +kernel
theorem dX12_tearsOf_15 : decode cX12_tearsOf 15 = .ok (.if_icmp .ge 106, 3) := by decide +kernel
theorem dX12_tearsOf_18 : decode cX12_tearsOf 18 = .ok (.aload_n 0, 1) := by decide +kernel
theorem dX12_tearsOf_19 : decode cX12_tearsOf 19 = .ok (.iload_n 1, 1) := by decide +kernel
theorem dX12_tearsOf_20 : decode cX12_tearsOf 20 = .ok (.iload_n 3, 1) := by decide +kernel
theorem dX12_tearsOf_21 : decode cX12_tearsOf 21 = .ok (.invokevirtual 87, 3) := by decide +kernel
theorem dX12_tearsOf_24 : decode cX12_tearsOf 24 = .ok (.ifCond .ne 6, 3) := by decide +kernel
theorem dX12_tearsOf_27 : decode cX12_tearsOf 27 = .ok (.goto 88, 3) := by decide +kernel
theorem dX12_tearsOf_30 : decode cX12_tearsOf 30 = .ok (.aload_n 0, 1) := by decide +kernel
theorem dX12_tearsOf_31 : decode cX12_tearsOf 31 = .ok (.iload_n 1, 1) := by decide +kernel
theorem dX12_tearsOf_32 : decode cX12_tearsOf 32 = .ok (.iload_n 3, 1) := by decide +kernel
theorem dX12_tearsOf_33 : decode cX12_tearsOf 33 = .ok (.invokevirtual 83, 3) := by decide +kernel
theorem dX12_tearsOf_36 : decode cX12_tearsOf 36 = .ok (.istore 4, 2) := by decide +kernel
theorem dX12_tearsOf_38 : decode cX12_tearsOf 38 = .ok (.iconst 0, 1) := by decide +kernel
theorem dX12_tearsOf_39 : decode cX12_tearsOf 39 = .ok (.istore 5, 2) := by decide +kernel
theorem dX12_tearsOf_41 : decode cX12_tearsOf 41 = .ok (.iload 5, 2) := by decide +kernel
theorem dX12_tearsOf_43 : decode cX12_tearsOf 43 = .ok (.iload_n 2, 1) := by decide +kernel
theorem dX12_tearsOf_44 : decode cX12_tearsOf 44 = .ok (.if_icmp .ge 52, 3) := by decide +kernel
theorem dX12_tearsOf_47 : decode cX12_tearsOf 47 = .ok (.aload_n 0, 1) := by decide +kernel
theorem dX12_tearsOf_48 : decode cX12_tearsOf 48 = .ok (.iload_n 1, 1) := by decide +kernel
theorem dX12_tearsOf_49 : decode cX12_tearsOf 49 = .ok (.iload_n 3, 1) := by decide +kernel
theorem dX12_tearsOf_50 : decode cX12_tearsOf 50 = .ok (.invokevirtual 90, 3) := by decide +kernel
theorem dX12_tearsOf_53 : decode cX12_tearsOf 53 = .ok (.ifCond .ne 43, 3) := by decide +kernel
theorem dX12_tearsOf_56 : decode cX12_tearsOf 56 = .ok (.aload_n 0, 1) := by decide +kernel
theorem dX12_tearsOf_57 : decode cX12_tearsOf 57 = .ok (.getfield 7, 3) := by decide +kernel
theorem dX12_tearsOf_60 : decode cX12_tearsOf 60 = .ok (.bipush 10, 2) := by decide +kernel
theorem dX12_tearsOf_62 : decode cX12_tearsOf 62 = .ok (.bipush 16, 2) := by decide +kernel
theorem dX12_tearsOf_64 : decode cX12_tearsOf 64 = .ok (.iload_n 1, 1) := by decide +kernel
theorem dX12_tearsOf_65 : decode cX12_tearsOf 65 = .ok (.imul, 1) := by decide +kernel
theorem dX12_tearsOf_66 : decode cX12_tearsOf 66 = .ok (.iadd, 1) := by decide +kernel
theorem dX12_tearsOf_67 : decode cX12_tearsOf 67 = .ok (.iload_n 3, 1) := by decide +kernel
theorem dX12_tearsOf_68 : decode cX12_tearsOf 68 = .ok (.iadd, 1) := by decide +kernel
theorem dX12_tearsOf_69 : decode cX12_tearsOf 69 = .ok (.aload_n 0, 1) := by decide +kernel
theorem dX12_tearsOf_70 : decode cX12_tearsOf 70 = .ok (.iload_n 1, 1) := by decide +kernel
theorem dX12_tearsOf_71 : decode cX12_tearsOf 71 = .ok (.iload_n 3, 1) := by decide +kernel
theorem dX12_tearsOf_72 : decode cX12_tearsOf 72 = .ok (.invokevirtual 83, 3) := by decide +kernel
theorem dX12_tearsOf_75 : decode cX12_tearsOf 75 = .ok (.aload_n 0, 1) := by decide +kernel
theorem dX12_tearsOf_76 : decode cX12_tearsOf 76 = .ok (.iload_n 1, 1) := by decide +kernel
theorem dX12_tearsOf_77 : decode cX12_tearsOf 77 = .ok (.iload_n 3, 1) := by decide +kernel
theorem dX12_tearsOf_78 : decode cX12_tearsOf 78 = .ok (.invokevirtual 340, 3) := by decide +kernel
theorem dX12_tearsOf_81 : decode cX12_tearsOf 81 = .ok (.iadd, 1) := by decide +kernel
theorem dX12_tearsOf_82 : decode cX12_tearsOf 82 = .ok (.i2l, 1) := by decide +kernel
theorem dX12_tearsOf_83 : decode cX12_tearsOf 83 = .ok (.iconst 0, 1) := by decide +kernel
theorem dX12_tearsOf_84 : decode cX12_tearsOf 84 = .ok (.bipush 9, 2) := by decide +kernel
theorem dX12_tearsOf_86 : decode cX12_tearsOf 86 = .ok (.invokestatic 302, 3) := by decide +kernel
theorem dX12_tearsOf_89 : decode cX12_tearsOf 89 = .ok (.iastore, 1) := by decide +kernel
theorem dX12_tearsOf_90 : decode cX12_tearsOf 90 = .ok (.iinc 5 1, 3) := by decide +kernel
theorem dX12_tearsOf_93 : decode cX12_tearsOf 93 = .ok (.goto (-52), 3) := by decide +kernel
theorem dX12_tearsOf_96 : decode cX12_tearsOf 96 = .ok (.aload_n 0, 1) := by decide +kernel
theorem dX12_tearsOf_97 : decode cX12_tearsOf 97 = .ok (.getfield 7, 3) := by decide +kernel
theorem dX12_tearsOf_100 : decode cX12_tearsOf 100 = .ok (.bipush 10, 2) := by decide +kernel
theorem dX12_tearsOf_102 : decode cX12_tearsOf 102 = .ok (.bipush 16, 2) := by decide +kernel
theorem dX12_tearsOf_104 : decode cX12_tearsOf 104 = .ok (.iload_n 1, 1) := by decide +kernel
theorem dX12_tearsOf_105 : decode cX12_tearsOf 105 = .ok (.imul, 1) := by decide +kernel
theorem dX12_tearsOf_106 : decode cX12_tearsOf 106 = .ok (.iadd, 1) := by decide +kernel
theorem dX12_tearsOf_107 : decode cX12_tearsOf 107 = .ok (.iload_n 3, 1) := by decide +kernel
theorem dX12_tearsOf_108 : decode cX12_tearsOf 108 = .ok (.iadd, 1) := by decide +kernel
theorem dX12_tearsOf_109 : decode cX12_tearsOf 109 = .ok (.iload 4, 2) := by decide +kernel
theorem dX12_tearsOf_111 : decode cX12_tearsOf 111 = .ok (.iastore, 1) := by decide +kernel
theorem dX12_tearsOf_112 : decode cX12_tearsOf 112 = .ok (.iload 5, 2) := by decide +kernel
theorem dX12_tearsOf_114 : decode cX12_tearsOf 114 = .ok (.istore_n 2, 1) := by decide +kernel
theorem dX12_tearsOf_115 : decode cX12_tearsOf 115 = .ok (.iinc 3 1, 3) := by decide +kernel
theorem dX12_tearsOf_118 : decode cX12_tearsOf 118 = .ok (.goto (-113), 3) := by decide +kernel
theorem dX12_tearsOf_121 : decode cX12_tearsOf 121 = .ok (.iload_n 2, 1) := by decide +kernel
theorem dX12_tearsOf_122 : decode cX12_tearsOf 122 = .ok (.ireturn, 1) := by decide +kernel
def m12_tearsOf : pMT := (yX12_tearsOf, cX12_tearsOf, 6, some .int)
theorem mo12_tearsOf : mOK m12_tearsOf 1 := ⟨tb_i 1796 (by decide +kernel), wi_RX12, ⟨wn_RX12.1, wn_RX12.2, by decide +kernel⟩, by decide, plainFor_of_name wp_RX12⟩
theorem mv12_tearsOf : mV m12_tearsOf := ⟨tb_i 1795 (by decide +kernel), tb_p 119 (by decide +kernel)⟩
def f12_tearsOf_c96 (n : Nat) (O : (Nat → Nat → Option Nat)) (k5 : ((Nat → Nat → Int32) → (Nat → Nat → Int64) → Nat → Int32 → Int32 → Int32 → Option (Int32 × (Nat → Nat → Int32) × (Nat → Nat → Int64)))) (I : (Nat → Nat → Int32)) (L : (Nat → Nat → Int64)) (b0 : Nat) (y1 : Int32) (y3 : Int32) (y4 : Int32) (y5 : Int32) : Option (Int32 × (Nat → Nat → Int32) × (Nat → Nat → Int64)) := (if (((10 : Int32) + ((16 : Int32) * y1)) + y3) < 0 ∨ 4371 ≤ (((10 : Int32) + ((16 : Int32) * y1)) + y3).toNatClampNeg then none else bl (sI I (rO O b0 0) (((10 : Int32) + ((16 : Int32) * y1)) + y3).toNatClampNeg y4) fun I3 => k5 I3 L b0 y1 y5 (y3 + 1))
set_option maxHeartbeats 4000000 in
set_option maxRecDepth 20000 in
theorem o12_tearsOf_c96 {g : pG} {Qx : Option Value → pW → Prop} {Z : pZ} {O : (Nat → Nat → Option Nat)} {n : Nat} {k5 : ((Nat → Nat → Int32) → (Nat → Nat → Int64) → Nat → Int32 → Int32 → Int32 → Option (Int32 × (Nat → Nat → Int32) × (Nat → Nat → Int64)))} {res : Int32 × (Nat → Nat → Int32) × (Nat → Nat → Int64)} (d : Nat) (hW : WT Z O) (hQ : Qx (some (.int res.1)) (Z, res.2.1, res.2.2, O)) (hk5 : ∀ (I : (Nat → Nat → Int32)) (L : (Nat → Nat → Int64)) (b0 : Nat) (y1 : Int32) (y2 : Int32) (y3 : Int32), (Z[b0]? = some (12, 34)) → k5 I L b0 y1 y2 y3 = some res → Ok g (d + 9, RX12, cX12_tearsOf, 6, false, 0, 0, Z.length, pSl Z) Qx 5 [(0, .ref b0), (1, .int y1), (2, .int y2), (3, .int y3)] [] (Z, I, L, O)) (I : (Nat → Nat → Int32)) (L : (Nat → Nat → Int64)) (b0 : Nat) (y1 : Int32) (y3 : Int32) (y4 : Int32) (y5 : Int32) (hZ_b0 : Z[b0]? = some (12, 34)) (h : f12_tearsOf_c96 n O k5 I L b0 y1 y3 y4 y5 = some res) : Ok g (d + 9, RX12, cX12_tearsOf, 6, false, 0, 0, Z.length, pSl Z) Qx 96 [(0, .ref b0), (1, .int y1), (3, .int y3), (4, .int y4), (5, .int y5)] [] (Z, I, L, O) := by
  unfold f12_tearsOf_c96 at h
  refine ok_aload_n dX12_tearsOf_96 0 rfl ?_
  have hT1 : Z[(rO O b0 0)]? = some (13, 4371) := (wt_f (ci := 12) (k := 0) hW hZ_b0 rfl).2
  refine ok_getR (ci := 12) (k := 0) dX12_tearsOf_97 flRX12_7 rfl hW hZ_b0 (by decide) ?_
  refine ok_bipush (v := 10) dX12_tearsOf_100 (by decide) ?_
  refine ok_bipush (v := 16) dX12_tearsOf_102 (by decide) ?_
  refine ok_iload_n dX12_tearsOf_104 1 rfl ?_
  refine ok_imul dX12_tearsOf_105 ?_
  refine ok_iadd dX12_tearsOf_106 ?_
  refine ok_iload_n dX12_tearsOf_107 2 rfl ?_
  refine ok_iadd dX12_tearsOf_108 ?_
  refine ok_iload dX12_tearsOf_109 3 rfl ?_
  obtain ⟨hg2, h⟩ := gd h
  obtain ⟨I3, eI3, h⟩ := blE h
  refine ok_iast3 dX12_tearsOf_111 hT1 hg2 rfl eI3 ?_
  refine ok_iload dX12_tearsOf_112 4 rfl ?_
  refine ok_istore_n (l' := [(2, .int y5), (0, .ref b0), (1, .int y1), (3, .int y3), (4, .int y4), (5, .int y5)]) dX12_tearsOf_114 rfl (Nat.le_of_ble_eq_true rfl) rfl ?_
  refine ok_iinc (u := (y3 + 1)) (l' := [(3, .int (y3 + 1)), (2, .int y5), (0, .ref b0), (1, .int y1), (4, .int y4), (5, .int y5)]) dX12_tearsOf_115 3 rfl rfl (Nat.le_of_ble_eq_true rfl) rfl ?_
  refine ok_goto (t := 5) dX12_tearsOf_118 (by decide) ?_
  refine ok_sub [2, 3, 1, 0] rfl ?_
  exact hk5 I3 L b0 y1 y5 (y3 + 1) hZ_b0 h
def f12_tearsOf_c41 (n : Nat) (O : (Nat → Nat → Option Nat)) (k5 : ((Nat → Nat → Int32) → (Nat → Nat → Int64) → Nat → Int32 → Int32 → Int32 → Option (Int32 × (Nat → Nat → Int32) × (Nat → Nat → Int64)))) : Nat → (Nat → Nat → Int32) → (Nat → Nat → Int64) → Nat → Int32 → Int32 → Int32 → Int32 → Int32 → Option (Int32 × (Nat → Nat → Int32) × (Nat → Nat → Int64))
  | 0, _, _, _, _, _, _, _, _ => none
  | m + 1, I, L, b0, y1, y2, y3, y4, y5 => (if y2 ≤ y5 then f12_tearsOf_c96 n O k5 I L b0 y1 y3 y4 y5 else (f12_isTorn I O b0 y1 y3).bind fun r2 => (if r2 = 0 then (f12_wearOf I O b0 y1 y3).bind fun r6 => (f12_wearsOf n I L O b0 y1 y3).bind fun r8 => (f12_cut (r6 + r8.1).toInt64 (0 : Int32) (9 : Int32)).bind fun r10 => (if (((10 : Int32) + ((16 : Int32) * y1)) + y3) < 0 ∨ 4371 ≤ (((10 : Int32) + ((16 : Int32) * y1)) + y3).toNatClampNeg then none else bl (sI r8.2.1 (rO O b0 0) (((10 : Int32) + ((16 : Int32) * y1)) + y3).toNatClampNeg r10) fun I13 => f12_tearsOf_c41 n O k5 m I13 r8.2.2 b0 y1 y2 y3 y4 (y5 + 1)) else f12_tearsOf_c96 n O k5 I L b0 y1 y3 y4 y5))
set_option maxHeartbeats 4000000 in
set_option maxRecDepth 20000 in
theorem o12_tearsOf_c41 {g : pG} {Qx : Option Value → pW → Prop} {Z : pZ} {O : (Nat → Nat → Option Nat)} {n : Nat} {k5 : ((Nat → Nat → Int32) → (Nat → Nat → Int64) → Nat → Int32 → Int32 → Int32 → Option (Int32 × (Nat → Nat → Int32) × (Nat → Nat → Int64)))} {res : Int32 × (Nat → Nat → Int32) × (Nat → Nat → Int64)} (d : Nat) (hW : WT Z O) (hQ : Qx (some (.int res.1)) (Z, res.2.1, res.2.2, O)) (hk5 : ∀ (I : (Nat → Nat → Int32)) (L : (Nat → Nat → Int64)) (b0 : Nat) (y1 : Int32) (y2 : Int32) (y3 : Int32), (Z[b0]? = some (12, 34)) → k5 I L b0 y1 y2 y3 = some res → Ok g (d + 9, RX12, cX12_tearsOf, 6, false, 0, 0, Z.length, pSl Z) Qx 5 [(0, .ref b0), (1, .int y1), (2, .int y2), (3, .int y3)] [] (Z, I, L, O)) : ∀ (m : Nat) (I : (Nat → Nat → Int32)) (L : (Nat → Nat → Int64)) (b0 : Nat) (y1 : Int32) (y2 : Int32) (y3 : Int32) (y4 : Int32) (y5 : Int32), (Z[b0]? = some (12, 34)) → f12_tearsOf_c41 n O k5 m I L b0 y1 y2 y3 y4 y5 = some res → Ok g (d + 9, RX12, cX12_tearsOf, 6, false, 0, 0, Z.length, pSl Z) Qx 41 [(0, .ref b0), (1, .int y1), (2, .int y2), (3, .int y3), (4, .int y4), (5, .int y5)] [] (Z, I, L, O) := by
  intro m
  induction m with
  | zero => intro I L b0 y1 y2 y3 y4 y5 hZ_b0 h; rw [f12_tearsOf_c41] at h; cases h
  | succ m ih =>
    intro I L b0 y1 y2 y3 y4 y5 hZ_b0 h
    rw [f12_tearsOf_c41] at h
    refine ok_iload dX12_tearsOf_41 5 rfl ?_
    refine ok_iload_n dX12_tearsOf_43 2 rfl ?_
    refine ok_icmp_ge (t := 96) dX12_tearsOf_44 (by decide) (fun hc1 => ?_) (fun hc1 => ?_)
    · have h := (if_pos hc1).symm.trans h
      refine ok_sub [0, 1, 3, 4, 5] rfl ?_
      exact o12_tearsOf_c96 d hW hQ hk5 I L b0 y1 y3 y4 y5 hZ_b0 h
    · have h := (if_neg hc1).symm.trans h
      refine ok_aload_n dX12_tearsOf_47 0 rfl ?_
      refine ok_iload_n dX12_tearsOf_48 1 rfl ?_
      refine ok_iload_n dX12_tearsOf_49 3 rfl ?_
      obtain ⟨r2, hr3, h⟩ := bd h
      refine ok_callV (d := ((d + 5) + 3)) (mt := m12_isTorn) (mc := 0) (ms := 0) (As := [.int y1, .int y3]) (r := []) dX12_tearsOf_50 mo12_isTorn mv12_isTorn lkRX12_90 rfl hZ_b0 (q := (RX12, TX12, 34)) rfl rfl rfl (Nat.le_of_ble_eq_true rfl) (by show _ + 1 ≤ d + _; omega) (Nat.le_refl _) (Nat.le_refl _) (pRt_mono ?_)
      refine k12_isTorn (d + 5) hW hZ_b0 hr3 ?_
      intro hbr2
      show Ok g _ Qx 53 [(0, .ref b0), (1, .int y1), (2, .int y2), (3, .int y3), (4, .int y4), (5, .int y5)] [.int r2] (Z, I, L, O)
      refine ok_if_ne (t := 96) dX12_tearsOf_53 (by decide) (fun hc4 => ?_) (fun hc4 => ?_)
      · have h := (if_neg hc4).symm.trans h
        refine ok_sub [0, 1, 3, 4, 5] rfl ?_
        exact o12_tearsOf_c96 d hW hQ hk5 I L b0 y1 y3 y4 y5 hZ_b0 h
      · have h := (if_pos hc4).symm.trans h
        refine ok_aload_n dX12_tearsOf_56 0 rfl ?_
        have hT5 : Z[(rO O b0 0)]? = some (13, 4371) := (wt_f (ci := 12) (k := 0) hW hZ_b0 rfl).2
        refine ok_getR (ci := 12) (k := 0) dX12_tearsOf_57 flRX12_7 rfl hW hZ_b0 (by decide) ?_
        refine ok_bipush (v := 10) dX12_tearsOf_60 (by decide) ?_
        refine ok_bipush (v := 16) dX12_tearsOf_62 (by decide) ?_
        refine ok_iload_n dX12_tearsOf_64 1 rfl ?_
        refine ok_imul dX12_tearsOf_65 ?_
        refine ok_iadd dX12_tearsOf_66 ?_
        refine ok_iload_n dX12_tearsOf_67 3 rfl ?_
        refine ok_iadd dX12_tearsOf_68 ?_
        refine ok_aload_n dX12_tearsOf_69 0 rfl ?_
        refine ok_iload_n dX12_tearsOf_70 1 rfl ?_
        refine ok_iload_n dX12_tearsOf_71 3 rfl ?_
        obtain ⟨r6, hr7, h⟩ := bd h
        refine ok_callV (d := ((d + 6) + 2)) (mt := m12_wearOf) (mc := 0) (ms := 0) (As := [.int y1, .int y3]) (r := [.int (((10 : Int32) + ((16 : Int32) * y1)) + y3), .ref (rO O b0 0)]) dX12_tearsOf_72 mo12_wearOf mv12_wearOf lkRX12_83 rfl hZ_b0 (q := (RX12, TX12, 34)) rfl rfl rfl (Nat.le_of_ble_eq_true rfl) (by show _ + 1 ≤ d + _; omega) (Nat.le_refl _) (Nat.le_refl _) (pRt_mono ?_)
        refine k12_wearOf (d + 6) hW hZ_b0 hr7 ?_
        intro _
        show Ok g _ Qx 75 [(0, .ref b0), (1, .int y1), (2, .int y2), (3, .int y3), (4, .int y4), (5, .int y5)] [.int r6, .int (((10 : Int32) + ((16 : Int32) * y1)) + y3), .ref (rO O b0 0)] (Z, I, L, O)
        refine ok_aload_n dX12_tearsOf_75 0 rfl ?_
        refine ok_iload_n dX12_tearsOf_76 1 rfl ?_
        refine ok_iload_n dX12_tearsOf_77 3 rfl ?_
        obtain ⟨r8, hr9, h⟩ := bd h
        refine ok_callV (d := ((d + 0) + 8)) (mt := m12_wearsOf) (mc := 0) (ms := 0) (As := [.int y1, .int y3]) (r := [.int r6, .int (((10 : Int32) + ((16 : Int32) * y1)) + y3), .ref (rO O b0 0)]) dX12_tearsOf_78 mo12_wearsOf mv12_wearsOf lkRX12_340 rfl hZ_b0 (q := (RX12, TX12, 34)) rfl rfl rfl (Nat.le_of_ble_eq_true rfl) (by show _ + 1 ≤ d + _; omega) (Nat.le_refl _) (Nat.le_refl _) (pRt_mono ?_)
        refine k12_wearsOf (d + 0) hW hZ_b0 hr9 ?_
        intro _
        show Ok g _ Qx 81 [(0, .ref b0), (1, .int y1), (2, .int y2), (3, .int y3), (4, .int y4), (5, .int y5)] [.int r8.1, .int r6, .int (((10 : Int32) + ((16 : Int32) * y1)) + y3), .ref (rO O b0 0)] (Z, r8.2.1, r8.2.2, O)
        refine ok_iadd dX12_tearsOf_81 ?_
        refine ok_i2l dX12_tearsOf_82 ?_
        refine ok_iconst (v := 0) dX12_tearsOf_83 (by decide) ?_
        refine ok_bipush (v := 9) dX12_tearsOf_84 (by decide) ?_
        obtain ⟨r10, hr11, h⟩ := bd h
        refine ok_callS (d := ((d + 6) + 2)) (mt := m12_cut) (mc := 0) (ms := 0) (As := [.long (r6 + r8.1).toInt64, .int 0, .int 9]) (r := [.int (((10 : Int32) + ((16 : Int32) * y1)) + y3), .ref (rO O b0 0)]) dX12_tearsOf_86 mo12_cut mv12_cut lkRX12_302 rfl rfl (Nat.le_of_ble_eq_true rfl) (by show _ + 1 ≤ d + _; omega) (Nat.le_refl _) (Nat.le_refl _) (pRt_mono ?_)
        refine k12_cut (d + 6) hW  hr11 ?_
        intro _
        show Ok g _ Qx 89 [(0, .ref b0), (1, .int y1), (2, .int y2), (3, .int y3), (4, .int y4), (5, .int y5)] [.int r10, .int (((10 : Int32) + ((16 : Int32) * y1)) + y3), .ref (rO O b0 0)] (Z, r8.2.1, r8.2.2, O)
        obtain ⟨hg12, h⟩ := gd h
        obtain ⟨I13, eI13, h⟩ := blE h
        refine ok_iast3 dX12_tearsOf_89 hT5 hg12 rfl eI13 ?_
        refine ok_iinc (u := (y5 + 1)) (l' := [(5, .int (y5 + 1)), (0, .ref b0), (1, .int y1), (2, .int y2), (3, .int y3), (4, .int y4)]) dX12_tearsOf_90 5 rfl rfl (Nat.le_of_ble_eq_true rfl) rfl ?_
        refine ok_goto (t := 41) dX12_tearsOf_93 (by decide) ?_
        refine ok_sub [1, 2, 3, 4, 5, 0] rfl ?_
        exact ih I13 r8.2.2 b0 y1 y2 y3 y4 (y5 + 1) hZ_b0 h
def f12_tearsOf_c5 (n : Nat) (O : (Nat → Nat → Option Nat)) : Nat → (Nat → Nat → Int32) → (Nat → Nat → Int64) → Nat → Int32 → Int32 → Int32 → Option (Int32 × (Nat → Nat → Int32) × (Nat → Nat → Int64))
  | 0, _, _, _, _, _, _ => none
  | m + 1, I, L, b0, y1, y2, y3 => (if ((114 : Int32) + y1) < 0 ∨ 4371 ≤ ((114 : Int32) + y1).toNatClampNeg then none else (if (I (rO O b0 0) ((114 : Int32) + y1).toNatClampNeg) ≤ y3 then some (y2, I, L) else (f12_keyOf I O b0 y1 y3).bind fun r4 => (if r4 = 0 then f12_tearsOf_c5 n O m I L b0 y1 y2 (y3 + 1) else (f12_wearOf I O b0 y1 y3).bind fun r7 => f12_tearsOf_c41 n O (f12_tearsOf_c5 n O m) n I L b0 y1 y2 y3 r7 (0 : Int32))))
set_option maxHeartbeats 4000000 in
set_option maxRecDepth 20000 in
theorem o12_tearsOf_c5 {g : pG} {Qx : Option Value → pW → Prop} {Z : pZ} {O : (Nat → Nat → Option Nat)} {n : Nat} {res : Int32 × (Nat → Nat → Int32) × (Nat → Nat → Int64)} (d : Nat) (hW : WT Z O) (hQ : Qx (some (.int res.1)) (Z, res.2.1, res.2.2, O)) : ∀ (m : Nat) (I : (Nat → Nat → Int32)) (L : (Nat → Nat → Int64)) (b0 : Nat) (y1 : Int32) (y2 : Int32) (y3 : Int32), (Z[b0]? = some (12, 34)) → f12_tearsOf_c5 n O m I L b0 y1 y2 y3 = some res → Ok g (d + 9, RX12, cX12_tearsOf, 6, false, 0, 0, Z.length, pSl Z) Qx 5 [(0, .ref b0), (1, .int y1), (2, .int y2), (3, .int y3)] [] (Z, I, L, O) := by
  intro m
  induction m with
  | zero => intro I L b0 y1 y2 y3 hZ_b0 h; rw [f12_tearsOf_c5] at h; cases h
  | succ m ih =>
    intro I L b0 y1 y2 y3 hZ_b0 h
    rw [f12_tearsOf_c5] at h
    refine ok_iload_n dX12_tearsOf_5 3 rfl ?_
    refine ok_aload_n dX12_tearsOf_6 0 rfl ?_
    have hT1 : Z[(rO O b0 0)]? = some (13, 4371) := (wt_f (ci := 12) (k := 0) hW hZ_b0 rfl).2
    refine ok_getR (ci := 12) (k := 0) dX12_tearsOf_7 flRX12_7 rfl hW hZ_b0 (by decide) ?_
    refine ok_bipush (v := 114) dX12_tearsOf_10 (by decide) ?_
    refine ok_iload_n dX12_tearsOf_12 1 rfl ?_
    refine ok_iadd dX12_tearsOf_13 ?_
    obtain ⟨hg2, h⟩ := gd h
    refine ok_iald2 (N := ((114 : Int32) + y1).toNatClampNeg) dX12_tearsOf_14 hT1 hg2 rfl ?_
    refine ok_icmp_ge (t := 121) dX12_tearsOf_15 (by decide) (fun hc3 => ?_) (fun hc3 => ?_)
    · have h := (if_pos hc3).symm.trans h
      refine ok_iload_n dX12_tearsOf_121 2 rfl ?_
      cases h
      exact ok_iret dX12_tearsOf_122 hQ
    · have h := (if_neg hc3).symm.trans h
      refine ok_aload_n dX12_tearsOf_18 0 rfl ?_
      refine ok_iload_n dX12_tearsOf_19 1 rfl ?_
      refine ok_iload_n dX12_tearsOf_20 3 rfl ?_
      obtain ⟨r4, hr5, h⟩ := bd h
      refine ok_callV (d := ((d + 6) + 2)) (mt := m12_keyOf) (mc := 0) (ms := 0) (As := [.int y1, .int y3]) (r := []) dX12_tearsOf_21 mo12_keyOf mv12_keyOf lkRX12_87 rfl hZ_b0 (q := (RX12, TX12, 34)) rfl rfl rfl (Nat.le_of_ble_eq_true rfl) (by show _ + 1 ≤ d + _; omega) (Nat.le_refl _) (Nat.le_refl _) (pRt_mono ?_)
      refine k12_keyOf (d + 6) hW hZ_b0 hr5 ?_
      intro _
      show Ok g _ Qx 24 [(0, .ref b0), (1, .int y1), (2, .int y2), (3, .int y3)] [.int r4] (Z, I, L, O)
      refine ok_if_ne (t := 30) dX12_tearsOf_24 (by decide) (fun hc6 => ?_) (fun hc6 => ?_)
      · have h := (if_neg hc6).symm.trans h
        refine ok_aload_n dX12_tearsOf_30 0 rfl ?_
        refine ok_iload_n dX12_tearsOf_31 1 rfl ?_
        refine ok_iload_n dX12_tearsOf_32 3 rfl ?_
        obtain ⟨r7, hr8, h⟩ := bd h
        refine ok_callV (d := ((d + 6) + 2)) (mt := m12_wearOf) (mc := 0) (ms := 0) (As := [.int y1, .int y3]) (r := []) dX12_tearsOf_33 mo12_wearOf mv12_wearOf lkRX12_83 rfl hZ_b0 (q := (RX12, TX12, 34)) rfl rfl rfl (Nat.le_of_ble_eq_true rfl) (by show _ + 1 ≤ d + _; omega) (Nat.le_refl _) (Nat.le_refl _) (pRt_mono ?_)
        refine k12_wearOf (d + 6) hW hZ_b0 hr8 ?_
        intro _
        show Ok g _ Qx 36 [(0, .ref b0), (1, .int y1), (2, .int y2), (3, .int y3)] [.int r7] (Z, I, L, O)
        refine ok_istore (l' := [(4, .int r7), (0, .ref b0), (1, .int y1), (2, .int y2), (3, .int y3)]) dX12_tearsOf_36 (Nat.le_of_ble_eq_true rfl) rfl ?_
        refine ok_iconst (v := 0) dX12_tearsOf_38 (by decide) ?_
        refine ok_istore (l' := [(5, .int 0), (4, .int r7), (0, .ref b0), (1, .int y1), (2, .int y2), (3, .int y3)]) dX12_tearsOf_39 (Nat.le_of_ble_eq_true rfl) rfl ?_
        refine ok_sub [2, 3, 4, 5, 1, 0] rfl ?_
        exact o12_tearsOf_c41 d hW hQ ih n I L b0 y1 y2 y3 r7 (0 : Int32) hZ_b0 h
      · have h := (if_pos hc6).symm.trans h
        refine ok_goto (t := 115) dX12_tearsOf_27 (by decide) ?_
        refine ok_iinc (u := (y3 + 1)) (l' := [(3, .int (y3 + 1)), (0, .ref b0), (1, .int y1), (2, .int y2)]) dX12_tearsOf_115 3 rfl rfl (Nat.le_of_ble_eq_true rfl) rfl ?_
        refine ok_goto (t := 5) dX12_tearsOf_118 (by decide) ?_
        refine ok_sub [1, 2, 3, 0] rfl ?_
        exact ih I L b0 y1 y2 (y3 + 1) hZ_b0 h
def f12_tearsOf (n : Nat) (I : (Nat → Nat → Int32)) (L : (Nat → Nat → Int64)) (O : (Nat → Nat → Option Nat)) (a0 : Nat) (x1 : Int32) : Option (Int32 × (Nat → Nat → Int32) × (Nat → Nat → Int64)) := f12_tearsOf_c5 n O n I L a0 x1 (99 : Int32) (0 : Int32)
set_option maxHeartbeats 4000000 in
set_option maxRecDepth 20000 in
theorem o12_tearsOf {g : pG} {Qx : Option Value → pW → Prop} {Z : pZ} {I : (Nat → Nat → Int32)} {L : (Nat → Nat → Int64)} {O : (Nat → Nat → Option Nat)} {n : Nat} {a0 : Nat} {x1 : Int32} {res : Int32 × (Nat → Nat → Int32) × (Nat → Nat → Int64)} (d : Nat) (hW : WT Z O) (hZ0 : Z[a0]? = some (12, 34)) (h : f12_tearsOf n I L O a0 x1 = some res) (hQ : Qx (some (.int res.1)) (Z, res.2.1, res.2.2, O)) : Ok g (d + 9, RX12, cX12_tearsOf, 6, false, 0, 0, Z.length, pSl Z) Qx 0 [(0, .ref a0), (1, .int x1)] [] (Z, I, L, O) := by
  unfold f12_tearsOf at h
  refine ok_bipush (v := 99) dX12_tearsOf_0 (by decide) ?_
  refine ok_istore_n (l' := [(2, .int 99), (0, .ref a0), (1, .int x1)]) dX12_tearsOf_2 rfl (Nat.le_of_ble_eq_true rfl) rfl ?_
  refine ok_iconst (v := 0) dX12_tearsOf_3 (by decide) ?_
  refine ok_istore_n (l' := [(3, .int 0), (2, .int 99), (0, .ref a0), (1, .int x1)]) dX12_tearsOf_4 rfl (Nat.le_of_ble_eq_true rfl) rfl ?_
  refine ok_sub [2, 3, 1, 0] rfl ?_
  exact o12_tearsOf_c5 d hW hQ  n I L a0 x1 (99 : Int32) (0 : Int32) hZ0 h
theorem k12_tearsOf {g : pG} {Q : Option Value → pW → Prop} {Z : pZ} {I : (Nat → Nat → Int32)} {L : (Nat → Nat → Int64)} {O : (Nat → Nat → Option Nat)} {n : Nat} {a0 : Nat} {x1 : Int32} {res : Int32 × (Nat → Nat → Int32) × (Nat → Nat → Int64)} (d : Nat) (hW : WT Z O) (hZ0 : Z[a0]? = some (12, 34)) (h : f12_tearsOf n I L O a0 x1 = some res) (hQ : Q (some (.int res.1)) (Z, res.2.1, res.2.2, O)) : CT g (d + 9) m12_tearsOf 0 0 [.ref a0, .int x1] (Z, I, L, O) Q :=
  ct_of_ok (mt := m12_tearsOf) (ini := false) mo12_tearsOf.2.2.2.2 (fun h => by cases h) (Nat.le_of_ble_eq_true rfl) (o12_tearsOf d hW hZ0 h ⟨trivial, hQ, rfl, rfl⟩)
theorem dX12_ofRoll_0 : decode cX12_ofRoll 0 = .ok (.aload_n 0, 1) := by decide +kernel
theorem dX12_ofRoll_1 : decode cX12_ofRoll 1 = .ok (.iload_n 1, 1) := by decide +kernel
theorem dX12_ofRoll_2 : decode cX12_ofRoll 2 = .ok (.invokevirtual 79, 3) := by decide +kernel
theorem dX12_ofRoll_5 : decode cX12_ofRoll 5 = .ok (.ifCond .ne 5, 3) := by decide +kernel
theorem dX12_ofRoll_8 : decode cX12_ofRoll 8 = .ok (.iconst (-1), 1) := by decide +kernel
theorem dX12_ofRoll_9 : decode cX12_ofRoll 9 = .ok (.ireturn, 1) := by decide +kernel
theorem dX12_ofRoll_10 : decode cX12_ofRoll 10 = .ok (.iload_n 2, 1) := by decide +kernel
theorem dX12_ofRoll_11 : decode cX12_ofRoll 11 = .ok (.tableswitch 67 0 4 #[33, 43, 49, 55, 61], 33) := by decide +kernel
theorem dX12_ofRoll_44 : decode cX12_ofRoll 44 = .ok (.aload_n 0, 1) := by decide +kernel
theorem dX12_ofRoll_45 : decode cX12_ofRoll 45 = .ok (.getfield 7, 3) := by decide +kernel
theorem dX12_ofRoll_48 : decode cX12_ofRoll 48 = .ok (.bipush 114, 2) := by decide +kernel
theorem dX12_ofRoll_50 : decode cX12_ofRoll 50 = .ok (.iload_n 1, 1) := by decide +kernel
theorem dX12_ofRoll_51 : decode cX12_ofRoll 51 = .ok (.iadd, 1) := by decide +kernel
theorem dX12_ofRoll_52 : decode cX12_ofRoll 52 = .ok (.iaload, 1) := by decide +kernel
theorem dX12_ofRoll_53 : decode cX12_ofRoll 53 = .ok (.ireturn, 1) := by decide +kernel
theorem dX12_ofRoll_54 : decode cX12_ofRoll 54 = .ok (.aload_n 0, 1) := by decide +kernel
theorem dX12_ofRoll_55 : decode cX12_ofRoll 55 = .ok (.iload_n 1, 1) := by decide +kernel
theorem dX12_ofRoll_56 : decode cX12_ofRoll 56 = .ok (.invokevirtual 272, 3) := by decide +kernel
theorem dX12_ofRoll_59 : decode cX12_ofRoll 59 = .ok (.ireturn, 1) := by decide +kernel
theorem dX12_ofRoll_60 : decode cX12_ofRoll 60 = .ok (.aload_n 0, 1) := by decide +kernel
theorem dX12_ofRoll_61 : decode cX12_ofRoll 61 = .ok (.iload_n 1, 1) := by decide +kernel
theorem dX12_ofRoll_62 : decode cX12_ofRoll 62 = .ok (.invokevirtual 401, 3) := by decide +kernel
theorem dX12_ofRoll_65 : decode cX12_ofRoll 65 = .ok (.ireturn, 1) := by decide +kernel
theorem dX12_ofRoll_66 : decode cX12_ofRoll 66 = .ok (.aload_n 0, 1) := by decide +kernel
theorem dX12_ofRoll_67 : decode cX12_ofRoll 67 = .ok (.iload_n 1, 1) := by decide +kernel
theorem dX12_ofRoll_68 : decode cX12_ofRoll 68 = .ok (.invokevirtual 404, 3) := by decide +kernel
theorem dX12_ofRoll_71 : decode cX12_ofRoll 71 = .ok (.ireturn, 1) := by decide +kernel
theorem dX12_ofRoll_72 : decode cX12_ofRoll 72 = .ok (.aload_n 0, 1) := by decide +kernel
theorem dX12_ofRoll_73 : decode cX12_ofRoll 73 = .ok (.iload_n 1, 1) := by decide +kernel
theorem dX12_ofRoll_74 : decode cX12_ofRoll 74 = .ok (.invokevirtual 407, 3) := by decide +kernel
theorem dX12_ofRoll_77 : decode cX12_ofRoll 77 = .ok (.ireturn, 1) := by decide +kernel
theorem dX12_ofRoll_78 : decode cX12_ofRoll 78 = .ok (.iconst (-1), 1) := by decide +kernel
theorem dX12_ofRoll_79 : decode cX12_ofRoll 79 = .ok (.ireturn, 1) := by decide +kernel
def m12_ofRoll : pMT := (yX12_ofRoll, cX12_ofRoll, 3, some .int)
theorem mo12_ofRoll : mOK m12_ofRoll 2 := ⟨tb_i 1784 (by decide +kernel), wi_RX12, ⟨wn_RX12.1, wn_RX12.2, by decide +kernel⟩, by decide, plainFor_of_name wp_RX12⟩
theorem mv12_ofRoll : mV m12_ofRoll := ⟨tb_i 1782 (by decide +kernel), tb_i 1783 (by decide +kernel)⟩
def f12_ofRoll (n : Nat) (I : (Nat → Nat → Int32)) (L : (Nat → Nat → Int64)) (O : (Nat → Nat → Option Nat)) (a0 : Nat) (x1 : Int32) (x2 : Int32) : Option (Int32 × (Nat → Nat → Int32) × (Nat → Nat → Int64)) := (f12_isRoll I O a0 x1).bind fun r1 => (if r1 = 0 then some (((-1) : Int32), I, L) else (if x2 = 0 then (if ((114 : Int32) + x1) < 0 ∨ 4371 ≤ ((114 : Int32) + x1).toNatClampNeg then none else some ((I (rO O a0 0) ((114 : Int32) + x1).toNatClampNeg), I, L)) else (if x2 = 1 then (f12_holesIn n I O a0 x1).bind fun r8 => some (r8, I, L) else (if x2 = 2 then (f12_tornIn n I O a0 x1).bind fun r11 => some (r11, I, L) else (if x2 = 3 then (f12_keysIn n I O a0 x1).bind fun r14 => some (r14, I, L) else (if x2 = 4 then (f12_tearsOf n I L O a0 x1).bind fun r17 => some (r17.1, r17.2.1, r17.2.2) else some (((-1) : Int32), I, L)))))))
set_option maxHeartbeats 4000000 in
set_option maxRecDepth 20000 in
theorem o12_ofRoll {g : pG} {Qx : Option Value → pW → Prop} {Z : pZ} {I : (Nat → Nat → Int32)} {L : (Nat → Nat → Int64)} {O : (Nat → Nat → Option Nat)} {n : Nat} {a0 : Nat} {x1 : Int32} {x2 : Int32} {res : Int32 × (Nat → Nat → Int32) × (Nat → Nat → Int64)} (d : Nat) (hW : WT Z O) (hZ0 : Z[a0]? = some (12, 34)) (h : f12_ofRoll n I L O a0 x1 x2 = some res) (hQ : Qx (some (.int res.1)) (Z, res.2.1, res.2.2, O)) : Ok g (d + 10, RX12, cX12_ofRoll, 3, false, 0, 0, Z.length, pSl Z) Qx 0 [(0, .ref a0), (1, .int x1), (2, .int x2)] [] (Z, I, L, O) := by
  unfold f12_ofRoll at h
  refine ok_aload_n dX12_ofRoll_0 0 rfl ?_
  refine ok_iload_n dX12_ofRoll_1 1 rfl ?_
  obtain ⟨r1, hr2, h⟩ := bd h
  refine ok_callV (d := ((d + 6) + 3)) (mt := m12_isRoll) (mc := 0) (ms := 0) (As := [.int x1]) (r := []) dX12_ofRoll_2 mo12_isRoll mv12_isRoll lkRX12_79 rfl hZ0 (q := (RX12, TX12, 34)) rfl rfl rfl (Nat.le_of_ble_eq_true rfl) (by show _ + 1 ≤ d + _; omega) (Nat.le_refl _) (Nat.le_refl _) (pRt_mono ?_)
  refine k12_isRoll (d + 6) hW hZ0 hr2 ?_
  intro hbr1
  show Ok g _ Qx 5 [(0, .ref a0), (1, .int x1), (2, .int x2)] [.int r1] (Z, I, L, O)
  refine ok_if_ne (t := 10) dX12_ofRoll_5 (by decide) (fun hc3 => ?_) (fun hc3 => ?_)
  · have h := (if_neg hc3).symm.trans h
    refine ok_iload_n dX12_ofRoll_10 2 rfl ?_
    by_cases hc4 : x2 = 0
    · have h := (if_pos hc4).symm.trans h
      refine ok_tabEq (t := 44) (off := 33) dX12_ofRoll_11 hc4 (by decide) (by decide) (by decide) (by decide) ?_
      refine ok_aload_n dX12_ofRoll_44 0 rfl ?_
      have hT5 : Z[(rO O a0 0)]? = some (13, 4371) := (wt_f (ci := 12) (k := 0) hW hZ0 rfl).2
      refine ok_getR (ci := 12) (k := 0) dX12_ofRoll_45 flRX12_7 rfl hW hZ0 (by decide) ?_
      refine ok_bipush (v := 114) dX12_ofRoll_48 (by decide) ?_
      refine ok_iload_n dX12_ofRoll_50 1 rfl ?_
      refine ok_iadd dX12_ofRoll_51 ?_
      obtain ⟨hg6, h⟩ := gd h
      refine ok_iald2 (N := ((114 : Int32) + x1).toNatClampNeg) dX12_ofRoll_52 hT5 hg6 rfl ?_
      cases h
      exact ok_iret dX12_ofRoll_53 hQ
    · have h := (if_neg hc4).symm.trans h
      by_cases hc7 : x2 = 1
      · have h := (if_pos hc7).symm.trans h
        refine ok_tabEq (t := 54) (off := 43) dX12_ofRoll_11 hc7 (by decide) (by decide) (by decide) (by decide) ?_
        refine ok_aload_n dX12_ofRoll_54 0 rfl ?_
        refine ok_iload_n dX12_ofRoll_55 1 rfl ?_
        obtain ⟨r8, hr9, h⟩ := bd h
        refine ok_callV (d := ((d + 6) + 3)) (mt := m12_holesIn) (mc := 0) (ms := 0) (As := [.int x1]) (r := []) dX12_ofRoll_56 mo12_holesIn mv12_holesIn lkRX12_272 rfl hZ0 (q := (RX12, TX12, 34)) rfl rfl rfl (Nat.le_of_ble_eq_true rfl) (by show _ + 1 ≤ d + _; omega) (Nat.le_refl _) (Nat.le_refl _) (pRt_mono ?_)
        refine k12_holesIn (d + 6) hW hZ0 hr9 ?_
        intro _
        show Ok g _ Qx 59 [(0, .ref a0), (1, .int x1), (2, .int x2)] [.int r8] (Z, I, L, O)
        cases h
        exact ok_iret dX12_ofRoll_59 hQ
      · have h := (if_neg hc7).symm.trans h
        by_cases hc10 : x2 = 2
        · have h := (if_pos hc10).symm.trans h
          refine ok_tabEq (t := 60) (off := 49) dX12_ofRoll_11 hc10 (by decide) (by decide) (by decide) (by decide) ?_
          refine ok_aload_n dX12_ofRoll_60 0 rfl ?_
          refine ok_iload_n dX12_ofRoll_61 1 rfl ?_
          obtain ⟨r11, hr12, h⟩ := bd h
          refine ok_callV (d := ((d + 5) + 4)) (mt := m12_tornIn) (mc := 0) (ms := 0) (As := [.int x1]) (r := []) dX12_ofRoll_62 mo12_tornIn mv12_tornIn lkRX12_401 rfl hZ0 (q := (RX12, TX12, 34)) rfl rfl rfl (Nat.le_of_ble_eq_true rfl) (by show _ + 1 ≤ d + _; omega) (Nat.le_refl _) (Nat.le_refl _) (pRt_mono ?_)
          refine k12_tornIn (d + 5) hW hZ0 hr12 ?_
          intro _
          show Ok g _ Qx 65 [(0, .ref a0), (1, .int x1), (2, .int x2)] [.int r11] (Z, I, L, O)
          cases h
          exact ok_iret dX12_ofRoll_65 hQ
        · have h := (if_neg hc10).symm.trans h
          by_cases hc13 : x2 = 3
          · have h := (if_pos hc13).symm.trans h
            refine ok_tabEq (t := 66) (off := 55) dX12_ofRoll_11 hc13 (by decide) (by decide) (by decide) (by decide) ?_
            refine ok_aload_n dX12_ofRoll_66 0 rfl ?_
            refine ok_iload_n dX12_ofRoll_67 1 rfl ?_
            obtain ⟨r14, hr15, h⟩ := bd h
            refine ok_callV (d := ((d + 6) + 3)) (mt := m12_keysIn) (mc := 0) (ms := 0) (As := [.int x1]) (r := []) dX12_ofRoll_68 mo12_keysIn mv12_keysIn lkRX12_404 rfl hZ0 (q := (RX12, TX12, 34)) rfl rfl rfl (Nat.le_of_ble_eq_true rfl) (by show _ + 1 ≤ d + _; omega) (Nat.le_refl _) (Nat.le_refl _) (pRt_mono ?_)
            refine k12_keysIn (d + 6) hW hZ0 hr15 ?_
            intro _
            show Ok g _ Qx 71 [(0, .ref a0), (1, .int x1), (2, .int x2)] [.int r14] (Z, I, L, O)
            cases h
            exact ok_iret dX12_ofRoll_71 hQ
          · have h := (if_neg hc13).symm.trans h
            by_cases hc16 : x2 = 4
            · have h := (if_pos hc16).symm.trans h
              refine ok_tabEq (t := 72) (off := 61) dX12_ofRoll_11 hc16 (by decide) (by decide) (by decide) (by decide) ?_
              refine ok_aload_n dX12_ofRoll_72 0 rfl ?_
              refine ok_iload_n dX12_ofRoll_73 1 rfl ?_
              obtain ⟨r17, hr18, h⟩ := bd h
              refine ok_callV (d := ((d + 0) + 9)) (mt := m12_tearsOf) (mc := 0) (ms := 0) (As := [.int x1]) (r := []) dX12_ofRoll_74 mo12_tearsOf mv12_tearsOf lkRX12_407 rfl hZ0 (q := (RX12, TX12, 34)) rfl rfl rfl (Nat.le_of_ble_eq_true rfl) (by show _ + 1 ≤ d + _; omega) (Nat.le_refl _) (Nat.le_refl _) (pRt_mono ?_)
              refine k12_tearsOf (d + 0) hW hZ0 hr18 ?_
              intro _
              show Ok g _ Qx 77 [(0, .ref a0), (1, .int x1), (2, .int x2)] [.int r17.1] (Z, r17.2.1, r17.2.2, O)
              cases h
              exact ok_iret dX12_ofRoll_77 hQ
            · have h := (if_neg hc16).symm.trans h
              refine ok_tabOut (t := 78) dX12_ofRoll_11 (by have n0 := neI hc4 (a := 0) (by decide); have n1 := neI hc7 (a := 1) (by decide); have n2 := neI hc10 (a := 2) (by decide); have n3 := neI hc13 (a := 3) (by decide); have n4 := neI hc16 (a := 4) (by decide); omega) (by decide) ?_
              refine ok_iconst (v := (-1)) dX12_ofRoll_78 (by decide) ?_
              cases h
              exact ok_iret dX12_ofRoll_79 hQ
  · have h := (if_pos hc3).symm.trans h
    refine ok_iconst (v := (-1)) dX12_ofRoll_8 (by decide) ?_
    cases h
    exact ok_iret dX12_ofRoll_9 hQ
theorem k12_ofRoll {g : pG} {Q : Option Value → pW → Prop} {Z : pZ} {I : (Nat → Nat → Int32)} {L : (Nat → Nat → Int64)} {O : (Nat → Nat → Option Nat)} {n : Nat} {a0 : Nat} {x1 : Int32} {x2 : Int32} {res : Int32 × (Nat → Nat → Int32) × (Nat → Nat → Int64)} (d : Nat) (hW : WT Z O) (hZ0 : Z[a0]? = some (12, 34)) (h : f12_ofRoll n I L O a0 x1 x2 = some res) (hQ : Q (some (.int res.1)) (Z, res.2.1, res.2.2, O)) : CT g (d + 10) m12_ofRoll 0 0 [.ref a0, .int x1, .int x2] (Z, I, L, O) Q :=
  ct_of_ok (mt := m12_ofRoll) (ini := false) mo12_ofRoll.2.2.2.2 (fun h => by cases h) (Nat.le_of_ble_eq_true rfl) (o12_ofRoll d hW hZ0 h ⟨trivial, hQ, rfl, rfl⟩)
