theorem flRX12_47 : FL RX12 47 12 25 := ⟨(RX12, TX12, 34), rfl, by decide, tb_i 1330 (by decide +kernel)⟩
theorem flRX12_50 : FL RX12 50 12 26 := ⟨(RX12, TX12, 34), rfl, by decide, tb_i 1331 (by decide +kernel)⟩
theorem lkRX12_410 : Cond.methodLink RX12 410 yX12_entry ∈ lw_tbl := tb_i 1813 (by decide +kernel)
theorem lkRX12_413 : Cond.methodLink RX12 413 yX12_bits ∈ lw_tbl := tb_i 1825 (by decide +kernel)
theorem lkRX12_416 : Cond.methodLink RX12 416 yX12_wornIn ∈ lw_tbl := tb_i 1832 (by decide +kernel)
theorem lkRX12_419 : Cond.methodLink RX12 419 yX12_changesOf ∈ lw_tbl := tb_i 1848 (by decide +kernel)
theorem lkRX12_422 : Cond.methodLink RX12 422 yX12_areOne ∈ lw_tbl := tb_i 1860 (by decide +kernel)
theorem lkRX12_426 : Cond.methodLink RX12 426 yX12_layCommon ∈ lw_tbl := tb_i 1856 (by decide +kernel)
theorem lkRX12_429 : Cond.methodLink RX12 429 yX12_firstLike ∈ lw_tbl := tb_i 1864 (by decide +kernel)
theorem dX12_at_0 : decode cX12_at 0 = .ok (.aload_n 0, 1) := by decide +kernel
theorem dX12_at_1 : decode cX12_at 1 = .ok (.iload_n 1, 1) := by decide +kernel
theorem dX12_at_2 : decode cX12_at 2 = .ok (.iload_n 2, 1) := by decide +kernel
theorem dX12_at_3 : decode cX12_at 3 = .ok (.invokevirtual 94, 3) := by decide +kernel
theorem dX12_at_6 : decode cX12_at 6 = .ok (.ifCond .ne 5, 3) := by decide +kernel
theorem dX12_at_9 : decode cX12_at 9 = .ok (.iconst (-1), 1) := by decide +kernel
theorem dX12_at_10 : decode cX12_at 10 = .ok (.ireturn, 1) := by decide +kernel
theorem dX12_at_11 : decode cX12_at 11 = .ok (.iload_n 3, 1) := by decide +kernel
theorem dX12_at_12 : decode cX12_at 12 = .ok (.ifCond .ne 12, 3) := by decide +kernel
theorem dX12_at_15 : decode cX12_at 15 = .ok (.aload_n 0, 1) := by decide +kernel
theorem dX12_at_16 : decode cX12_at 16 = .ok (.iload_n 1, 1) := by decide +kernel
theorem dX12_at_17 : decode cX12_at 17 = .ok (.iload_n 2, 1) := by decide +kernel
theorem dX12_at_18 : decode cX12_at 18 = .ok (.invokevirtual 87, 3) := by decide +kernel
theorem dX12_at_21 : decode cX12_at 21 = .ok (.goto 32, 3) := by decide +kernel
theorem dX12_at_24 : decode cX12_at 24 = .ok (.iload_n 3, 1) := by decide +kernel
theorem dX12_at_25 : decode cX12_at 25 = .ok (.iconst 1, 1) := by decide +kernel
theorem dX12_at_26 : decode cX12_at 26 = .ok (.if_icmp .ne 12, 3) := by decide +kernel
theorem dX12_at_29 : decode cX12_at 29 = .ok (.aload_n 0, 1) := by decide +kernel
theorem dX12_at_30 : decode cX12_at 30 = .ok (.iload_n 1, 1) := by decide +kernel
theorem dX12_at_31 : decode cX12_at 31 = .ok (.iload_n 2, 1) := by decide +kernel
theorem dX12_at_32 : decode cX12_at 32 = .ok (.invokevirtual 83, 3) := by decide +kernel
theorem dX12_at_35 : decode cX12_at 35 = .ok (.goto 18, 3) := by decide +kernel
theorem dX12_at_38 : decode cX12_at 38 = .ok (.iload_n 3, 1) := by decide +kernel
theorem dX12_at_39 : decode cX12_at 39 = .ok (.iconst 2, 1) := by decide +kernel
theorem dX12_at_40 : decode cX12_at 40 = .ok (.if_icmp .ne 12, 3) := by decide +kernel
theorem dX12_at_43 : decode cX12_at 43 = .ok (.aload_n 0, 1) := by decide +kernel
theorem dX12_at_44 : decode cX12_at 44 = .ok (.iload_n 1, 1) := by decide +kernel
theorem dX12_at_45 : decode cX12_at 45 = .ok (.iload_n 2, 1) := by decide +kernel
theorem dX12_at_46 : decode cX12_at 46 = .ok (.invokevirtual 340, 3) := by decide +kernel
theorem dX12_at_49 : decode cX12_at 49 = .ok (.goto 4, 3) := by decide +kernel
theorem dX12_at_52 : decode cX12_at 52 = .ok (.iconst (-1), 1) := by decide +kernel
theorem dX12_at_53 : decode cX12_at 53 = .ok (.ireturn, 1) := by decide +kernel
def m12_at : pMT := (yX12_at, cX12_at, 4, some .int)
theorem mo12_at : mOK m12_at 3 := ⟨tb_i 1800 (by decide +kernel), wi_RX12, ⟨wn_RX12.1, wn_RX12.2, by decide +kernel⟩, by decide, plainFor_of_name wp_RX12⟩
theorem mv12_at : mV m12_at := ⟨tb_i 1798 (by decide +kernel), tb_i 1799 (by decide +kernel)⟩
def f12_at (n : Nat) (I : (Nat → Nat → Int32)) (L : (Nat → Nat → Int64)) (O : (Nat → Nat → Option Nat)) (a0 : Nat) (x1 : Int32) (x2 : Int32) (x3 : Int32) : Option (Int32 × (Nat → Nat → Int32) × (Nat → Nat → Int64)) := (f12_isPlace I O a0 x1 x2).bind fun r1 => (if r1 = 0 then some (((-1) : Int32), I, L) else (if x3 = 0 then (f12_keyOf I O a0 x1 x2).bind fun r11 => some (r11, I, L) else (if x3 = (1 : Int32) then (f12_wearOf I O a0 x1 x2).bind fun r9 => some (r9, I, L) else (if x3 = (2 : Int32) then (f12_wearsOf n I L O a0 x1 x2).bind fun r7 => some (r7.1, r7.2.1, r7.2.2) else some (((-1) : Int32), I, L)))))
set_option maxHeartbeats 4000000 in
set_option maxRecDepth 20000 in
theorem o12_at {g : pG} {Qx : Option Value → pW → Prop} {Z : pZ} {I : (Nat → Nat → Int32)} {L : (Nat → Nat → Int64)} {O : (Nat → Nat → Option Nat)} {n : Nat} {a0 : Nat} {x1 : Int32} {x2 : Int32} {x3 : Int32} {res : Int32 × (Nat → Nat → Int32) × (Nat → Nat → Int64)} (d : Nat) (hW : WT Z O) (hZ0 : Z[a0]? = some (12, 34)) (h : f12_at n I L O a0 x1 x2 x3 = some res) (hQ : Qx (some (.int res.1)) (Z, res.2.1, res.2.2, O)) : Ok g (d + 9, RX12, cX12_at, 4, false, 0, 0, Z.length, pSl Z) Qx 0 [(0, .ref a0), (1, .int x1), (2, .int x2), (3, .int x3)] [] (Z, I, L, O) := by
  unfold f12_at at h
  refine ok_aload_n dX12_at_0 0 rfl ?_
  refine ok_iload_n dX12_at_1 1 rfl ?_
  refine ok_iload_n dX12_at_2 2 rfl ?_
  obtain ⟨r1, hr2, h⟩ := bd h
  refine ok_callV (d := ((d + 4) + 4)) (mt := m12_isPlace) (mc := 0) (ms := 0) (As := [.int x1, .int x2]) (r := []) dX12_at_3 mo12_isPlace mv12_isPlace lkRX12_94 rfl hZ0 (q := (RX12, TX12, 34)) rfl rfl rfl (Nat.le_of_ble_eq_true rfl) (by show _ + 1 ≤ d + _; omega) (Nat.le_refl _) (Nat.le_refl _) (pRt_mono ?_)
  refine k12_isPlace (d + 4) hW hZ0 hr2 ?_
  intro hbr1
  show Ok g _ Qx 6 [(0, .ref a0), (1, .int x1), (2, .int x2), (3, .int x3)] [.int r1] (Z, I, L, O)
  refine ok_if_ne (t := 11) dX12_at_6 (by decide) (fun hc3 => ?_) (fun hc3 => ?_)
  · have h := (if_neg hc3).symm.trans h
    refine ok_iload_n dX12_at_11 3 rfl ?_
    refine ok_if_ne (t := 24) dX12_at_12 (by decide) (fun hc4 => ?_) (fun hc4 => ?_)
    · have h := (if_neg hc4).symm.trans h
      refine ok_iload_n dX12_at_24 3 rfl ?_
      refine ok_iconst (v := 1) dX12_at_25 (by decide) ?_
      refine ok_icmp_ne (t := 38) dX12_at_26 (by decide) (fun hc5 => ?_) (fun hc5 => ?_)
      · have h := (if_neg hc5).symm.trans h
        refine ok_iload_n dX12_at_38 3 rfl ?_
        refine ok_iconst (v := 2) dX12_at_39 (by decide) ?_
        refine ok_icmp_ne (t := 52) dX12_at_40 (by decide) (fun hc6 => ?_) (fun hc6 => ?_)
        · have h := (if_neg hc6).symm.trans h
          refine ok_iconst (v := (-1)) dX12_at_52 (by decide) ?_
          cases h
          exact ok_iret dX12_at_53 hQ
        · have h := (if_pos hc6).symm.trans h
          refine ok_aload_n dX12_at_43 0 rfl ?_
          refine ok_iload_n dX12_at_44 1 rfl ?_
          refine ok_iload_n dX12_at_45 2 rfl ?_
          obtain ⟨r7, hr8, h⟩ := bd h
          refine ok_callV (d := ((d + 0) + 8)) (mt := m12_wearsOf) (mc := 0) (ms := 0) (As := [.int x1, .int x2]) (r := []) dX12_at_46 mo12_wearsOf mv12_wearsOf lkRX12_340 rfl hZ0 (q := (RX12, TX12, 34)) rfl rfl rfl (Nat.le_of_ble_eq_true rfl) (by show _ + 1 ≤ d + _; omega) (Nat.le_refl _) (Nat.le_refl _) (pRt_mono ?_)
          refine k12_wearsOf (d + 0) hW hZ0 hr8 ?_
          intro _
          show Ok g _ Qx 49 [(0, .ref a0), (1, .int x1), (2, .int x2), (3, .int x3)] [.int r7.1] (Z, r7.2.1, r7.2.2, O)
          refine ok_goto (t := 53) dX12_at_49 (by decide) ?_
          cases h
          exact ok_iret dX12_at_53 hQ
      · have h := (if_pos hc5).symm.trans h
        refine ok_aload_n dX12_at_29 0 rfl ?_
        refine ok_iload_n dX12_at_30 1 rfl ?_
        refine ok_iload_n dX12_at_31 2 rfl ?_
        obtain ⟨r9, hr10, h⟩ := bd h
        refine ok_callV (d := ((d + 6) + 2)) (mt := m12_wearOf) (mc := 0) (ms := 0) (As := [.int x1, .int x2]) (r := []) dX12_at_32 mo12_wearOf mv12_wearOf lkRX12_83 rfl hZ0 (q := (RX12, TX12, 34)) rfl rfl rfl (Nat.le_of_ble_eq_true rfl) (by show _ + 1 ≤ d + _; omega) (Nat.le_refl _) (Nat.le_refl _) (pRt_mono ?_)
        refine k12_wearOf (d + 6) hW hZ0 hr10 ?_
        intro _
        show Ok g _ Qx 35 [(0, .ref a0), (1, .int x1), (2, .int x2), (3, .int x3)] [.int r9] (Z, I, L, O)
        refine ok_goto (t := 53) dX12_at_35 (by decide) ?_
        cases h
        exact ok_iret dX12_at_53 hQ
    · have h := (if_pos hc4).symm.trans h
      refine ok_aload_n dX12_at_15 0 rfl ?_
      refine ok_iload_n dX12_at_16 1 rfl ?_
      refine ok_iload_n dX12_at_17 2 rfl ?_
      obtain ⟨r11, hr12, h⟩ := bd h
      refine ok_callV (d := ((d + 6) + 2)) (mt := m12_keyOf) (mc := 0) (ms := 0) (As := [.int x1, .int x2]) (r := []) dX12_at_18 mo12_keyOf mv12_keyOf lkRX12_87 rfl hZ0 (q := (RX12, TX12, 34)) rfl rfl rfl (Nat.le_of_ble_eq_true rfl) (by show _ + 1 ≤ d + _; omega) (Nat.le_refl _) (Nat.le_refl _) (pRt_mono ?_)
      refine k12_keyOf (d + 6) hW hZ0 hr12 ?_
      intro _
      show Ok g _ Qx 21 [(0, .ref a0), (1, .int x1), (2, .int x2), (3, .int x3)] [.int r11] (Z, I, L, O)
      refine ok_goto (t := 53) dX12_at_21 (by decide) ?_
      cases h
      exact ok_iret dX12_at_53 hQ
  · have h := (if_pos hc3).symm.trans h
    refine ok_iconst (v := (-1)) dX12_at_9 (by decide) ?_
    cases h
    exact ok_iret dX12_at_10 hQ
theorem k12_at {g : pG} {Q : Option Value → pW → Prop} {Z : pZ} {I : (Nat → Nat → Int32)} {L : (Nat → Nat → Int64)} {O : (Nat → Nat → Option Nat)} {n : Nat} {a0 : Nat} {x1 : Int32} {x2 : Int32} {x3 : Int32} {res : Int32 × (Nat → Nat → Int32) × (Nat → Nat → Int64)} (d : Nat) (hW : WT Z O) (hZ0 : Z[a0]? = some (12, 34)) (h : f12_at n I L O a0 x1 x2 x3 = some res) (hQ : Q (some (.int res.1)) (Z, res.2.1, res.2.2, O)) : CT g (d + 9) m12_at 0 0 [.ref a0, .int x1, .int x2, .int x3] (Z, I, L, O) Q :=
  ct_of_ok (mt := m12_at) (ini := false) mo12_at.2.2.2.2 (fun h => by cases h) (Nat.le_of_ble_eq_true rfl) (o12_at d hW hZ0 h ⟨trivial, hQ, rfl, rfl⟩)
theorem dX12_law_0 : decode cX12_law 0 = .ok (.aload_n 0, 1) := by decide +kernel
theorem dX12_law_1 : decode cX12_law 1 = .ok (.iload_n 1, 1) := by decide +kernel
theorem dX12_law_2 : decode cX12_law 2 = .ok (.iload_n 2, 1) := by decide +kernel
theorem dX12_law_3 : decode cX12_law 3 = .ok (.invokevirtual 94, 3) := by decide +kernel
theorem dX12_law_6 : decode cX12_law 6 = .ok (.ifCond .eq 11, 3) := by decide +kernel
theorem dX12_law_9 : decode cX12_law 9 = .ok (.aload_n 0, 1) := by decide +kernel
theorem dX12_law_10 : decode cX12_law 10 = .ok (.iload_n 3, 1) := by decide +kernel
theorem dX12_law_11 : decode cX12_law 11 = .ok (.invokevirtual 353, 3) := by decide +kernel
theorem dX12_law_14 : decode cX12_law 14 = .ok (.ifCond .ne 5, 3) := by decide +kernel
theorem dX12_law_17 : decode cX12_law 17 = .ok (.iconst (-1), 1) := by decide +kernel
theorem dX12_law_18 : decode cX12_law 18 = .ok (.ireturn, 1) := by decide +kernel
theorem dX12_law_19 : decode cX12_law 19 = .ok (.iload 4, 2) := by decide +kernel
theorem dX12_law_21 : decode cX12_law 21 = .ok (.ifCond .eq 13, 3) := by decide +kernel
theorem dX12_law_24 : decode cX12_law 24 = .ok (.aload_n 0, 1) := by decide +kernel
theorem dX12_law_25 : decode cX12_law 25 = .ok (.iload_n 1, 1) := by decide +kernel
theorem dX12_law_26 : decode cX12_law 26 = .ok (.iload_n 2, 1) := by decide +kernel
theorem dX12_law_27 : decode cX12_law 27 = .ok (.iload_n 3, 1) := by decide +kernel
theorem dX12_law_28 : decode cX12_law 28 = .ok (.invokevirtual 334, 3) := by decide +kernel
theorem dX12_law_31 : decode cX12_law 31 = .ok (.goto 20, 3) := by decide +kernel
theorem dX12_law_34 : decode cX12_law 34 = .ok (.aload_n 0, 1) := by decide +kernel
theorem dX12_law_35 : decode cX12_law 35 = .ok (.aload_n 0, 1) := by decide +kernel
theorem dX12_law_36 : decode cX12_law 36 = .ok (.getfield 7, 3) := by decide +kernel
theorem dX12_law_39 : decode cX12_law 39 = .ok (.iconst 3, 1) := by decide +kernel
theorem dX12_law_40 : decode cX12_law 40 = .ok (.iaload, 1) := by decide +kernel
theorem dX12_law_41 : decode cX12_law 41 = .ok (.iload_n 3, 1) := by decide +kernel
theorem dX12_law_42 : decode cX12_law 42 = .ok (.aload_n 0, 1) := by decide +kernel
theorem dX12_law_43 : decode cX12_law 43 = .ok (.iload_n 1, 1) := by decide +kernel
theorem dX12_law_44 : decode cX12_law 44 = .ok (.iload_n 2, 1) := by decide +kernel
theorem dX12_law_45 : decode cX12_law 45 = .ok (.invokevirtual 87, 3) := by decide +kernel
theorem dX12_law_48 : decode cX12_law 48 = .ok (.invokevirtual 319, 3) := by decide +kernel
theorem dX12_law_51 : decode cX12_law 51 = .ok (.ireturn, 1) := by decide +kernel
def m12_law : pMT := (yX12_law, cX12_law, 5, some .int)
theorem mo12_law : mOK m12_law 4 := ⟨tb_i 1804 (by decide +kernel), wi_RX12, ⟨wn_RX12.1, wn_RX12.2, by decide +kernel⟩, by decide, plainFor_of_name wp_RX12⟩
theorem mv12_law : mV m12_law := ⟨tb_i 1802 (by decide +kernel), tb_i 1803 (by decide +kernel)⟩
def f12_law (n : Nat) (I : (Nat → Nat → Int32)) (L : (Nat → Nat → Int64)) (O : (Nat → Nat → Option Nat)) (a0 : Nat) (x1 : Int32) (x2 : Int32) (x3 : Int32) (x4 : Int32) : Option (Int32 × (Nat → Nat → Int32) × (Nat → Nat → Int64)) := (f12_isPlace I O a0 x1 x2).bind fun r1 => (if r1 = 0 then some (((-1) : Int32), I, L) else (f12_isChild I O a0 x3).bind fun r4 => (if r4 = 0 then some (((-1) : Int32), I, L) else (if x4 = 0 then (f12_keyOf I O a0 x1 x2).bind fun r9 => (f12_learnsOf n I L O a0 (I (rO O a0 0) 3) x3 r9).bind fun r11 => some (r11.1, r11.2.1, r11.2.2) else (f12_blursOf n I L O a0 x1 x2 x3).bind fun r13 => some (r13.1, r13.2.1, r13.2.2))))
set_option maxHeartbeats 4000000 in
set_option maxRecDepth 20000 in
theorem o12_law {g : pG} {Qx : Option Value → pW → Prop} {Z : pZ} {I : (Nat → Nat → Int32)} {L : (Nat → Nat → Int64)} {O : (Nat → Nat → Option Nat)} {n : Nat} {a0 : Nat} {x1 : Int32} {x2 : Int32} {x3 : Int32} {x4 : Int32} {res : Int32 × (Nat → Nat → Int32) × (Nat → Nat → Int64)} (d : Nat) (hW : WT Z O) (hZ0 : Z[a0]? = some (12, 34)) (h : f12_law n I L O a0 x1 x2 x3 x4 = some res) (hQ : Qx (some (.int res.1)) (Z, res.2.1, res.2.2, O)) : Ok g (d + 9, RX12, cX12_law, 5, false, 0, 0, Z.length, pSl Z) Qx 0 [(0, .ref a0), (1, .int x1), (2, .int x2), (3, .int x3), (4, .int x4)] [] (Z, I, L, O) := by
  unfold f12_law at h
  refine ok_aload_n dX12_law_0 0 rfl ?_
  refine ok_iload_n dX12_law_1 1 rfl ?_
  refine ok_iload_n dX12_law_2 2 rfl ?_
  obtain ⟨r1, hr2, h⟩ := bd h
  refine ok_callV (d := ((d + 4) + 4)) (mt := m12_isPlace) (mc := 0) (ms := 0) (As := [.int x1, .int x2]) (r := []) dX12_law_3 mo12_isPlace mv12_isPlace lkRX12_94 rfl hZ0 (q := (RX12, TX12, 34)) rfl rfl rfl (Nat.le_of_ble_eq_true rfl) (by show _ + 1 ≤ d + _; omega) (Nat.le_refl _) (Nat.le_refl _) (pRt_mono ?_)
  refine k12_isPlace (d + 4) hW hZ0 hr2 ?_
  intro hbr1
  show Ok g _ Qx 6 [(0, .ref a0), (1, .int x1), (2, .int x2), (3, .int x3), (4, .int x4)] [.int r1] (Z, I, L, O)
  refine ok_if_eq (t := 17) dX12_law_6 (by decide) (fun hc3 => ?_) (fun hc3 => ?_)
  · have h := (if_pos hc3).symm.trans h
    refine ok_iconst (v := (-1)) dX12_law_17 (by decide) ?_
    cases h
    exact ok_iret dX12_law_18 hQ
  · have h := (if_neg hc3).symm.trans h
    refine ok_aload_n dX12_law_9 0 rfl ?_
    refine ok_iload_n dX12_law_10 3 rfl ?_
    obtain ⟨r4, hr5, h⟩ := bd h
    refine ok_callV (d := ((d + 5) + 3)) (mt := m12_isChild) (mc := 0) (ms := 0) (As := [.int x3]) (r := []) dX12_law_11 mo12_isChild mv12_isChild lkRX12_353 rfl hZ0 (q := (RX12, TX12, 34)) rfl rfl rfl (Nat.le_of_ble_eq_true rfl) (by show _ + 1 ≤ d + _; omega) (Nat.le_refl _) (Nat.le_refl _) (pRt_mono ?_)
    refine k12_isChild (d + 5) hW hZ0 hr5 ?_
    intro hbr4
    show Ok g _ Qx 14 [(0, .ref a0), (1, .int x1), (2, .int x2), (3, .int x3), (4, .int x4)] [.int r4] (Z, I, L, O)
    refine ok_if_ne (t := 19) dX12_law_14 (by decide) (fun hc6 => ?_) (fun hc6 => ?_)
    · have h := (if_neg hc6).symm.trans h
      refine ok_iload dX12_law_19 4 rfl ?_
      refine ok_if_eq (t := 34) dX12_law_21 (by decide) (fun hc7 => ?_) (fun hc7 => ?_)
      · have h := (if_pos hc7).symm.trans h
        refine ok_aload_n dX12_law_34 0 rfl ?_
        refine ok_aload_n dX12_law_35 0 rfl ?_
        have hT8 : Z[(rO O a0 0)]? = some (13, 4371) := (wt_f (ci := 12) (k := 0) hW hZ0 rfl).2
        refine ok_getR (ci := 12) (k := 0) dX12_law_36 flRX12_7 rfl hW hZ0 (by decide) ?_
        refine ok_iconst (v := 3) dX12_law_39 (by decide) ?_
        refine ok_iald2 (N := 3) dX12_law_40 hT8 (by unfold vp_in; decide) (by decide) ?_
        refine ok_iload_n dX12_law_41 3 rfl ?_
        refine ok_aload_n dX12_law_42 0 rfl ?_
        refine ok_iload_n dX12_law_43 1 rfl ?_
        refine ok_iload_n dX12_law_44 2 rfl ?_
        obtain ⟨r9, hr10, h⟩ := bd h
        refine ok_callV (d := ((d + 6) + 2)) (mt := m12_keyOf) (mc := 0) (ms := 0) (As := [.int x1, .int x2]) (r := [.int x3, .int (I (rO O a0 0) 3), .ref a0]) dX12_law_45 mo12_keyOf mv12_keyOf lkRX12_87 rfl hZ0 (q := (RX12, TX12, 34)) rfl rfl rfl (Nat.le_of_ble_eq_true rfl) (by show _ + 1 ≤ d + _; omega) (Nat.le_refl _) (Nat.le_refl _) (pRt_mono ?_)
        refine k12_keyOf (d + 6) hW hZ0 hr10 ?_
        intro _
        show Ok g _ Qx 48 [(0, .ref a0), (1, .int x1), (2, .int x2), (3, .int x3), (4, .int x4)] [.int r9, .int x3, .int (I (rO O a0 0) 3), .ref a0] (Z, I, L, O)
        obtain ⟨r11, hr12, h⟩ := bd h
        refine ok_callV (d := ((d + 0) + 8)) (mt := m12_learnsOf) (mc := 0) (ms := 0) (As := [.int (I (rO O a0 0) 3), .int x3, .int r9]) (r := []) dX12_law_48 mo12_learnsOf mv12_learnsOf lkRX12_319 rfl hZ0 (q := (RX12, TX12, 34)) rfl rfl rfl (Nat.le_of_ble_eq_true rfl) (by show _ + 1 ≤ d + _; omega) (Nat.le_refl _) (Nat.le_refl _) (pRt_mono ?_)
        refine k12_learnsOf (d + 0) hW hZ0 hr12 ?_
        intro _
        show Ok g _ Qx 51 [(0, .ref a0), (1, .int x1), (2, .int x2), (3, .int x3), (4, .int x4)] [.int r11.1] (Z, r11.2.1, r11.2.2, O)
        cases h
        exact ok_iret dX12_law_51 hQ
      · have h := (if_neg hc7).symm.trans h
        refine ok_aload_n dX12_law_24 0 rfl ?_
        refine ok_iload_n dX12_law_25 1 rfl ?_
        refine ok_iload_n dX12_law_26 2 rfl ?_
        refine ok_iload_n dX12_law_27 3 rfl ?_
        obtain ⟨r13, hr14, h⟩ := bd h
        refine ok_callV (d := ((d + 0) + 8)) (mt := m12_blursOf) (mc := 0) (ms := 0) (As := [.int x1, .int x2, .int x3]) (r := []) dX12_law_28 mo12_blursOf mv12_blursOf lkRX12_334 rfl hZ0 (q := (RX12, TX12, 34)) rfl rfl rfl (Nat.le_of_ble_eq_true rfl) (by show _ + 1 ≤ d + _; omega) (Nat.le_refl _) (Nat.le_refl _) (pRt_mono ?_)
        refine k12_blursOf (d + 0) hW hZ0 hr14 ?_
        intro _
        show Ok g _ Qx 31 [(0, .ref a0), (1, .int x1), (2, .int x2), (3, .int x3), (4, .int x4)] [.int r13.1] (Z, r13.2.1, r13.2.2, O)
        refine ok_goto (t := 51) dX12_law_31 (by decide) ?_
        cases h
        exact ok_iret dX12_law_51 hQ
    · have h := (if_pos hc6).symm.trans h
      refine ok_iconst (v := (-1)) dX12_law_17 (by decide) ?_
      cases h
      exact ok_iret dX12_law_18 hQ
theorem k12_law {g : pG} {Q : Option Value → pW → Prop} {Z : pZ} {I : (Nat → Nat → Int32)} {L : (Nat → Nat → Int64)} {O : (Nat → Nat → Option Nat)} {n : Nat} {a0 : Nat} {x1 : Int32} {x2 : Int32} {x3 : Int32} {x4 : Int32} {res : Int32 × (Nat → Nat → Int32) × (Nat → Nat → Int64)} (d : Nat) (hW : WT Z O) (hZ0 : Z[a0]? = some (12, 34)) (h : f12_law n I L O a0 x1 x2 x3 x4 = some res) (hQ : Q (some (.int res.1)) (Z, res.2.1, res.2.2, O)) : CT g (d + 9) m12_law 0 0 [.ref a0, .int x1, .int x2, .int x3, .int x4] (Z, I, L, O) Q :=
  ct_of_ok (mt := m12_law) (ini := false) mo12_law.2.2.2.2 (fun h => by cases h) (Nat.le_of_ble_eq_true rfl) (o12_law d hW hZ0 h ⟨trivial, hQ, rfl, rfl⟩)
theorem dX12_is_0 : decode cX12_is 0 = .ok (.iload_n 1, 1) := by decide +kernel
theorem dX12_is_1 : decode cX12_is 1 = .ok (.iconst 0, 1) := by decide +kernel
theorem dX12_is_2 : decode cX12_is 2 = .ok (.iconst 1, 1) := by decide +kernel
theorem dX12_is_3 : decode cX12_is 3 = .ok (.invokestatic 75, 3) := by decide +kernel
theorem dX12_is_6 : decode cX12_is 6 = .ok (.ifCond .eq 15, 3) := by decide +kernel
theorem dX12_is_9 : decode cX12_is 9 = .ok (.aload_n 0, 1) := by decide +kernel
theorem dX12_is_10 : decode cX12_is 10 = .ok (.getfield 7, 3) := by decide +kernel
theorem dX12_is_13 : decode cX12_is 13 = .ok (.bipush 7, 2) := by decide +kernel
theorem dX12_is_15 : decode cX12_is 15 = .ok (.iload_n 1, 1) := by decide +kernel
theorem dX12_is_16 : decode cX12_is 16 = .ok (.iadd, 1) := by decide +kernel
theorem dX12_is_17 : decode cX12_is 17 = .ok (.iaload, 1) := by decide +kernel
theorem dX12_is_18 : decode cX12_is 18 = .ok (.goto 25, 3) := by decide +kernel
theorem dX12_is_21 : decode cX12_is 21 = .ok (.iload_n 1, 1) := by decide +kernel
theorem dX12_is_22 : decode cX12_is 22 = .ok (.iconst 2, 1) := by decide +kernel
theorem dX12_is_23 : decode cX12_is 23 = .ok (.iconst 3, 1) := by decide +kernel
theorem dX12_is_24 : decode cX12_is 24 = .ok (.invokestatic 75, 3) := by decide +kernel
theorem dX12_is_27 : decode cX12_is 27 = .ok (.ifCond .eq 14, 3) := by decide +kernel
theorem dX12_is_30 : decode cX12_is 30 = .ok (.aload_n 0, 1) := by decide +kernel
theorem dX12_is_31 : decode cX12_is 31 = .ok (.getfield 7, 3) := by decide +kernel
theorem dX12_is_34 : decode cX12_is 34 = .ok (.iload_n 1, 1) := by decide +kernel
theorem dX12_is_35 : decode cX12_is 35 = .ok (.iconst 2, 1) := by decide +kernel
theorem dX12_is_36 : decode cX12_is 36 = .ok (.isub, 1) := by decide +kernel
theorem dX12_is_37 : decode cX12_is 37 = .ok (.iaload, 1) := by decide +kernel
theorem dX12_is_38 : decode cX12_is 38 = .ok (.goto 5, 3) := by decide +kernel
theorem dX12_is_41 : decode cX12_is 41 = .ok (.bipush (-2), 2) := by decide +kernel
theorem dX12_is_43 : decode cX12_is 43 = .ok (.ireturn, 1) := by decide +kernel
def m12_is : pMT := (yX12_is, cX12_is, 2, some .int)
theorem mo12_is : mOK m12_is 1 := ⟨tb_i 1808 (by decide +kernel), wi_RX12, ⟨wn_RX12.1, wn_RX12.2, by decide +kernel⟩, by decide, plainFor_of_name wp_RX12⟩
theorem mv12_is : mV m12_is := ⟨tb_i 1806 (by decide +kernel), tb_i 1807 (by decide +kernel)⟩
def f12_is (I : (Nat → Nat → Int32)) (O : (Nat → Nat → Option Nat)) (a0 : Nat) (x1 : Int32) : Option (Int32) := (f12_isIn x1 (0 : Int32) (1 : Int32)).bind fun r1 => (if r1 = 0 then (f12_isIn x1 (2 : Int32) (3 : Int32)).bind fun r4 => (if r4 = 0 then some (((-2) : Int32)) else (if (x1 - 2) < 0 ∨ 4371 ≤ (x1 - 2).toNatClampNeg then none else some ((I (rO O a0 0) (x1 - 2).toNatClampNeg)))) else (if ((7 : Int32) + x1) < 0 ∨ 4371 ≤ ((7 : Int32) + x1).toNatClampNeg then none else some ((I (rO O a0 0) ((7 : Int32) + x1).toNatClampNeg))))
set_option maxHeartbeats 4000000 in
set_option maxRecDepth 20000 in
theorem o12_is {g : pG} {Qx : Option Value → pW → Prop} {Z : pZ} {I : (Nat → Nat → Int32)} {L : (Nat → Nat → Int64)} {O : (Nat → Nat → Option Nat)} {a0 : Nat} {x1 : Int32} {res : Int32} (d : Nat) (hW : WT Z O) (hZ0 : Z[a0]? = some (12, 34)) (h : f12_is I O a0 x1 = some res) (hQ : Qx (some (.int res)) (Z, I, L, O)) : Ok g (d + 3, RX12, cX12_is, 2, false, 0, 0, Z.length, pSl Z) Qx 0 [(0, .ref a0), (1, .int x1)] [] (Z, I, L, O) := by
  unfold f12_is at h
  refine ok_iload_n dX12_is_0 1 rfl ?_
  refine ok_iconst (v := 0) dX12_is_1 (by decide) ?_
  refine ok_iconst (v := 1) dX12_is_2 (by decide) ?_
  obtain ⟨r1, hr2, h⟩ := bd h
  refine ok_callS (d := ((d + 0) + 2)) (mt := m12_isIn) (mc := 0) (ms := 0) (As := [.int x1, .int 0, .int 1]) (r := []) dX12_is_3 mo12_isIn mv12_isIn lkRX12_75 rfl rfl (Nat.le_of_ble_eq_true rfl) (by show _ + 1 ≤ d + _; omega) (Nat.le_refl _) (Nat.le_refl _) (pRt_mono ?_)
  refine k12_isIn (d + 0) hW  hr2 ?_
  intro hbr1
  show Ok g _ Qx 6 [(0, .ref a0), (1, .int x1)] [.int r1] (Z, I, L, O)
  refine ok_if_eq (t := 21) dX12_is_6 (by decide) (fun hc3 => ?_) (fun hc3 => ?_)
  · have h := (if_pos hc3).symm.trans h
    refine ok_iload_n dX12_is_21 1 rfl ?_
    refine ok_iconst (v := 2) dX12_is_22 (by decide) ?_
    refine ok_iconst (v := 3) dX12_is_23 (by decide) ?_
    obtain ⟨r4, hr5, h⟩ := bd h
    refine ok_callS (d := ((d + 0) + 2)) (mt := m12_isIn) (mc := 0) (ms := 0) (As := [.int x1, .int 2, .int 3]) (r := []) dX12_is_24 mo12_isIn mv12_isIn lkRX12_75 rfl rfl (Nat.le_of_ble_eq_true rfl) (by show _ + 1 ≤ d + _; omega) (Nat.le_refl _) (Nat.le_refl _) (pRt_mono ?_)
    refine k12_isIn (d + 0) hW  hr5 ?_
    intro hbr4
    show Ok g _ Qx 27 [(0, .ref a0), (1, .int x1)] [.int r4] (Z, I, L, O)
    refine ok_if_eq (t := 41) dX12_is_27 (by decide) (fun hc6 => ?_) (fun hc6 => ?_)
    · have h := (if_pos hc6).symm.trans h
      refine ok_bipush (v := (-2)) dX12_is_41 (by decide) ?_
      cases h
      exact ok_iret dX12_is_43 hQ
    · have h := (if_neg hc6).symm.trans h
      refine ok_aload_n dX12_is_30 0 rfl ?_
      have hT7 : Z[(rO O a0 0)]? = some (13, 4371) := (wt_f (ci := 12) (k := 0) hW hZ0 rfl).2
      refine ok_getR (ci := 12) (k := 0) dX12_is_31 flRX12_7 rfl hW hZ0 (by decide) ?_
      refine ok_iload_n dX12_is_34 1 rfl ?_
      refine ok_iconst (v := 2) dX12_is_35 (by decide) ?_
      refine ok_isub dX12_is_36 ?_
      obtain ⟨hg8, h⟩ := gd h
      refine ok_iald2 (N := (x1 - 2).toNatClampNeg) dX12_is_37 hT7 hg8 rfl ?_
      refine ok_goto (t := 43) dX12_is_38 (by decide) ?_
      cases h
      exact ok_iret dX12_is_43 hQ
  · have h := (if_neg hc3).symm.trans h
    refine ok_aload_n dX12_is_9 0 rfl ?_
    have hT9 : Z[(rO O a0 0)]? = some (13, 4371) := (wt_f (ci := 12) (k := 0) hW hZ0 rfl).2
    refine ok_getR (ci := 12) (k := 0) dX12_is_10 flRX12_7 rfl hW hZ0 (by decide) ?_
    refine ok_bipush (v := 7) dX12_is_13 (by decide) ?_
    refine ok_iload_n dX12_is_15 1 rfl ?_
    refine ok_iadd dX12_is_16 ?_
    obtain ⟨hg10, h⟩ := gd h
    refine ok_iald2 (N := ((7 : Int32) + x1).toNatClampNeg) dX12_is_17 hT9 hg10 rfl ?_
    refine ok_goto (t := 43) dX12_is_18 (by decide) ?_
    cases h
    exact ok_iret dX12_is_43 hQ
theorem k12_is {g : pG} {Q : Option Value → pW → Prop} {Z : pZ} {I : (Nat → Nat → Int32)} {L : (Nat → Nat → Int64)} {O : (Nat → Nat → Option Nat)} {a0 : Nat} {x1 : Int32} {res : Int32} (d : Nat) (hW : WT Z O) (hZ0 : Z[a0]? = some (12, 34)) (h : f12_is I O a0 x1 = some res) (hQ : Q (some (.int res)) (Z, I, L, O)) : CT g (d + 3) m12_is 0 0 [.ref a0, .int x1] (Z, I, L, O) Q :=
  ct_of_ok (mt := m12_is) (ini := false) mo12_is.2.2.2.2 (fun h => by cases h) (Nat.le_of_ble_eq_true rfl) (o12_is d hW hZ0 h ⟨trivial, hQ, rfl, rfl⟩)
theorem dX12_entry_0 : decode cX12_entry 0 = .ok (.aload_n 0, 1) := by decide +kernel
theorem dX12_entry_1 : decode cX12_entry 1 = .ok (.getfield 7, 3) := by decide +kernel
theorem dX12_entry_4 : decode cX12_entry 4 = .ok (.sipush 4341, 3) := by decide +kernel
theorem dX12_entry_7 : decode cX12_entry 7 = .ok (.iload_n 1, 1) := by decide +kernel
theorem dX12_entry_8 : decode cX12_entry 8 = .ok (.iadd, 1) := by decide +kernel
theorem dX12_entry_9 : decode cX12_entry 9 = .ok (.iaload, 1) := by decide +kernel
theorem dX12_entry_10 : decode cX12_entry 10 = .ok (.istore_n 3, 1) := by decide +kernel
theorem dX12_entry_11 : decode cX12_entry 11 = .ok (.iload_n 2, 1) := by decide +kernel
theorem dX12_entry_12 : decode cX12_entry 12 = .ok (.ifCond .ne 11, 3) := by decide +kernel
theorem dX12_entry_15 : decode cX12_entry 15 = .ok (.iload_n 3, 1) := by decide +kernel
theorem dX12_entry_16 : decode cX12_entry 16 = .ok (.sipush 340, 3) := by decide +kernel
theorem dX12_entry_19 : decode cX12_entry 19 = .ok (.idiv, 1) := by decide +kernel
theorem dX12_entry_20 : decode cX12_entry 20 = .ok (.goto 35, 3) := by decide +kernel
theorem dX12_entry_23 : decode cX12_entry 23 = .ok (.iload_n 2, 1) := by decide +kernel
theorem dX12_entry_24 : decode cX12_entry 24 = .ok (.iconst 1, 1) := by decide +kernel
theorem dX12_entry_25 : decode cX12_entry 25 = .ok (.if_icmp .ne 12, 3) := by decide +kernel
theorem dX12_entry_28 : decode cX12_entry 28 = .ok (.iload_n 3, 1) := by decide +kernel
theorem dX12_entry_29 : decode cX12_entry 29 = .ok (.bipush 68, 2) := by decide +kernel
theorem dX12_entry_31 : decode cX12_entry 31 = .ok (.idiv, 1) := by decide +kernel
theorem dX12_entry_32 : decode cX12_entry 32 = .ok (.iconst 5, 1) := by decide +kernel
theorem dX12_entry_33 : decode cX12_entry 33 = .ok (.irem, 1) := by decide +kernel
theorem dX12_entry_34 : decode cX12_entry 34 = .ok (.goto 21, 3) := by decide +kernel
theorem dX12_entry_37 : decode cX12_entry 37 = .ok (.iload_n 2, 1) := by decide +kernel
theorem dX12_entry_38 : decode cX12_entry 38 = .ok (.iconst 2, 1) := by decide +kernel
theorem dX12_entry_39 : decode cX12_entry 39 = .ok (.if_icmp .ne 12, 3) := by decide +kernel
theorem dX12_entry_42 : decode cX12_entry 42 = .ok (.iload_n 3, 1) := by decide +kernel
theorem dX12_entry_43 : decode cX12_entry 43 = .ok (.bipush 17, 2) := by decide +kernel
theorem dX12_entry_45 : decode cX12_entry 45 = .ok (.idiv, 1) := by decide +kernel
theorem dX12_entry_46 : decode cX12_entry 46 = .ok (.iconst 4, 1) := by decide +kernel
theorem dX12_entry_47 : decode cX12_entry 47 = .ok (.irem, 1) := by decide +kernel
theorem dX12_entry_48 : decode cX12_entry 48 = .ok (.goto 7, 3) := by decide +kernel
theorem dX12_entry_51 : decode cX12_entry 51 = .ok (.iload_n 3, 1) := by decide +kernel
theorem dX12_entry_52 : decode cX12_entry 52 = .ok (.bipush 17, 2) := by decide +kernel
theorem dX12_entry_54 : decode cX12_entry 54 = .ok (.irem, 1) := by decide +kernel
theorem dX12_entry_55 : decode cX12_entry 55 = .ok (.ireturn, 1) := by decide +kernel
def m12_entry : pMT := (yX12_entry, cX12_entry, 4, some .int)
theorem mo12_entry : mOK m12_entry 2 := ⟨tb_i 1816 (by decide +kernel), wi_RX12, ⟨wn_RX12.1, wn_RX12.2, by decide +kernel⟩, by decide, plainFor_of_name wp_RX12⟩
theorem mv12_entry : mV m12_entry := ⟨tb_i 1815 (by decide +kernel), tb_p 120 (by decide +kernel)⟩
def f12_entry (I : (Nat → Nat → Int32)) (O : (Nat → Nat → Option Nat)) (a0 : Nat) (x1 : Int32) (x2 : Int32) : Option (Int32) := (if ((4341 : Int32) + x1) < 0 ∨ 4371 ≤ ((4341 : Int32) + x1).toNatClampNeg then none else bl ((I (rO O a0 0) ((4341 : Int32) + x1).toNatClampNeg) : Int32) fun z3 => (if x2 = 0 then some ((z3 / 340)) else (if x2 = (1 : Int32) then some (((z3 / 68) - (z3 / 68) / 5 * 5)) else (if x2 = (2 : Int32) then some (((z3 / 17) - (z3 / 17) / 4 * 4)) else some ((z3 - z3 / 17 * 17))))))
set_option maxHeartbeats 4000000 in
set_option maxRecDepth 20000 in
theorem o12_entry {g : pG} {Qx : Option Value → pW → Prop} {Z : pZ} {I : (Nat → Nat → Int32)} {L : (Nat → Nat → Int64)} {O : (Nat → Nat → Option Nat)} {a0 : Nat} {x1 : Int32} {x2 : Int32} {res : Int32} (d : Nat) (hW : WT Z O) (hZ0 : Z[a0]? = some (12, 34)) (h : f12_entry I O a0 x1 x2 = some res) (hQ : Qx (some (.int res)) (Z, I, L, O)) : Ok g (d + 2, RX12, cX12_entry, 4, false, 0, 0, Z.length, pSl Z) Qx 0 [(0, .ref a0), (1, .int x1), (2, .int x2)] [] (Z, I, L, O) := by
  unfold f12_entry at h
  refine ok_aload_n dX12_entry_0 0 rfl ?_
  have hT1 : Z[(rO O a0 0)]? = some (13, 4371) := (wt_f (ci := 12) (k := 0) hW hZ0 rfl).2
  refine ok_getR (ci := 12) (k := 0) dX12_entry_1 flRX12_7 rfl hW hZ0 (by decide) ?_
  refine ok_sipush (v := 4341) dX12_entry_4 (by decide) ?_
  refine ok_iload_n dX12_entry_7 1 rfl ?_
  refine ok_iadd dX12_entry_8 ?_
  obtain ⟨hg2, h⟩ := gd h
  refine ok_iald2 (N := ((4341 : Int32) + x1).toNatClampNeg) dX12_entry_9 hT1 hg2 rfl ?_
  obtain ⟨z3, ez3, h⟩ := blE h
  refine ok_nm ez3 ?_
  refine ok_istore_n (l' := [(3, .int z3), (0, .ref a0), (1, .int x1), (2, .int x2)]) dX12_entry_10 rfl (Nat.le_of_ble_eq_true rfl) rfl ?_
  refine ok_iload_n dX12_entry_11 3 rfl ?_
  refine ok_if_ne (t := 23) dX12_entry_12 (by decide) (fun hc4 => ?_) (fun hc4 => ?_)
  · have h := (if_neg hc4).symm.trans h
    refine ok_iload_n dX12_entry_23 3 rfl ?_
    refine ok_iconst (v := 1) dX12_entry_24 (by decide) ?_
    refine ok_icmp_ne (t := 37) dX12_entry_25 (by decide) (fun hc5 => ?_) (fun hc5 => ?_)
    · have h := (if_neg hc5).symm.trans h
      refine ok_iload_n dX12_entry_37 3 rfl ?_
      refine ok_iconst (v := 2) dX12_entry_38 (by decide) ?_
      refine ok_icmp_ne (t := 51) dX12_entry_39 (by decide) (fun hc6 => ?_) (fun hc6 => ?_)
      · have h := (if_neg hc6).symm.trans h
        refine ok_iload_n dX12_entry_51 0 rfl ?_
        refine ok_bipush (v := 17) dX12_entry_52 (by decide) ?_
        refine ok_irem dX12_entry_54 (by decide) ?_
        cases h
        exact ok_iret dX12_entry_55 hQ
      · have h := (if_pos hc6).symm.trans h
        refine ok_iload_n dX12_entry_42 0 rfl ?_
        refine ok_bipush (v := 17) dX12_entry_43 (by decide) ?_
        refine ok_idiv dX12_entry_45 (by decide) ?_
        refine ok_iconst (v := 4) dX12_entry_46 (by decide) ?_
        refine ok_irem dX12_entry_47 (by decide) ?_
        refine ok_goto (t := 55) dX12_entry_48 (by decide) ?_
        cases h
        exact ok_iret dX12_entry_55 hQ
    · have h := (if_pos hc5).symm.trans h
      refine ok_iload_n dX12_entry_28 0 rfl ?_
      refine ok_bipush (v := 68) dX12_entry_29 (by decide) ?_
      refine ok_idiv dX12_entry_31 (by decide) ?_
      refine ok_iconst (v := 5) dX12_entry_32 (by decide) ?_
      refine ok_irem dX12_entry_33 (by decide) ?_
      refine ok_goto (t := 55) dX12_entry_34 (by decide) ?_
      cases h
      exact ok_iret dX12_entry_55 hQ
  · have h := (if_pos hc4).symm.trans h
    refine ok_iload_n dX12_entry_15 0 rfl ?_
    refine ok_sipush (v := 340) dX12_entry_16 (by decide) ?_
    refine ok_idiv dX12_entry_19 (by decide) ?_
    refine ok_goto (t := 55) dX12_entry_20 (by decide) ?_
    cases h
    exact ok_iret dX12_entry_55 hQ
theorem k12_entry {g : pG} {Q : Option Value → pW → Prop} {Z : pZ} {I : (Nat → Nat → Int32)} {L : (Nat → Nat → Int64)} {O : (Nat → Nat → Option Nat)} {a0 : Nat} {x1 : Int32} {x2 : Int32} {res : Int32} (d : Nat) (hW : WT Z O) (hZ0 : Z[a0]? = some (12, 34)) (h : f12_entry I O a0 x1 x2 = some res) (hQ : Q (some (.int res)) (Z, I, L, O)) : CT g (d + 2) m12_entry 0 0 [.ref a0, .int x1, .int x2] (Z, I, L, O) Q :=
  ct_of_ok (mt := m12_entry) (ini := false) mo12_entry.2.2.2.2 (fun h => by cases h) (Nat.le_of_ble_eq_true rfl) (o12_entry d hW hZ0 h ⟨trivial, hQ, rfl, rfl⟩)
theorem dX12_book_0 : decode cX12_book 0 = .ok (.iload_n 1, 1) := by decide +kernel
theorem dX12_book_1 : decode cX12_book 1 = .ok (.iconst (-1), 1) := by decide +kernel
theorem dX12_book_2 : decode cX12_book 2 = .ok (.if_icmp .ne 11, 3) := by decide +kernel
theorem dX12_book_5 : decode cX12_book 5 = .ok (.aload_n 0, 1) := by decide +kernel
theorem dX12_book_6 : decode cX12_book 6 = .ok (.getfield 7, 3) := by decide +kernel
theorem dX12_book_9 : decode cX12_book 9 = .ok (.bipush 9, 2) := by decide +kernel
theorem dX12_book_11 : decode cX12_book 11 = .ok (.iaload, 1) := by decide +kernel
theorem dX12_book_12 : decode cX12_book 12 = .ok (.ireturn, 1) := by decide +kernel
theorem dX12_book_13 : decode cX12_book 13 = .ok (.iload_n 1, 1) := by decide +kernel
theorem dX12_book_14 : decode cX12_book 14 = .ok (.iconst 0, 1) := by decide +kernel
theorem dX12_book_15 : decode cX12_book 15 = .ok (.aload_n 0, 1) := by decide +kernel
theorem dX12_book_16 : decode cX12_book 16 = .ok (.getfield 7, 3) := by decide +kernel
theorem dX12_book_19 : decode cX12_book 19 = .ok (.bipush 9, 2) := by decide +kernel
theorem dX12_book_21 : decode cX12_book 21 = .ok (.iaload, 1) := by decide +kernel
theorem dX12_book_22 : decode cX12_book 22 = .ok (.iconst 1, 1) := by decide +kernel
theorem dX12_book_23 : decode cX12_book 23 = .ok (.isub, 1) := by decide +kernel
theorem dX12_book_24 : decode cX12_book 24 = .ok (.invokestatic 75, 3) := by decide +kernel
theorem dX12_book_27 : decode cX12_book 27 = .ok (.ifCond .eq 21, 3) := by decide +kernel
theorem dX12_book_30 : decode cX12_book 30 = .ok (.iload_n 2, 1) := by decide +kernel
theorem dX12_book_31 : decode cX12_book 31 = .ok (.iconst 0, 1) := by decide +kernel
theorem dX12_book_32 : decode cX12_book 32 = .ok (.iconst 3, 1) := by decide +kernel
theorem dX12_book_33 : decode cX12_book 33 = .ok (.invokestatic 75, 3) := by decide +kernel
theorem dX12_book_36 : decode cX12_book 36 = .ok (.ifCond .eq 12, 3) := by decide +kernel
theorem dX12_book_39 : decode cX12_book 39 = .ok (.aload_n 0, 1) := by decide +kernel
theorem dX12_book_40 : decode cX12_book 40 = .ok (.iload_n 1, 1) := by decide +kernel
theorem dX12_book_41 : decode cX12_book 41 = .ok (.iload_n 2, 1) := by decide +kernel
theorem dX12_book_42 : decode cX12_book 42 = .ok (.invokevirtual 410, 3) := by decide +kernel
theorem dX12_book_45 : decode cX12_book 45 = .ok (.goto 5, 3) := by decide +kernel
theorem dX12_book_48 : decode cX12_book 48 = .ok (.bipush (-2), 2) := by decide +kernel
theorem dX12_book_50 : decode cX12_book 50 = .ok (.ireturn, 1) := by decide +kernel
def m12_book : pMT := (yX12_book, cX12_book, 3, some .int)
theorem mo12_book : mOK m12_book 2 := ⟨tb_i 1812 (by decide +kernel), wi_RX12, ⟨wn_RX12.1, wn_RX12.2, by decide +kernel⟩, by decide, plainFor_of_name wp_RX12⟩
theorem mv12_book : mV m12_book := ⟨tb_i 1810 (by decide +kernel), tb_i 1811 (by decide +kernel)⟩
def f12_book (I : (Nat → Nat → Int32)) (O : (Nat → Nat → Option Nat)) (a0 : Nat) (x1 : Int32) (x2 : Int32) : Option (Int32) := (if x1 = (-1 : Int32) then some ((I (rO O a0 0) 9)) else (f12_isIn x1 (0 : Int32) ((I (rO O a0 0) 9) - 1)).bind fun r3 => (if r3 = 0 then some (((-2) : Int32)) else (f12_isIn x2 (0 : Int32) (3 : Int32)).bind fun r6 => (if r6 = 0 then some (((-2) : Int32)) else (f12_entry I O a0 x1 x2).bind fun r9 => some (r9))))
set_option maxHeartbeats 4000000 in
set_option maxRecDepth 20000 in
theorem o12_book {g : pG} {Qx : Option Value → pW → Prop} {Z : pZ} {I : (Nat → Nat → Int32)} {L : (Nat → Nat → Int64)} {O : (Nat → Nat → Option Nat)} {a0 : Nat} {x1 : Int32} {x2 : Int32} {res : Int32} (d : Nat) (hW : WT Z O) (hZ0 : Z[a0]? = some (12, 34)) (h : f12_book I O a0 x1 x2 = some res) (hQ : Qx (some (.int res)) (Z, I, L, O)) : Ok g (d + 3, RX12, cX12_book, 3, false, 0, 0, Z.length, pSl Z) Qx 0 [(0, .ref a0), (1, .int x1), (2, .int x2)] [] (Z, I, L, O) := by
  unfold f12_book at h
  refine ok_iload_n dX12_book_0 1 rfl ?_
  refine ok_iconst (v := (-1)) dX12_book_1 (by decide) ?_
  refine ok_icmp_ne (t := 13) dX12_book_2 (by decide) (fun hc1 => ?_) (fun hc1 => ?_)
  · have h := (if_neg hc1).symm.trans h
    refine ok_iload_n dX12_book_13 1 rfl ?_
    refine ok_iconst (v := 0) dX12_book_14 (by decide) ?_
    refine ok_aload_n dX12_book_15 0 rfl ?_
    have hT2 : Z[(rO O a0 0)]? = some (13, 4371) := (wt_f (ci := 12) (k := 0) hW hZ0 rfl).2
    refine ok_getR (ci := 12) (k := 0) dX12_book_16 flRX12_7 rfl hW hZ0 (by decide) ?_
    refine ok_bipush (v := 9) dX12_book_19 (by decide) ?_
    refine ok_iald2 (N := 9) dX12_book_21 hT2 (by unfold vp_in; decide) (by decide) ?_
    refine ok_iconst (v := 1) dX12_book_22 (by decide) ?_
    refine ok_isub dX12_book_23 ?_
    obtain ⟨r3, hr4, h⟩ := bd h
    refine ok_callS (d := ((d + 0) + 2)) (mt := m12_isIn) (mc := 0) (ms := 0) (As := [.int x1, .int 0, .int ((I (rO O a0 0) 9) - 1)]) (r := []) dX12_book_24 mo12_isIn mv12_isIn lkRX12_75 rfl rfl (Nat.le_of_ble_eq_true rfl) (by show _ + 1 ≤ d + _; omega) (Nat.le_refl _) (Nat.le_refl _) (pRt_mono ?_)
    refine k12_isIn (d + 0) hW  hr4 ?_
    intro hbr3
    show Ok g _ Qx 27 [(0, .ref a0), (1, .int x1), (2, .int x2)] [.int r3] (Z, I, L, O)
    refine ok_if_eq (t := 48) dX12_book_27 (by decide) (fun hc5 => ?_) (fun hc5 => ?_)
    · have h := (if_pos hc5).symm.trans h
      refine ok_bipush (v := (-2)) dX12_book_48 (by decide) ?_
      cases h
      exact ok_iret dX12_book_50 hQ
    · have h := (if_neg hc5).symm.trans h
      refine ok_iload_n dX12_book_30 2 rfl ?_
      refine ok_iconst (v := 0) dX12_book_31 (by decide) ?_
      refine ok_iconst (v := 3) dX12_book_32 (by decide) ?_
      obtain ⟨r6, hr7, h⟩ := bd h
      refine ok_callS (d := ((d + 0) + 2)) (mt := m12_isIn) (mc := 0) (ms := 0) (As := [.int x2, .int 0, .int 3]) (r := []) dX12_book_33 mo12_isIn mv12_isIn lkRX12_75 rfl rfl (Nat.le_of_ble_eq_true rfl) (by show _ + 1 ≤ d + _; omega) (Nat.le_refl _) (Nat.le_refl _) (pRt_mono ?_)
      refine k12_isIn (d + 0) hW  hr7 ?_
      intro hbr6
      show Ok g _ Qx 36 [(0, .ref a0), (1, .int x1), (2, .int x2)] [.int r6] (Z, I, L, O)
      refine ok_if_eq (t := 48) dX12_book_36 (by decide) (fun hc8 => ?_) (fun hc8 => ?_)
      · have h := (if_pos hc8).symm.trans h
        refine ok_bipush (v := (-2)) dX12_book_48 (by decide) ?_
        cases h
        exact ok_iret dX12_book_50 hQ
      · have h := (if_neg hc8).symm.trans h
        refine ok_aload_n dX12_book_39 0 rfl ?_
        refine ok_iload_n dX12_book_40 1 rfl ?_
        refine ok_iload_n dX12_book_41 2 rfl ?_
        obtain ⟨r9, hr10, h⟩ := bd h
        refine ok_callV (d := ((d + 0) + 2)) (mt := m12_entry) (mc := 0) (ms := 0) (As := [.int x1, .int x2]) (r := []) dX12_book_42 mo12_entry mv12_entry lkRX12_410 rfl hZ0 (q := (RX12, TX12, 34)) rfl rfl rfl (Nat.le_of_ble_eq_true rfl) (by show _ + 1 ≤ d + _; omega) (Nat.le_refl _) (Nat.le_refl _) (pRt_mono ?_)
        refine k12_entry (d + 0) hW hZ0 hr10 ?_
        intro _
        show Ok g _ Qx 45 [(0, .ref a0), (1, .int x1), (2, .int x2)] [.int r9] (Z, I, L, O)
        refine ok_goto (t := 50) dX12_book_45 (by decide) ?_
        cases h
        exact ok_iret dX12_book_50 hQ
  · have h := (if_pos hc1).symm.trans h
    refine ok_aload_n dX12_book_5 0 rfl ?_
    have hT11 : Z[(rO O a0 0)]? = some (13, 4371) := (wt_f (ci := 12) (k := 0) hW hZ0 rfl).2
    refine ok_getR (ci := 12) (k := 0) dX12_book_6 flRX12_7 rfl hW hZ0 (by decide) ?_
    refine ok_bipush (v := 9) dX12_book_9 (by decide) ?_
    refine ok_iald2 (N := 9) dX12_book_11 hT11 (by unfold vp_in; decide) (by decide) ?_
    cases h
    exact ok_iret dX12_book_12 hQ
theorem k12_book {g : pG} {Q : Option Value → pW → Prop} {Z : pZ} {I : (Nat → Nat → Int32)} {L : (Nat → Nat → Int64)} {O : (Nat → Nat → Option Nat)} {a0 : Nat} {x1 : Int32} {x2 : Int32} {res : Int32} (d : Nat) (hW : WT Z O) (hZ0 : Z[a0]? = some (12, 34)) (h : f12_book I O a0 x1 x2 = some res) (hQ : Q (some (.int res)) (Z, I, L, O)) : CT g (d + 3) m12_book 0 0 [.ref a0, .int x1, .int x2] (Z, I, L, O) Q :=
  ct_of_ok (mt := m12_book) (ini := false) mo12_book.2.2.2.2 (fun h => by cases h) (Nat.le_of_ble_eq_true rfl) (o12_book d hW hZ0 h ⟨trivial, hQ, rfl, rfl⟩)
theorem dX12_ledger_0 : decode cX12_ledger 0 = .ok (.iload_n 1, 1) := by decide +kernel
theorem dX12_ledger_1 : decode cX12_ledger 1 = .ok (.iconst (-1), 1) := by decide +kernel
theorem dX12_ledger_2 : decode cX12_ledger 2 = .ok (.if_icmp .eq 14, 3) := by decide +kernel
theorem dX12_ledger_5 : decode cX12_ledger 5 = .ok (.aload_n 0, 1) := by decide +kernel
theorem dX12_ledger_6 : decode cX12_ledger 6 = .ok (.iload_n 1, 1) := by decide +kernel
theorem dX12_ledger_7 : decode cX12_ledger 7 = .ok (.invokevirtual 79, 3) := by decide +kernel
theorem dX12_ledger_10 : decode cX12_ledger 10 = .ok (.ifCond .ne 6, 3) := by decide +kernel
theorem dX12_ledger_13 : decode cX12_ledger 13 = .ok (.bipush (-2), 2) := by decide +kernel
theorem dX12_ledger_15 : decode cX12_ledger 15 = .ok (.ireturn, 1) := by decide +kernel
theorem dX12_ledger_16 : decode cX12_ledger 16 = .ok (.iconst 0, 1) := by decide +kernel
theorem dX12_ledger_17 : decode cX12_ledger 17 = .ok (.istore_n 2, 1) := by decide +kernel
theorem dX12_ledger_18 : decode cX12_ledger 18 = .ok (.iconst 0, 1) := by decide +kernel
theorem dX12_ledger_19 : decode cX12_ledger 19 = .ok (.istore_n 3, 1) := by decide +kernel
theorem dX12_ledger_20 : decode cX12_ledger 20 = .ok (.iload_n 3, 1) := by decide +kernel
theorem dX12_ledger_21 : decode cX12_ledger 21 = .ok (.aload_n 0, 1) := by decide +kernel
theorem dX12_ledger_22 : decode cX12_ledger 22 = .ok (.getfield 7, 3) := by decide +kernel
theorem dX12_ledger_25 : decode cX12_ledger 25 = .ok (.bipush 9, 2) := by decide +kernel
theorem dX12_ledger_27 : decode cX12_ledger 27 = .ok (.iaload, 1) := by decide +kernel
theorem dX12_ledger_28 : decode cX12_ledger 28 = .ok (.if_icmp .ge 32, 3) := by decide +kernel
theorem dX12_ledger_31 : decode cX12_ledger 31 = .ok (.iload_n 2, 1) := by decide +kernel
theorem dX12_ledger_32 : decode cX12_ledger 32 = .ok (.iload_n 1, 1) := by decide +kernel
theorem dX12_ledger_33 : decode cX12_ledger 33 = .ok (.iconst (-1), 1) := by decide +kernel
theorem dX12_ledger_34 : decode cX12_ledger 34 = .ok (.if_icmp .eq 13, 3) := by decide +kernel
theorem dX12_ledger_37 : decode cX12_ledger 37 = .ok (.aload_n 0, 1) := by decide +kernel
theorem dX12_ledger_38 : decode cX12_ledger 38 = .ok (.iload_n 3, 1) := by decide +kernel
theorem dX12_ledger_39 : decode cX12_ledger 39 = .ok (.iconst 1, 1) := by decide +kernel
theorem dX12_ledger_40 : decode cX12_ledger 40 = .ok (.invokevirtual 410, 3) := by decide +kernel
theorem dX12_ledger_43 : decode cX12_ledger 43 = .ok (.iload_n 1, 1) := by decide +kernel
theorem dX12_ledger_44 : decode cX12_ledger 44 = .ok (.if_icmp .ne 7, 3) := by decide +kernel
theorem dX12_ledger_47 : decode cX12_ledger 47 = .ok (.iconst 1, 1) := by decide +kernel
theorem dX12_ledger_48 : decode cX12_ledger 48 = .ok (.goto 4, 3) := by decide +kernel
theorem dX12_ledger_51 : decode cX12_ledger 51 = .ok (.iconst 0, 1) := by decide +kernel
theorem dX12_ledger_52 : decode cX12_ledger 52 = .ok (.iadd, 1) := by decide +kernel
theorem dX12_ledger_53 : decode cX12_ledger 53 = .ok (.istore_n 2, 1) := by decide +kernel
theorem dX12_ledger_54 : decode cX12_ledger 54 = .ok (.iinc 3 1, 3) := by decide +kernel
theorem dX12_ledger_57 : decode cX12_ledger 57 = .ok (.goto (-37), 3) := by decide +kernel
theorem dX12_ledger_60 : decode cX12_ledger 60 = .ok (.iload_n 2, 1) := by decide +kernel
theorem dX12_ledger_61 : decode cX12_ledger 61 = .ok (.ireturn, 1) := by decide +kernel
def m12_ledger : pMT := (yX12_ledger, cX12_ledger, 4, some .int)
theorem mo12_ledger : mOK m12_ledger 1 := ⟨tb_i 1820 (by decide +kernel), wi_RX12, ⟨wn_RX12.1, wn_RX12.2, by decide +kernel⟩, by decide, plainFor_of_name wp_RX12⟩
theorem mv12_ledger : mV m12_ledger := ⟨tb_i 1818 (by decide +kernel), tb_i 1819 (by decide +kernel)⟩
def f12_ledger_c20 (n : Nat) (I : (Nat → Nat → Int32)) (O : (Nat → Nat → Option Nat)) : Nat → Nat → Int32 → Int32 → Int32 → Option (Int32)
  | 0, _, _, _, _ => none
  | m + 1, b0, y1, y2, y3 => (if (I (rO O b0 0) 9) ≤ y3 then some (y2) else (if y1 = (-1 : Int32) then f12_ledger_c20 n I O m b0 y1 (y2 + 1) (y3 + 1) else (f12_entry I O b0 y3 (1 : Int32)).bind fun r4 => (if r4 = y1 then f12_ledger_c20 n I O m b0 y1 (y2 + 1) (y3 + 1) else f12_ledger_c20 n I O m b0 y1 (y2 + 0) (y3 + 1))))
set_option maxHeartbeats 4000000 in
set_option maxRecDepth 20000 in
theorem o12_ledger_c20 {g : pG} {Qx : Option Value → pW → Prop} {Z : pZ} {I : (Nat → Nat → Int32)} {L : (Nat → Nat → Int64)} {O : (Nat → Nat → Option Nat)} {n : Nat} {res : Int32} (d : Nat) (hW : WT Z O) (hQ : Qx (some (.int res)) (Z, I, L, O)) : ∀ (m : Nat) (b0 : Nat) (y1 : Int32) (y2 : Int32) (y3 : Int32), (Z[b0]? = some (12, 34)) → f12_ledger_c20 n I O m b0 y1 y2 y3 = some res → Ok g (d + 4, RX12, cX12_ledger, 4, false, 0, 0, Z.length, pSl Z) Qx 20 [(0, .ref b0), (1, .int y1), (2, .int y2), (3, .int y3)] [] (Z, I, L, O) := by
  intro m
  induction m with
  | zero => intro b0 y1 y2 y3 hZ_b0 h; rw [f12_ledger_c20] at h; cases h
  | succ m ih =>
    intro b0 y1 y2 y3 hZ_b0 h
    rw [f12_ledger_c20] at h
    refine ok_iload_n dX12_ledger_20 3 rfl ?_
    refine ok_aload_n dX12_ledger_21 0 rfl ?_
    have hT1 : Z[(rO O b0 0)]? = some (13, 4371) := (wt_f (ci := 12) (k := 0) hW hZ_b0 rfl).2
    refine ok_getR (ci := 12) (k := 0) dX12_ledger_22 flRX12_7 rfl hW hZ_b0 (by decide) ?_
    refine ok_bipush (v := 9) dX12_ledger_25 (by decide) ?_
    refine ok_iald2 (N := 9) dX12_ledger_27 hT1 (by unfold vp_in; decide) (by decide) ?_
    refine ok_icmp_ge (t := 60) dX12_ledger_28 (by decide) (fun hc2 => ?_) (fun hc2 => ?_)
    · have h := (if_pos hc2).symm.trans h
      refine ok_iload_n dX12_ledger_60 2 rfl ?_
      cases h
      exact ok_iret dX12_ledger_61 hQ
    · have h := (if_neg hc2).symm.trans h
      refine ok_iload_n dX12_ledger_31 2 rfl ?_
      refine ok_iload_n dX12_ledger_32 1 rfl ?_
      refine ok_iconst (v := (-1)) dX12_ledger_33 (by decide) ?_
      refine ok_icmp_eq (t := 47) dX12_ledger_34 (by decide) (fun hc3 => ?_) (fun hc3 => ?_)
      · have h := (if_pos hc3).symm.trans h
        refine ok_iconst (v := 1) dX12_ledger_47 (by decide) ?_
        refine ok_goto (t := 52) dX12_ledger_48 (by decide) ?_
        refine ok_iadd dX12_ledger_52 ?_
        refine ok_istore_n (l' := [(2, .int (y2 + 1)), (0, .ref b0), (1, .int y1), (3, .int y3)]) dX12_ledger_53 rfl (Nat.le_of_ble_eq_true rfl) rfl ?_
        refine ok_iinc (u := (y3 + 1)) (l' := [(3, .int (y3 + 1)), (2, .int (y2 + 1)), (0, .ref b0), (1, .int y1)]) dX12_ledger_54 3 rfl rfl (Nat.le_of_ble_eq_true rfl) rfl ?_
        refine ok_goto (t := 20) dX12_ledger_57 (by decide) ?_
        refine ok_sub [2, 3, 1, 0] rfl ?_
        exact ih b0 y1 (y2 + 1) (y3 + 1) hZ_b0 h
      · have h := (if_neg hc3).symm.trans h
        refine ok_aload_n dX12_ledger_37 0 rfl ?_
        refine ok_iload_n dX12_ledger_38 3 rfl ?_
        refine ok_iconst (v := 1) dX12_ledger_39 (by decide) ?_
        obtain ⟨r4, hr5, h⟩ := bd h
        refine ok_callV (d := ((d + 1) + 2)) (mt := m12_entry) (mc := 0) (ms := 0) (As := [.int y3, .int 1]) (r := [.int y2]) dX12_ledger_40 mo12_entry mv12_entry lkRX12_410 rfl hZ_b0 (q := (RX12, TX12, 34)) rfl rfl rfl (Nat.le_of_ble_eq_true rfl) (by show _ + 1 ≤ d + _; omega) (Nat.le_refl _) (Nat.le_refl _) (pRt_mono ?_)
        refine k12_entry (d + 1) hW hZ_b0 hr5 ?_
        intro _
        show Ok g _ Qx 43 [(0, .ref b0), (1, .int y1), (2, .int y2), (3, .int y3)] [.int r4, .int y2] (Z, I, L, O)
        refine ok_iload_n dX12_ledger_43 1 rfl ?_
        refine ok_icmp_ne (t := 51) dX12_ledger_44 (by decide) (fun hc6 => ?_) (fun hc6 => ?_)
        · have h := (if_neg hc6).symm.trans h
          refine ok_iconst (v := 0) dX12_ledger_51 (by decide) ?_
          refine ok_iadd dX12_ledger_52 ?_
          refine ok_istore_n (l' := [(2, .int (y2 + 0)), (0, .ref b0), (1, .int y1), (3, .int y3)]) dX12_ledger_53 rfl (Nat.le_of_ble_eq_true rfl) rfl ?_
          refine ok_iinc (u := (y3 + 1)) (l' := [(3, .int (y3 + 1)), (2, .int (y2 + 0)), (0, .ref b0), (1, .int y1)]) dX12_ledger_54 3 rfl rfl (Nat.le_of_ble_eq_true rfl) rfl ?_
          refine ok_goto (t := 20) dX12_ledger_57 (by decide) ?_
          refine ok_sub [2, 3, 1, 0] rfl ?_
          exact ih b0 y1 (y2 + 0) (y3 + 1) hZ_b0 h
        · have h := (if_pos hc6).symm.trans h
          refine ok_iconst (v := 1) dX12_ledger_47 (by decide) ?_
          refine ok_goto (t := 52) dX12_ledger_48 (by decide) ?_
          refine ok_iadd dX12_ledger_52 ?_
          refine ok_istore_n (l' := [(2, .int (y2 + 1)), (0, .ref b0), (1, .int y1), (3, .int y3)]) dX12_ledger_53 rfl (Nat.le_of_ble_eq_true rfl) rfl ?_
          refine ok_iinc (u := (y3 + 1)) (l' := [(3, .int (y3 + 1)), (2, .int (y2 + 1)), (0, .ref b0), (1, .int y1)]) dX12_ledger_54 3 rfl rfl (Nat.le_of_ble_eq_true rfl) rfl ?_
          refine ok_goto (t := 20) dX12_ledger_57 (by decide) ?_
          refine ok_sub [2, 3, 1, 0] rfl ?_
          exact ih b0 y1 (y2 + 1) (y3 + 1) hZ_b0 h
def f12_ledger (n : Nat) (I : (Nat → Nat → Int32)) (O : (Nat → Nat → Option Nat)) (a0 : Nat) (x1 : Int32) : Option (Int32) := (if x1 = (-1 : Int32) then f12_ledger_c20 n I O n a0 x1 (0 : Int32) (0 : Int32) else (f12_isRoll I O a0 x1).bind fun r2 => (if r2 = 0 then some (((-2) : Int32)) else f12_ledger_c20 n I O n a0 x1 (0 : Int32) (0 : Int32)))
set_option maxHeartbeats 4000000 in
set_option maxRecDepth 20000 in
theorem o12_ledger {g : pG} {Qx : Option Value → pW → Prop} {Z : pZ} {I : (Nat → Nat → Int32)} {L : (Nat → Nat → Int64)} {O : (Nat → Nat → Option Nat)} {n : Nat} {a0 : Nat} {x1 : Int32} {res : Int32} (d : Nat) (hW : WT Z O) (hZ0 : Z[a0]? = some (12, 34)) (h : f12_ledger n I O a0 x1 = some res) (hQ : Qx (some (.int res)) (Z, I, L, O)) : Ok g (d + 4, RX12, cX12_ledger, 4, false, 0, 0, Z.length, pSl Z) Qx 0 [(0, .ref a0), (1, .int x1)] [] (Z, I, L, O) := by
  unfold f12_ledger at h
  refine ok_iload_n dX12_ledger_0 1 rfl ?_
  refine ok_iconst (v := (-1)) dX12_ledger_1 (by decide) ?_
  refine ok_icmp_eq (t := 16) dX12_ledger_2 (by decide) (fun hc1 => ?_) (fun hc1 => ?_)
  · have h := (if_pos hc1).symm.trans h
    refine ok_iconst (v := 0) dX12_ledger_16 (by decide) ?_
    refine ok_istore_n (l' := [(2, .int 0), (0, .ref a0), (1, .int x1)]) dX12_ledger_17 rfl (Nat.le_of_ble_eq_true rfl) rfl ?_
    refine ok_iconst (v := 0) dX12_ledger_18 (by decide) ?_
    refine ok_istore_n (l' := [(3, .int 0), (2, .int 0), (0, .ref a0), (1, .int x1)]) dX12_ledger_19 rfl (Nat.le_of_ble_eq_true rfl) rfl ?_
    refine ok_sub [2, 3, 1, 0] rfl ?_
    exact o12_ledger_c20 d hW hQ  n a0 x1 (0 : Int32) (0 : Int32) hZ0 h
  · have h := (if_neg hc1).symm.trans h
    refine ok_aload_n dX12_ledger_5 0 rfl ?_
    refine ok_iload_n dX12_ledger_6 1 rfl ?_
    obtain ⟨r2, hr3, h⟩ := bd h
    refine ok_callV (d := ((d + 0) + 3)) (mt := m12_isRoll) (mc := 0) (ms := 0) (As := [.int x1]) (r := []) dX12_ledger_7 mo12_isRoll mv12_isRoll lkRX12_79 rfl hZ0 (q := (RX12, TX12, 34)) rfl rfl rfl (Nat.le_of_ble_eq_true rfl) (by show _ + 1 ≤ d + _; omega) (Nat.le_refl _) (Nat.le_refl _) (pRt_mono ?_)
    refine k12_isRoll (d + 0) hW hZ0 hr3 ?_
    intro hbr2
    show Ok g _ Qx 10 [(0, .ref a0), (1, .int x1)] [.int r2] (Z, I, L, O)
    refine ok_if_ne (t := 16) dX12_ledger_10 (by decide) (fun hc4 => ?_) (fun hc4 => ?_)
    · have h := (if_neg hc4).symm.trans h
      refine ok_iconst (v := 0) dX12_ledger_16 (by decide) ?_
      refine ok_istore_n (l' := [(2, .int 0), (0, .ref a0), (1, .int x1)]) dX12_ledger_17 rfl (Nat.le_of_ble_eq_true rfl) rfl ?_
      refine ok_iconst (v := 0) dX12_ledger_18 (by decide) ?_
      refine ok_istore_n (l' := [(3, .int 0), (2, .int 0), (0, .ref a0), (1, .int x1)]) dX12_ledger_19 rfl (Nat.le_of_ble_eq_true rfl) rfl ?_
      refine ok_sub [2, 3, 1, 0] rfl ?_
      exact o12_ledger_c20 d hW hQ  n a0 x1 (0 : Int32) (0 : Int32) hZ0 h
    · have h := (if_pos hc4).symm.trans h
      refine ok_bipush (v := (-2)) dX12_ledger_13 (by decide) ?_
      cases h
      exact ok_iret dX12_ledger_15 hQ
theorem k12_ledger {g : pG} {Q : Option Value → pW → Prop} {Z : pZ} {I : (Nat → Nat → Int32)} {L : (Nat → Nat → Int64)} {O : (Nat → Nat → Option Nat)} {n : Nat} {a0 : Nat} {x1 : Int32} {res : Int32} (d : Nat) (hW : WT Z O) (hZ0 : Z[a0]? = some (12, 34)) (h : f12_ledger n I O a0 x1 = some res) (hQ : Q (some (.int res)) (Z, I, L, O)) : CT g (d + 4) m12_ledger 0 0 [.ref a0, .int x1] (Z, I, L, O) Q :=
  ct_of_ok (mt := m12_ledger) (ini := false) mo12_ledger.2.2.2.2 (fun h => by cases h) (Nat.le_of_ble_eq_true rfl) (o12_ledger d hW hZ0 h ⟨trivial, hQ, rfl, rfl⟩)
theorem dX12_best_0 : decode cX12_best 0 = .ok (.iconst (-1), 1) := by decide +kernel
theorem dX12_best_1 : decode cX12_best 1 = .ok (.istore_n 1, 1) := by decide +kernel
theorem dX12_best_2 : decode cX12_best 2 = .ok (.iconst 0, 1) := by decide +kernel
theorem dX12_best_3 : decode cX12_best 3 = .ok (.istore_n 2, 1) := by decide +kernel
theorem dX12_best_4 : decode cX12_best 4 = .ok (.iload_n 2, 1) := by decide +kernel
theorem dX12_best_5 : decode cX12_best 5 = .ok (.aload_n 0, 1) := by decide +kernel
theorem dX12_best_6 : decode cX12_best 6 = .ok (.getfield 7, 3) := by decide +kernel
theorem dX12_best_9 : decode cX12_best 9 = .ok (.iconst 1, 1) := by decide +kernel
theorem dX12_best_10 : decode cX12_best 10 = .ok (.iaload, 1) := by decide +kernel
theorem dX12_best_11 : decode cX12_best 11 = .ok (.if_icmp .ge 39, 3) := by decide +kernel
theorem dX12_best_14 : decode cX12_best 14 = .ok (.aload_n 0, 1) := by decide +kernel
theorem dX12_best_15 : decode cX12_best 15 = .ok (.iload_n 2, 1) := by decide +kernel
theorem dX12_best_16 : decode cX12_best 16 = .ok (.invokevirtual 395, 3) := by decide +kernel
theorem dX12_best_19 : decode cX12_best 19 = .ok (.invokestatic 413, 3) := by decide +kernel
theorem dX12_best_22 : decode cX12_best 22 = .ok (.iload_n 1, 1) := by decide +kernel
theorem dX12_best_23 : decode cX12_best 23 = .ok (.iconst (-1), 1) := by decide +kernel
theorem dX12_best_24 : decode cX12_best 24 = .ok (.if_icmp .ne 7, 3) := by decide +kernel
theorem dX12_best_27 : decode cX12_best 27 = .ok (.iconst 0, 1) := by decide +kernel
theorem dX12_best_28 : decode cX12_best 28 = .ok (.goto 11, 3) := by decide +kernel
theorem dX12_best_31 : decode cX12_best 31 = .ok (.aload_n 0, 1) := by decide +kernel
theorem dX12_best_32 : decode cX12_best 32 = .ok (.iload_n 1, 1) := by decide +kernel
theorem dX12_best_33 : decode cX12_best 33 = .ok (.invokevirtual 395, 3) := by decide +kernel
theorem dX12_best_36 : decode cX12_best 36 = .ok (.invokestatic 413, 3) := by decide +kernel
theorem dX12_best_39 : decode cX12_best 39 = .ok (.if_icmp .le 5, 3) := by decide +kernel
theorem dX12_best_42 : decode cX12_best 42 = .ok (.iload_n 2, 1) := by decide +kernel
theorem dX12_best_43 : decode cX12_best 43 = .ok (.istore_n 1, 1) := by decide +kernel
theorem dX12_best_44 : decode cX12_best 44 = .ok (.iinc 2 1, 3) := by decide +kernel
theorem dX12_best_47 : decode cX12_best 47 = .ok (.goto (-43), 3) := by decide +kernel
theorem dX12_best_50 : decode cX12_best 50 = .ok (.iload_n 1, 1) := by decide +kernel
theorem dX12_best_51 : decode cX12_best 51 = .ok (.ireturn, 1) := by decide +kernel
def m12_best : pMT := (yX12_best, cX12_best, 3, some .int)
theorem mo12_best : mOK m12_best 0 := ⟨tb_i 1824 (by decide +kernel), wi_RX12, ⟨wn_RX12.1, wn_RX12.2, by decide +kernel⟩, by decide, plainFor_of_name wp_RX12⟩
theorem mv12_best : mV m12_best := ⟨tb_i 1822 (by decide +kernel), tb_i 1823 (by decide +kernel)⟩
def f12_best_c4 (n : Nat) (O : (Nat → Nat → Option Nat)) : Nat → (Nat → Nat → Int32) → (Nat → Nat → Int64) → Nat → Int32 → Int32 → Option (Int32 × (Nat → Nat → Int32) × (Nat → Nat → Int64))
  | 0, _, _, _, _, _ => none
  | m + 1, I, L, b0, y1, y2 => (if (I (rO O b0 0) 1) ≤ y2 then some (y1, I, L) else (f12_learnt n I L O b0 y2).bind fun r3 => (f12_bits n r3.1).bind fun r5 => (if y1 = (-1 : Int32) then (if r5 ≤ (0 : Int32) then f12_best_c4 n O m r3.2.1 r3.2.2 b0 y1 (y2 + 1) else f12_best_c4 n O m r3.2.1 r3.2.2 b0 y2 (y2 + 1)) else (f12_learnt n r3.2.1 r3.2.2 O b0 y1).bind fun r8 => (f12_bits n r8.1).bind fun r10 => (if r5 ≤ r10 then f12_best_c4 n O m r8.2.1 r8.2.2 b0 y1 (y2 + 1) else f12_best_c4 n O m r8.2.1 r8.2.2 b0 y2 (y2 + 1))))
set_option maxHeartbeats 4000000 in
set_option maxRecDepth 20000 in
theorem o12_best_c4 {g : pG} {Qx : Option Value → pW → Prop} {Z : pZ} {O : (Nat → Nat → Option Nat)} {n : Nat} {res : Int32 × (Nat → Nat → Int32) × (Nat → Nat → Int64)} (d : Nat) (hW : WT Z O) (hQ : Qx (some (.int res.1)) (Z, res.2.1, res.2.2, O)) : ∀ (m : Nat) (I : (Nat → Nat → Int32)) (L : (Nat → Nat → Int64)) (b0 : Nat) (y1 : Int32) (y2 : Int32), (Z[b0]? = some (12, 34)) → f12_best_c4 n O m I L b0 y1 y2 = some res → Ok g (d + 11, RX12, cX12_best, 3, false, 0, 0, Z.length, pSl Z) Qx 4 [(0, .ref b0), (1, .int y1), (2, .int y2)] [] (Z, I, L, O) := by
  intro m
  induction m with
  | zero => intro I L b0 y1 y2 hZ_b0 h; rw [f12_best_c4] at h; cases h
  | succ m ih =>
    intro I L b0 y1 y2 hZ_b0 h
    rw [f12_best_c4] at h
    refine ok_iload_n dX12_best_4 2 rfl ?_
    refine ok_aload_n dX12_best_5 0 rfl ?_
    have hT1 : Z[(rO O b0 0)]? = some (13, 4371) := (wt_f (ci := 12) (k := 0) hW hZ_b0 rfl).2
    refine ok_getR (ci := 12) (k := 0) dX12_best_6 flRX12_7 rfl hW hZ_b0 (by decide) ?_
    refine ok_iconst (v := 1) dX12_best_9 (by decide) ?_
    refine ok_iald2 (N := 1) dX12_best_10 hT1 (by unfold vp_in; decide) (by decide) ?_
    refine ok_icmp_ge (t := 50) dX12_best_11 (by decide) (fun hc2 => ?_) (fun hc2 => ?_)
    · have h := (if_pos hc2).symm.trans h
      refine ok_iload_n dX12_best_50 1 rfl ?_
      cases h
      exact ok_iret dX12_best_51 hQ
    · have h := (if_neg hc2).symm.trans h
      refine ok_aload_n dX12_best_14 0 rfl ?_
      refine ok_iload_n dX12_best_15 2 rfl ?_
      obtain ⟨r3, hr4, h⟩ := bd h
      refine ok_callV (d := ((d + 0) + 10)) (mt := m12_learnt) (mc := 0) (ms := 0) (As := [.int y2]) (r := []) dX12_best_16 mo12_learnt mv12_learnt lkRX12_395 rfl hZ_b0 (q := (RX12, TX12, 34)) rfl rfl rfl (Nat.le_of_ble_eq_true rfl) (by show _ + 1 ≤ d + _; omega) (Nat.le_refl _) (Nat.le_refl _) (pRt_mono ?_)
      refine k12_learnt (d + 0) hW hZ_b0 hr4 ?_
      intro _
      show Ok g _ Qx 19 [(0, .ref b0), (1, .int y1), (2, .int y2)] [.int r3.1] (Z, r3.2.1, r3.2.2, O)
      obtain ⟨r5, hr6, h⟩ := bd h
      refine ok_callS (d := ((d + 8) + 2)) (mt := m12_bits) (mc := 0) (ms := 0) (As := [.int r3.1]) (r := []) dX12_best_19 mo12_bits mv12_bits lkRX12_413 rfl rfl (Nat.le_of_ble_eq_true rfl) (by show _ + 1 ≤ d + _; omega) (Nat.le_refl _) (Nat.le_refl _) (pRt_mono ?_)
      refine k12_bits (d + 8) hW  hr6 ?_
      intro _
      show Ok g _ Qx 22 [(0, .ref b0), (1, .int y1), (2, .int y2)] [.int r5] (Z, r3.2.1, r3.2.2, O)
      refine ok_iload_n dX12_best_22 1 rfl ?_
      refine ok_iconst (v := (-1)) dX12_best_23 (by decide) ?_
      refine ok_icmp_ne (t := 31) dX12_best_24 (by decide) (fun hc7 => ?_) (fun hc7 => ?_)
      · have h := (if_neg hc7).symm.trans h
        refine ok_aload_n dX12_best_31 0 rfl ?_
        refine ok_iload_n dX12_best_32 1 rfl ?_
        obtain ⟨r8, hr9, h⟩ := bd h
        refine ok_callV (d := ((d + 0) + 10)) (mt := m12_learnt) (mc := 0) (ms := 0) (As := [.int y1]) (r := [.int r5]) dX12_best_33 mo12_learnt mv12_learnt lkRX12_395 rfl hZ_b0 (q := (RX12, TX12, 34)) rfl rfl rfl (Nat.le_of_ble_eq_true rfl) (by show _ + 1 ≤ d + _; omega) (Nat.le_refl _) (Nat.le_refl _) (pRt_mono ?_)
        refine k12_learnt (d + 0) hW hZ_b0 hr9 ?_
        intro _
        show Ok g _ Qx 36 [(0, .ref b0), (1, .int y1), (2, .int y2)] [.int r8.1, .int r5] (Z, r8.2.1, r8.2.2, O)
        obtain ⟨r10, hr11, h⟩ := bd h
        refine ok_callS (d := ((d + 8) + 2)) (mt := m12_bits) (mc := 0) (ms := 0) (As := [.int r8.1]) (r := [.int r5]) dX12_best_36 mo12_bits mv12_bits lkRX12_413 rfl rfl (Nat.le_of_ble_eq_true rfl) (by show _ + 1 ≤ d + _; omega) (Nat.le_refl _) (Nat.le_refl _) (pRt_mono ?_)
        refine k12_bits (d + 8) hW  hr11 ?_
        intro _
        show Ok g _ Qx 39 [(0, .ref b0), (1, .int y1), (2, .int y2)] [.int r10, .int r5] (Z, r8.2.1, r8.2.2, O)
        refine ok_icmp_le (t := 44) dX12_best_39 (by decide) (fun hc12 => ?_) (fun hc12 => ?_)
        · have h := (if_pos hc12).symm.trans h
          refine ok_iinc (u := (y2 + 1)) (l' := [(2, .int (y2 + 1)), (0, .ref b0), (1, .int y1)]) dX12_best_44 2 rfl rfl (Nat.le_of_ble_eq_true rfl) rfl ?_
          refine ok_goto (t := 4) dX12_best_47 (by decide) ?_
          refine ok_sub [1, 2, 0] rfl ?_
          exact ih r8.2.1 r8.2.2 b0 y1 (y2 + 1) hZ_b0 h
        · have h := (if_neg hc12).symm.trans h
          refine ok_iload_n dX12_best_42 2 rfl ?_
          refine ok_istore_n (l' := [(1, .int y2), (0, .ref b0), (2, .int y2)]) dX12_best_43 rfl (Nat.le_of_ble_eq_true rfl) rfl ?_
          refine ok_iinc (u := (y2 + 1)) (l' := [(2, .int (y2 + 1)), (1, .int y2), (0, .ref b0)]) dX12_best_44 2 rfl rfl (Nat.le_of_ble_eq_true rfl) rfl ?_
          refine ok_goto (t := 4) dX12_best_47 (by decide) ?_
          refine ok_sub [2, 1, 0] rfl ?_
          exact ih r8.2.1 r8.2.2 b0 y2 (y2 + 1) hZ_b0 h
      · have h := (if_pos hc7).symm.trans h
        refine ok_iconst (v := 0) dX12_best_27 (by decide) ?_
        refine ok_goto (t := 39) dX12_best_28 (by decide) ?_
        refine ok_icmp_le (t := 44) dX12_best_39 (by decide) (fun hc13 => ?_) (fun hc13 => ?_)
        · have h := (if_pos hc13).symm.trans h
          refine ok_iinc (u := (y2 + 1)) (l' := [(2, .int (y2 + 1)), (0, .ref b0), (1, .int y1)]) dX12_best_44 2 rfl rfl (Nat.le_of_ble_eq_true rfl) rfl ?_
          refine ok_goto (t := 4) dX12_best_47 (by decide) ?_
          refine ok_sub [1, 2, 0] rfl ?_
          exact ih r3.2.1 r3.2.2 b0 y1 (y2 + 1) hZ_b0 h
        · have h := (if_neg hc13).symm.trans h
          refine ok_iload_n dX12_best_42 2 rfl ?_
          refine ok_istore_n (l' := [(1, .int y2), (0, .ref b0), (2, .int y2)]) dX12_best_43 rfl (Nat.le_of_ble_eq_true rfl) rfl ?_
          refine ok_iinc (u := (y2 + 1)) (l' := [(2, .int (y2 + 1)), (1, .int y2), (0, .ref b0)]) dX12_best_44 2 rfl rfl (Nat.le_of_ble_eq_true rfl) rfl ?_
          refine ok_goto (t := 4) dX12_best_47 (by decide) ?_
          refine ok_sub [2, 1, 0] rfl ?_
          exact ih r3.2.1 r3.2.2 b0 y2 (y2 + 1) hZ_b0 h
def f12_best (n : Nat) (I : (Nat → Nat → Int32)) (L : (Nat → Nat → Int64)) (O : (Nat → Nat → Option Nat)) (a0 : Nat) : Option (Int32 × (Nat → Nat → Int32) × (Nat → Nat → Int64)) := f12_best_c4 n O n I L a0 (-1 : Int32) (0 : Int32)
set_option maxHeartbeats 4000000 in
set_option maxRecDepth 20000 in
theorem o12_best {g : pG} {Qx : Option Value → pW → Prop} {Z : pZ} {I : (Nat → Nat → Int32)} {L : (Nat → Nat → Int64)} {O : (Nat → Nat → Option Nat)} {n : Nat} {a0 : Nat} {res : Int32 × (Nat → Nat → Int32) × (Nat → Nat → Int64)} (d : Nat) (hW : WT Z O) (hZ0 : Z[a0]? = some (12, 34)) (h : f12_best n I L O a0 = some res) (hQ : Qx (some (.int res.1)) (Z, res.2.1, res.2.2, O)) : Ok g (d + 11, RX12, cX12_best, 3, false, 0, 0, Z.length, pSl Z) Qx 0 [(0, .ref a0)] [] (Z, I, L, O) := by
  unfold f12_best at h
  refine ok_iconst (v := (-1)) dX12_best_0 (by decide) ?_
  refine ok_istore_n (l' := [(1, .int (-1)), (0, .ref a0)]) dX12_best_1 rfl (Nat.le_of_ble_eq_true rfl) rfl ?_
  refine ok_iconst (v := 0) dX12_best_2 (by decide) ?_
  refine ok_istore_n (l' := [(2, .int 0), (1, .int (-1)), (0, .ref a0)]) dX12_best_3 rfl (Nat.le_of_ble_eq_true rfl) rfl ?_
  refine ok_sub [2, 1, 0] rfl ?_
  exact o12_best_c4 d hW hQ  n I L a0 (-1 : Int32) (0 : Int32) hZ0 h
theorem k12_best {g : pG} {Q : Option Value → pW → Prop} {Z : pZ} {I : (Nat → Nat → Int32)} {L : (Nat → Nat → Int64)} {O : (Nat → Nat → Option Nat)} {n : Nat} {a0 : Nat} {res : Int32 × (Nat → Nat → Int32) × (Nat → Nat → Int64)} (d : Nat) (hW : WT Z O) (hZ0 : Z[a0]? = some (12, 34)) (h : f12_best n I L O a0 = some res) (hQ : Q (some (.int res.1)) (Z, res.2.1, res.2.2, O)) : CT g (d + 11) m12_best 0 0 [.ref a0] (Z, I, L, O) Q :=
  ct_of_ok (mt := m12_best) (ini := false) mo12_best.2.2.2.2 (fun h => by cases h) (Nat.le_of_ble_eq_true rfl) (o12_best d hW hZ0 h ⟨trivial, hQ, rfl, rfl⟩)
theorem dX12_wornIn_0 : decode cX12_wornIn 0 = .ok (.iconst 0, 1) := by decide +kernel
theorem dX12_wornIn_1 : decode cX12_wornIn 1 = .ok (.istore_n 2, 1) := by decide +kernel
theorem dX12_wornIn_2 : decode cX12_wornIn 2 = .ok (.iconst 0, 1) := by decide +kernel
theorem dX12_wornIn_3 : decode cX12_wornIn 3 = .ok (.istore_n 3, 1) := by decide +kernel
theorem dX12_wornIn_4 : decode cX12_wornIn 4 = .ok (.iload_n 3, 1) := by decide +kernel
theorem dX12_wornIn_5 : decode cX12_wornIn 5 = .ok (.aload_n 0, 1) := by decide +kernel
theorem dX12_wornIn_6 : decode cX12_wornIn 6 = .ok (.getfield 7, 3) := by decide +kernel
theorem dX12_wornIn_9 : decode cX12_wornIn 9 = .ok (.bipush 114, 2) := by decide +kernel
theorem dX12_wornIn_11 : decode cX12_wornIn 11 = .ok (.iload_n 1, 1) := by decide +kernel
theorem dX12_wornIn_12 : decode cX12_wornIn 12 = .ok (.iadd, 1) := by decide +kernel
theorem dX12_wornIn_13 : decode cX12_wornIn 13 = .ok (.iaload, 1) := by decide +kernel
theorem dX12_wornIn_14 : decode cX12_wornIn 14 = .ok (.if_icmp .ge 18, 3) := by decide +kernel
theorem dX12_wornIn_17 : decode cX12_wornIn 17 = .ok (.iload_n 2, 1) := by decide +kernel
theorem dX12_wornIn_18 : decode cX12_wornIn 18 = .ok (.aload_n 0, 1) := by decide +kernel
theorem dX12_wornIn_19 : decode cX12_wornIn 19 = .ok (.iload_n 1, 1) := by decide +kernel
theorem dX12_wornIn_20 : decode cX12_wornIn 20 = .ok (.iload_n 3, 1) := by decide +kernel
theorem dX12_wornIn_21 : decode cX12_wornIn 21 = .ok (.invokevirtual 83, 3) := by decide +kernel
theorem dX12_wornIn_24 : decode cX12_wornIn 24 = .ok (.iadd, 1) := by decide +kernel
theorem dX12_wornIn_25 : decode cX12_wornIn 25 = .ok (.istore_n 2, 1) := by decide +kernel
theorem dX12_wornIn_26 : decode cX12_wornIn 26 = .ok (.iinc 3 1, 3) := by decide +kernel
theorem dX12_wornIn_29 : decode cX12_wornIn 29 = .ok (.goto (-25), 3) := by decide +kernel
theorem dX12_wornIn_32 : decode cX12_wornIn 32 = .ok (.iload_n 2, 1) := by decide +kernel
theorem dX12_wornIn_33 : decode cX12_wornIn 33 = .ok (.ireturn, 1) := by decide +kernel
def m12_wornIn : pMT := (yX12_wornIn, cX12_wornIn, 4, some .int)
theorem mo12_wornIn : mOK m12_wornIn 1 := ⟨tb_i 1835 (by decide +kernel), wi_RX12, ⟨wn_RX12.1, wn_RX12.2, by decide +kernel⟩, by decide, plainFor_of_name wp_RX12⟩
theorem mv12_wornIn : mV m12_wornIn := ⟨tb_i 1834 (by decide +kernel), tb_p 121 (by decide +kernel)⟩
def f12_wornIn_c4 (n : Nat) (I : (Nat → Nat → Int32)) (O : (Nat → Nat → Option Nat)) : Nat → Nat → Int32 → Int32 → Int32 → Option (Int32)
  | 0, _, _, _, _ => none
  | m + 1, b0, y1, y2, y3 => (if ((114 : Int32) + y1) < 0 ∨ 4371 ≤ ((114 : Int32) + y1).toNatClampNeg then none else (if (I (rO O b0 0) ((114 : Int32) + y1).toNatClampNeg) ≤ y3 then some (y2) else (f12_wearOf I O b0 y1 y3).bind fun r4 => f12_wornIn_c4 n I O m b0 y1 (y2 + r4) (y3 + 1)))
set_option maxHeartbeats 4000000 in
set_option maxRecDepth 20000 in
theorem o12_wornIn_c4 {g : pG} {Qx : Option Value → pW → Prop} {Z : pZ} {I : (Nat → Nat → Int32)} {L : (Nat → Nat → Int64)} {O : (Nat → Nat → Option Nat)} {n : Nat} {res : Int32} (d : Nat) (hW : WT Z O) (hQ : Qx (some (.int res)) (Z, I, L, O)) : ∀ (m : Nat) (b0 : Nat) (y1 : Int32) (y2 : Int32) (y3 : Int32), (Z[b0]? = some (12, 34)) → f12_wornIn_c4 n I O m b0 y1 y2 y3 = some res → Ok g (d + 3, RX12, cX12_wornIn, 4, false, 0, 0, Z.length, pSl Z) Qx 4 [(0, .ref b0), (1, .int y1), (2, .int y2), (3, .int y3)] [] (Z, I, L, O) := by
  intro m
  induction m with
  | zero => intro b0 y1 y2 y3 hZ_b0 h; rw [f12_wornIn_c4] at h; cases h
  | succ m ih =>
    intro b0 y1 y2 y3 hZ_b0 h
    rw [f12_wornIn_c4] at h
    refine ok_iload_n dX12_wornIn_4 3 rfl ?_
    refine ok_aload_n dX12_wornIn_5 0 rfl ?_
    have hT1 : Z[(rO O b0 0)]? = some (13, 4371) := (wt_f (ci := 12) (k := 0) hW hZ_b0 rfl).2
    refine ok_getR (ci := 12) (k := 0) dX12_wornIn_6 flRX12_7 rfl hW hZ_b0 (by decide) ?_
    refine ok_bipush (v := 114) dX12_wornIn_9 (by decide) ?_
    refine ok_iload_n dX12_wornIn_11 1 rfl ?_
    refine ok_iadd dX12_wornIn_12 ?_
    obtain ⟨hg2, h⟩ := gd h
    refine ok_iald2 (N := ((114 : Int32) + y1).toNatClampNeg) dX12_wornIn_13 hT1 hg2 rfl ?_
    refine ok_icmp_ge (t := 32) dX12_wornIn_14 (by decide) (fun hc3 => ?_) (fun hc3 => ?_)
    · have h := (if_pos hc3).symm.trans h
      refine ok_iload_n dX12_wornIn_32 2 rfl ?_
      cases h
      exact ok_iret dX12_wornIn_33 hQ
    · have h := (if_neg hc3).symm.trans h
      refine ok_iload_n dX12_wornIn_17 2 rfl ?_
      refine ok_aload_n dX12_wornIn_18 0 rfl ?_
      refine ok_iload_n dX12_wornIn_19 1 rfl ?_
      refine ok_iload_n dX12_wornIn_20 3 rfl ?_
      obtain ⟨r4, hr5, h⟩ := bd h
      refine ok_callV (d := ((d + 0) + 2)) (mt := m12_wearOf) (mc := 0) (ms := 0) (As := [.int y1, .int y3]) (r := [.int y2]) dX12_wornIn_21 mo12_wearOf mv12_wearOf lkRX12_83 rfl hZ_b0 (q := (RX12, TX12, 34)) rfl rfl rfl (Nat.le_of_ble_eq_true rfl) (by show _ + 1 ≤ d + _; omega) (Nat.le_refl _) (Nat.le_refl _) (pRt_mono ?_)
      refine k12_wearOf (d + 0) hW hZ_b0 hr5 ?_
      intro _
      show Ok g _ Qx 24 [(0, .ref b0), (1, .int y1), (2, .int y2), (3, .int y3)] [.int r4, .int y2] (Z, I, L, O)
      refine ok_iadd dX12_wornIn_24 ?_
      refine ok_istore_n (l' := [(2, .int (y2 + r4)), (0, .ref b0), (1, .int y1), (3, .int y3)]) dX12_wornIn_25 rfl (Nat.le_of_ble_eq_true rfl) rfl ?_
      refine ok_iinc (u := (y3 + 1)) (l' := [(3, .int (y3 + 1)), (2, .int (y2 + r4)), (0, .ref b0), (1, .int y1)]) dX12_wornIn_26 3 rfl rfl (Nat.le_of_ble_eq_true rfl) rfl ?_
      refine ok_goto (t := 4) dX12_wornIn_29 (by decide) ?_
      refine ok_sub [2, 3, 1, 0] rfl ?_
      exact ih b0 y1 (y2 + r4) (y3 + 1) hZ_b0 h
def f12_wornIn (n : Nat) (I : (Nat → Nat → Int32)) (O : (Nat → Nat → Option Nat)) (a0 : Nat) (x1 : Int32) : Option (Int32) := f12_wornIn_c4 n I O n a0 x1 (0 : Int32) (0 : Int32)
set_option maxHeartbeats 4000000 in
set_option maxRecDepth 20000 in
theorem o12_wornIn {g : pG} {Qx : Option Value → pW → Prop} {Z : pZ} {I : (Nat → Nat → Int32)} {L : (Nat → Nat → Int64)} {O : (Nat → Nat → Option Nat)} {n : Nat} {a0 : Nat} {x1 : Int32} {res : Int32} (d : Nat) (hW : WT Z O) (hZ0 : Z[a0]? = some (12, 34)) (h : f12_wornIn n I O a0 x1 = some res) (hQ : Qx (some (.int res)) (Z, I, L, O)) : Ok g (d + 3, RX12, cX12_wornIn, 4, false, 0, 0, Z.length, pSl Z) Qx 0 [(0, .ref a0), (1, .int x1)] [] (Z, I, L, O) := by
  unfold f12_wornIn at h
  refine ok_iconst (v := 0) dX12_wornIn_0 (by decide) ?_
  refine ok_istore_n (l' := [(2, .int 0), (0, .ref a0), (1, .int x1)]) dX12_wornIn_1 rfl (Nat.le_of_ble_eq_true rfl) rfl ?_
  refine ok_iconst (v := 0) dX12_wornIn_2 (by decide) ?_
  refine ok_istore_n (l' := [(3, .int 0), (2, .int 0), (0, .ref a0), (1, .int x1)]) dX12_wornIn_3 rfl (Nat.le_of_ble_eq_true rfl) rfl ?_
  refine ok_sub [2, 3, 1, 0] rfl ?_
  exact o12_wornIn_c4 d hW hQ  n a0 x1 (0 : Int32) (0 : Int32) hZ0 h
theorem k12_wornIn {g : pG} {Q : Option Value → pW → Prop} {Z : pZ} {I : (Nat → Nat → Int32)} {L : (Nat → Nat → Int64)} {O : (Nat → Nat → Option Nat)} {n : Nat} {a0 : Nat} {x1 : Int32} {res : Int32} (d : Nat) (hW : WT Z O) (hZ0 : Z[a0]? = some (12, 34)) (h : f12_wornIn n I O a0 x1 = some res) (hQ : Q (some (.int res)) (Z, I, L, O)) : CT g (d + 3) m12_wornIn 0 0 [.ref a0, .int x1] (Z, I, L, O) Q :=
  ct_of_ok (mt := m12_wornIn) (ini := false) mo12_wornIn.2.2.2.2 (fun h => by cases h) (Nat.le_of_ble_eq_true rfl) (o12_wornIn d hW hZ0 h ⟨trivial, hQ, rfl, rfl⟩)
theorem dX12_loved_0 : decode cX12_loved 0 = .ok (.iconst (-1), 1) := by decide +kernel
theorem dX12_loved_1 : decode cX12_loved 1 = .ok (.istore_n 1, 1) := by decide +kernel
theorem dX12_loved_2 : decode cX12_loved 2 = .ok (.iconst 0, 1) := by decide +kernel
theorem dX12_loved_3 : decode cX12_loved 3 = .ok (.istore_n 2, 1) := by decide +kernel
theorem dX12_loved_4 : decode cX12_loved 4 = .ok (.iload_n 2, 1) := by decide +kernel
theorem dX12_loved_5 : decode cX12_loved 5 = .ok (.aload_n 0, 1) := by decide +kernel
theorem dX12_loved_6 : decode cX12_loved 6 = .ok (.getfield 7, 3) := by decide +kernel
theorem dX12_loved_9 : decode cX12_loved 9 = .ok (.iconst 0, 1) := by decide +kernel
theorem dX12_loved_10 : decode cX12_loved 10 = .ok (.iaload, 1) := by decide +kernel
theorem dX12_loved_11 : decode cX12_loved 11 = .ok (.if_icmp .ge 33, 3) := by decide +kernel
theorem dX12_loved_14 : decode cX12_loved 14 = .ok (.aload_n 0, 1) := by decide +kernel
theorem dX12_loved_15 : decode cX12_loved 15 = .ok (.iload_n 2, 1) := by decide +kernel
theorem dX12_loved_16 : decode cX12_loved 16 = .ok (.invokevirtual 416, 3) := by decide +kernel
theorem dX12_loved_19 : decode cX12_loved 19 = .ok (.iload_n 1, 1) := by decide +kernel
theorem dX12_loved_20 : decode cX12_loved 20 = .ok (.iconst (-1), 1) := by decide +kernel
theorem dX12_loved_21 : decode cX12_loved 21 = .ok (.if_icmp .ne 7, 3) := by decide +kernel
theorem dX12_loved_24 : decode cX12_loved 24 = .ok (.iconst 0, 1) := by decide +kernel
theorem dX12_loved_25 : decode cX12_loved 25 = .ok (.goto 8, 3) := by decide +kernel
theorem dX12_loved_28 : decode cX12_loved 28 = .ok (.aload_n 0, 1) := by decide +kernel
theorem dX12_loved_29 : decode cX12_loved 29 = .ok (.iload_n 1, 1) := by decide +kernel
theorem dX12_loved_30 : decode cX12_loved 30 = .ok (.invokevirtual 416, 3) := by decide +kernel
theorem dX12_loved_33 : decode cX12_loved 33 = .ok (.if_icmp .le 5, 3) := by decide +kernel
theorem dX12_loved_36 : decode cX12_loved 36 = .ok (.iload_n 2, 1) := by decide +kernel
theorem dX12_loved_37 : decode cX12_loved 37 = .ok (.istore_n 1, 1) := by decide +kernel
theorem dX12_loved_38 : decode cX12_loved 38 = .ok (.iinc 2 1, 3) := by decide +kernel
theorem dX12_loved_41 : decode cX12_loved 41 = .ok (.goto (-37), 3) := by decide +kernel
theorem dX12_loved_44 : decode cX12_loved 44 = .ok (.iload_n 1, 1) := by decide +kernel
theorem dX12_loved_45 : decode cX12_loved 45 = .ok (.ireturn, 1) := by decide +kernel
def m12_loved : pMT := (yX12_loved, cX12_loved, 3, some .int)
theorem mo12_loved : mOK m12_loved 0 := ⟨tb_i 1831 (by decide +kernel), wi_RX12, ⟨wn_RX12.1, wn_RX12.2, by decide +kernel⟩, by decide, plainFor_of_name wp_RX12⟩
theorem mv12_loved : mV m12_loved := ⟨tb_i 1829 (by decide +kernel), tb_i 1830 (by decide +kernel)⟩
def f12_loved_c4 (n : Nat) (I : (Nat → Nat → Int32)) (O : (Nat → Nat → Option Nat)) : Nat → Nat → Int32 → Int32 → Option (Int32)
  | 0, _, _, _ => none
  | m + 1, b0, y1, y2 => (if (I (rO O b0 0) 0) ≤ y2 then some (y1) else (f12_wornIn n I O b0 y2).bind fun r3 => (if y1 = (-1 : Int32) then (if r3 ≤ (0 : Int32) then f12_loved_c4 n I O m b0 y1 (y2 + 1) else f12_loved_c4 n I O m b0 y2 (y2 + 1)) else (f12_wornIn n I O b0 y1).bind fun r6 => (if r3 ≤ r6 then f12_loved_c4 n I O m b0 y1 (y2 + 1) else f12_loved_c4 n I O m b0 y2 (y2 + 1))))
set_option maxHeartbeats 4000000 in
set_option maxRecDepth 20000 in
theorem o12_loved_c4 {g : pG} {Qx : Option Value → pW → Prop} {Z : pZ} {I : (Nat → Nat → Int32)} {L : (Nat → Nat → Int64)} {O : (Nat → Nat → Option Nat)} {n : Nat} {res : Int32} (d : Nat) (hW : WT Z O) (hQ : Qx (some (.int res)) (Z, I, L, O)) : ∀ (m : Nat) (b0 : Nat) (y1 : Int32) (y2 : Int32), (Z[b0]? = some (12, 34)) → f12_loved_c4 n I O m b0 y1 y2 = some res → Ok g (d + 4, RX12, cX12_loved, 3, false, 0, 0, Z.length, pSl Z) Qx 4 [(0, .ref b0), (1, .int y1), (2, .int y2)] [] (Z, I, L, O) := by
  intro m
  induction m with
  | zero => intro b0 y1 y2 hZ_b0 h; rw [f12_loved_c4] at h; cases h
  | succ m ih =>
    intro b0 y1 y2 hZ_b0 h
    rw [f12_loved_c4] at h
    refine ok_iload_n dX12_loved_4 2 rfl ?_
    refine ok_aload_n dX12_loved_5 0 rfl ?_
    have hT1 : Z[(rO O b0 0)]? = some (13, 4371) := (wt_f (ci := 12) (k := 0) hW hZ_b0 rfl).2
    refine ok_getR (ci := 12) (k := 0) dX12_loved_6 flRX12_7 rfl hW hZ_b0 (by decide) ?_
    refine ok_iconst (v := 0) dX12_loved_9 (by decide) ?_
    refine ok_iald2 (N := 0) dX12_loved_10 hT1 (by unfold vp_in; decide) (by decide) ?_
    refine ok_icmp_ge (t := 44) dX12_loved_11 (by decide) (fun hc2 => ?_) (fun hc2 => ?_)
    · have h := (if_pos hc2).symm.trans h
      refine ok_iload_n dX12_loved_44 1 rfl ?_
      cases h
      exact ok_iret dX12_loved_45 hQ
    · have h := (if_neg hc2).symm.trans h
      refine ok_aload_n dX12_loved_14 0 rfl ?_
      refine ok_iload_n dX12_loved_15 2 rfl ?_
      obtain ⟨r3, hr4, h⟩ := bd h
      refine ok_callV (d := ((d + 0) + 3)) (mt := m12_wornIn) (mc := 0) (ms := 0) (As := [.int y2]) (r := []) dX12_loved_16 mo12_wornIn mv12_wornIn lkRX12_416 rfl hZ_b0 (q := (RX12, TX12, 34)) rfl rfl rfl (Nat.le_of_ble_eq_true rfl) (by show _ + 1 ≤ d + _; omega) (Nat.le_refl _) (Nat.le_refl _) (pRt_mono ?_)
      refine k12_wornIn (d + 0) hW hZ_b0 hr4 ?_
      intro _
      show Ok g _ Qx 19 [(0, .ref b0), (1, .int y1), (2, .int y2)] [.int r3] (Z, I, L, O)
      refine ok_iload_n dX12_loved_19 1 rfl ?_
      refine ok_iconst (v := (-1)) dX12_loved_20 (by decide) ?_
      refine ok_icmp_ne (t := 28) dX12_loved_21 (by decide) (fun hc5 => ?_) (fun hc5 => ?_)
      · have h := (if_neg hc5).symm.trans h
        refine ok_aload_n dX12_loved_28 0 rfl ?_
        refine ok_iload_n dX12_loved_29 1 rfl ?_
        obtain ⟨r6, hr7, h⟩ := bd h
        refine ok_callV (d := ((d + 0) + 3)) (mt := m12_wornIn) (mc := 0) (ms := 0) (As := [.int y1]) (r := [.int r3]) dX12_loved_30 mo12_wornIn mv12_wornIn lkRX12_416 rfl hZ_b0 (q := (RX12, TX12, 34)) rfl rfl rfl (Nat.le_of_ble_eq_true rfl) (by show _ + 1 ≤ d + _; omega) (Nat.le_refl _) (Nat.le_refl _) (pRt_mono ?_)
        refine k12_wornIn (d + 0) hW hZ_b0 hr7 ?_
        intro _
        show Ok g _ Qx 33 [(0, .ref b0), (1, .int y1), (2, .int y2)] [.int r6, .int r3] (Z, I, L, O)
        refine ok_icmp_le (t := 38) dX12_loved_33 (by decide) (fun hc8 => ?_) (fun hc8 => ?_)
        · have h := (if_pos hc8).symm.trans h
          refine ok_iinc (u := (y2 + 1)) (l' := [(2, .int (y2 + 1)), (0, .ref b0), (1, .int y1)]) dX12_loved_38 2 rfl rfl (Nat.le_of_ble_eq_true rfl) rfl ?_
          refine ok_goto (t := 4) dX12_loved_41 (by decide) ?_
          refine ok_sub [1, 2, 0] rfl ?_
          exact ih b0 y1 (y2 + 1) hZ_b0 h
        · have h := (if_neg hc8).symm.trans h
          refine ok_iload_n dX12_loved_36 2 rfl ?_
          refine ok_istore_n (l' := [(1, .int y2), (0, .ref b0), (2, .int y2)]) dX12_loved_37 rfl (Nat.le_of_ble_eq_true rfl) rfl ?_
          refine ok_iinc (u := (y2 + 1)) (l' := [(2, .int (y2 + 1)), (1, .int y2), (0, .ref b0)]) dX12_loved_38 2 rfl rfl (Nat.le_of_ble_eq_true rfl) rfl ?_
          refine ok_goto (t := 4) dX12_loved_41 (by decide) ?_
          refine ok_sub [2, 1, 0] rfl ?_
          exact ih b0 y2 (y2 + 1) hZ_b0 h
      · have h := (if_pos hc5).symm.trans h
        refine ok_iconst (v := 0) dX12_loved_24 (by decide) ?_
        refine ok_goto (t := 33) dX12_loved_25 (by decide) ?_
        refine ok_icmp_le (t := 38) dX12_loved_33 (by decide) (fun hc9 => ?_) (fun hc9 => ?_)
        · have h := (if_pos hc9).symm.trans h
          refine ok_iinc (u := (y2 + 1)) (l' := [(2, .int (y2 + 1)), (0, .ref b0), (1, .int y1)]) dX12_loved_38 2 rfl rfl (Nat.le_of_ble_eq_true rfl) rfl ?_
          refine ok_goto (t := 4) dX12_loved_41 (by decide) ?_
          refine ok_sub [1, 2, 0] rfl ?_
          exact ih b0 y1 (y2 + 1) hZ_b0 h
        · have h := (if_neg hc9).symm.trans h
          refine ok_iload_n dX12_loved_36 2 rfl ?_
          refine ok_istore_n (l' := [(1, .int y2), (0, .ref b0), (2, .int y2)]) dX12_loved_37 rfl (Nat.le_of_ble_eq_true rfl) rfl ?_
          refine ok_iinc (u := (y2 + 1)) (l' := [(2, .int (y2 + 1)), (1, .int y2), (0, .ref b0)]) dX12_loved_38 2 rfl rfl (Nat.le_of_ble_eq_true rfl) rfl ?_
          refine ok_goto (t := 4) dX12_loved_41 (by decide) ?_
          refine ok_sub [2, 1, 0] rfl ?_
          exact ih b0 y2 (y2 + 1) hZ_b0 h
def f12_loved (n : Nat) (I : (Nat → Nat → Int32)) (O : (Nat → Nat → Option Nat)) (a0 : Nat) : Option (Int32) := f12_loved_c4 n I O n a0 (-1 : Int32) (0 : Int32)
set_option maxHeartbeats 4000000 in
set_option maxRecDepth 20000 in
theorem o12_loved {g : pG} {Qx : Option Value → pW → Prop} {Z : pZ} {I : (Nat → Nat → Int32)} {L : (Nat → Nat → Int64)} {O : (Nat → Nat → Option Nat)} {n : Nat} {a0 : Nat} {res : Int32} (d : Nat) (hW : WT Z O) (hZ0 : Z[a0]? = some (12, 34)) (h : f12_loved n I O a0 = some res) (hQ : Qx (some (.int res)) (Z, I, L, O)) : Ok g (d + 4, RX12, cX12_loved, 3, false, 0, 0, Z.length, pSl Z) Qx 0 [(0, .ref a0)] [] (Z, I, L, O) := by
  unfold f12_loved at h
  refine ok_iconst (v := (-1)) dX12_loved_0 (by decide) ?_
  refine ok_istore_n (l' := [(1, .int (-1)), (0, .ref a0)]) dX12_loved_1 rfl (Nat.le_of_ble_eq_true rfl) rfl ?_
  refine ok_iconst (v := 0) dX12_loved_2 (by decide) ?_
  refine ok_istore_n (l' := [(2, .int 0), (1, .int (-1)), (0, .ref a0)]) dX12_loved_3 rfl (Nat.le_of_ble_eq_true rfl) rfl ?_
  refine ok_sub [2, 1, 0] rfl ?_
  exact o12_loved_c4 d hW hQ  n a0 (-1 : Int32) (0 : Int32) hZ0 h
theorem k12_loved {g : pG} {Q : Option Value → pW → Prop} {Z : pZ} {I : (Nat → Nat → Int32)} {L : (Nat → Nat → Int64)} {O : (Nat → Nat → Option Nat)} {n : Nat} {a0 : Nat} {res : Int32} (d : Nat) (hW : WT Z O) (hZ0 : Z[a0]? = some (12, 34)) (h : f12_loved n I O a0 = some res) (hQ : Q (some (.int res)) (Z, I, L, O)) : CT g (d + 4) m12_loved 0 0 [.ref a0] (Z, I, L, O) Q :=
  ct_of_ok (mt := m12_loved) (ini := false) mo12_loved.2.2.2.2 (fun h => by cases h) (Nat.le_of_ble_eq_true rfl) (o12_loved d hW hZ0 h ⟨trivial, hQ, rfl, rfl⟩)
theorem dX12_dumb_0 : decode cX12_dumb 0 = .ok (.iconst 0, 1) := by decide +kernel
theorem dX12_dumb_1 : decode cX12_dumb 1 = .ok (.istore_n 1, 1) := by decide +kernel
theorem dX12_dumb_2 : decode cX12_dumb 2 = .ok (.iconst 0, 1) := by decide +kernel
theorem dX12_dumb_3 : decode cX12_dumb 3 = .ok (.istore_n 2, 1) := by decide +kernel
theorem dX12_dumb_4 : decode cX12_dumb 4 = .ok (.iload_n 2, 1) := by decide +kernel
theorem dX12_dumb_5 : decode cX12_dumb 5 = .ok (.aload_n 0, 1) := by decide +kernel
theorem dX12_dumb_6 : decode cX12_dumb 6 = .ok (.getfield 7, 3) := by decide +kernel
theorem dX12_dumb_9 : decode cX12_dumb 9 = .ok (.iconst 0, 1) := by decide +kernel
theorem dX12_dumb_10 : decode cX12_dumb 10 = .ok (.iaload, 1) := by decide +kernel
theorem dX12_dumb_11 : decode cX12_dumb 11 = .ok (.if_icmp .ge 66, 3) := by decide +kernel
theorem dX12_dumb_14 : decode cX12_dumb 14 = .ok (.iconst 1, 1) := by decide +kernel
theorem dX12_dumb_15 : decode cX12_dumb 15 = .ok (.istore_n 3, 1) := by decide +kernel
theorem dX12_dumb_16 : decode cX12_dumb 16 = .ok (.iconst 0, 1) := by decide +kernel
theorem dX12_dumb_17 : decode cX12_dumb 17 = .ok (.istore 4, 2) := by decide +kernel
theorem dX12_dumb_19 : decode cX12_dumb 19 = .ok (.iload 4, 2) := by decide +kernel
theorem dX12_dumb_21 : decode cX12_dumb 21 = .ok (.aload_n 0, 1) := by decide +kernel
theorem dX12_dumb_22 : decode cX12_dumb 22 = .ok (.getfield 7, 3) := by decide +kernel
theorem dX12_dumb_25 : decode cX12_dumb 25 = .ok (.bipush 114, 2) := by decide +kernel
theorem dX12_dumb_27 : decode cX12_dumb 27 = .ok (.iload_n 2, 1) := by decide +kernel
theorem dX12_dumb_28 : decode cX12_dumb 28 = .ok (.iadd, 1) := by decide +kernel
theorem dX12_dumb_29 : decode cX12_dumb 29 = .ok (.iaload, 1) := by decide +kernel
theorem dX12_dumb_30 : decode cX12_dumb 30 = .ok (.if_icmp .ge 27, 3) := by decide +kernel
theorem dX12_dumb_33 : decode cX12_dumb 33 = .ok (.iload_n 3, 1) := by decide +kernel
theorem dX12_dumb_34 : decode cX12_dumb 34 = .ok (.aload_n 0, 1) := by decide +kernel
theorem dX12_dumb_35 : decode cX12_dumb 35 = .ok (.iload_n 2, 1) := by decide +kernel
theorem dX12_dumb_36 : decode cX12_dumb 36 = .ok (.iload 4, 2) := by decide +kernel
theorem dX12_dumb_38 : decode cX12_dumb 38 = .ok (.invokevirtual 331, 3) := by decide +kernel
theorem dX12_dumb_41 : decode cX12_dumb 41 = .ok (.ifCond .ne 7, 3) := by decide +kernel
theorem dX12_dumb_44 : decode cX12_dumb 44 = .ok (.iconst 1, 1) := by decide +kernel
theorem dX12_dumb_45 : decode cX12_dumb 45 = .ok (.goto 4, 3) := by decide +kernel
theorem dX12_dumb_48 : decode cX12_dumb 48 = .ok (.iconst 0, 1) := by decide +kernel
theorem dX12_dumb_49 : decode cX12_dumb 49 = .ok (.iand, 1) := by decide +kernel
theorem dX12_dumb_50 : decode cX12_dumb 50 = .ok (.istore_n 3, 1) := by decide +kernel
theorem dX12_dumb_51 : decode cX12_dumb 51 = .ok (.iinc 4 1, 3) := by decide +kernel
theorem dX12_dumb_54 : decode cX12_dumb 54 = .ok (.goto (-35), 3) := by decide +kernel
theorem dX12_dumb_57 : decode cX12_dumb 57 = .ok (.iload_n 1, 1) := by decide +kernel
theorem dX12_dumb_58 : decode cX12_dumb 58 = .ok (.iload_n 3, 1) := by decide +kernel
theorem dX12_dumb_59 : decode cX12_dumb 59 = .ok (.ifCond .eq 9, 3) := by decide +kernel
theorem dX12_dumb_62 : decode cX12_dumb 62 = .ok (.iconst 1, 1) := by decide +kernel
theorem dX12_dumb_63 : decode cX12_dumb 63 = .ok (.iload_n 2, 1) := by decide +kernel
theorem dX12_dumb_64 : decode cX12_dumb 64 = .ok (.ishl, 1) := by decide +kernel
theorem dX12_dumb_65 : decode cX12_dumb 65 = .ok (.goto 4, 3) := by decide +kernel
theorem dX12_dumb_68 : decode cX12_dumb 68 = .ok (.iconst 0, 1) := by decide +kernel
theorem dX12_dumb_69 : decode cX12_dumb 69 = .ok (.ior, 1) := by decide +kernel
theorem dX12_dumb_70 : decode cX12_dumb 70 = .ok (.istore_n 1, 1) := by decide +kernel
theorem dX12_dumb_71 : decode cX12_dumb 71 = .ok (.iinc 2 1, 3) := by decide +kernel
theorem dX12_dumb_74 : decode cX12_dumb 74 = .ok (.goto (-70), 3) := by decide +kernel
theorem dX12_dumb_77 : decode cX12_dumb 77 = .ok (.iload_n 1, 1) := by decide +kernel
theorem dX12_dumb_78 : decode cX12_dumb 78 = .ok (.ireturn, 1) := by decide +kernel
def m12_dumb : pMT := (yX12_dumb, cX12_dumb, 5, some .int)
theorem mo12_dumb : mOK m12_dumb 0 := ⟨tb_i 1839 (by decide +kernel), wi_RX12, ⟨wn_RX12.1, wn_RX12.2, by decide +kernel⟩, by decide, plainFor_of_name wp_RX12⟩
theorem mv12_dumb : mV m12_dumb := ⟨tb_i 1837 (by decide +kernel), tb_i 1838 (by decide +kernel)⟩
def f12_dumb_c19 (n : Nat) (I : (Nat → Nat → Int32)) (O : (Nat → Nat → Option Nat)) (k4 : (Nat → Int32 → Int32 → Option (Int32))) : Nat → Nat → Int32 → Int32 → Int32 → Int32 → Option (Int32)
  | 0, _, _, _, _, _ => none
  | m + 1, b0, y1, y2, y3, y4 => (if ((114 : Int32) + y2) < 0 ∨ 4371 ≤ ((114 : Int32) + y2).toNatClampNeg then none else (if (I (rO O b0 0) ((114 : Int32) + y2).toNatClampNeg) ≤ y4 then (if y3 = 0 then k4 b0 (y1 ||| 0) (y2 + 1) else bl ((y1 ||| ((1 : Int32) <<< (y2 &&& 31))) : Int32) fun z5 => k4 b0 z5 (y2 + 1)) else (f12_isHole I O b0 y2 y4).bind fun r6 => (if r6 = 0 then f12_dumb_c19 n I O k4 m b0 y1 y2 (y3 &&& 1) (y4 + 1) else f12_dumb_c19 n I O k4 m b0 y1 y2 (y3 &&& 0) (y4 + 1))))
set_option maxHeartbeats 4000000 in
set_option maxRecDepth 20000 in
theorem o12_dumb_c19 {g : pG} {Qx : Option Value → pW → Prop} {Z : pZ} {I : (Nat → Nat → Int32)} {L : (Nat → Nat → Int64)} {O : (Nat → Nat → Option Nat)} {n : Nat} {k4 : (Nat → Int32 → Int32 → Option (Int32))} {res : Int32} (d : Nat) (hW : WT Z O) (hQ : Qx (some (.int res)) (Z, I, L, O)) (hk4 : ∀ (b0 : Nat) (y1 : Int32) (y2 : Int32), (Z[b0]? = some (12, 34)) → k4 b0 y1 y2 = some res → Ok g (d + 5, RX12, cX12_dumb, 5, false, 0, 0, Z.length, pSl Z) Qx 4 [(0, .ref b0), (1, .int y1), (2, .int y2)] [] (Z, I, L, O)) : ∀ (m : Nat) (b0 : Nat) (y1 : Int32) (y2 : Int32) (y3 : Int32) (y4 : Int32), (Z[b0]? = some (12, 34)) → f12_dumb_c19 n I O k4 m b0 y1 y2 y3 y4 = some res → Ok g (d + 5, RX12, cX12_dumb, 5, false, 0, 0, Z.length, pSl Z) Qx 19 [(0, .ref b0), (1, .int y1), (2, .int y2), (3, .int y3), (4, .int y4)] [] (Z, I, L, O) := by
  intro m
  induction m with
  | zero => intro b0 y1 y2 y3 y4 hZ_b0 h; rw [f12_dumb_c19] at h; cases h
  | succ m ih =>
    intro b0 y1 y2 y3 y4 hZ_b0 h
    rw [f12_dumb_c19] at h
    refine ok_iload dX12_dumb_19 4 rfl ?_
    refine ok_aload_n dX12_dumb_21 0 rfl ?_
    have hT1 : Z[(rO O b0 0)]? = some (13, 4371) := (wt_f (ci := 12) (k := 0) hW hZ_b0 rfl).2
    refine ok_getR (ci := 12) (k := 0) dX12_dumb_22 flRX12_7 rfl hW hZ_b0 (by decide) ?_
    refine ok_bipush (v := 114) dX12_dumb_25 (by decide) ?_
    refine ok_iload_n dX12_dumb_27 2 rfl ?_
    refine ok_iadd dX12_dumb_28 ?_
    obtain ⟨hg2, h⟩ := gd h
    refine ok_iald2 (N := ((114 : Int32) + y2).toNatClampNeg) dX12_dumb_29 hT1 hg2 rfl ?_
    refine ok_icmp_ge (t := 57) dX12_dumb_30 (by decide) (fun hc3 => ?_) (fun hc3 => ?_)
    · have h := (if_pos hc3).symm.trans h
      refine ok_iload_n dX12_dumb_57 1 rfl ?_
      refine ok_iload_n dX12_dumb_58 3 rfl ?_
      refine ok_if_eq (t := 68) dX12_dumb_59 (by decide) (fun hc4 => ?_) (fun hc4 => ?_)
      · have h := (if_pos hc4).symm.trans h
        refine ok_iconst (v := 0) dX12_dumb_68 (by decide) ?_
        refine ok_ior dX12_dumb_69 ?_
        refine ok_istore_n (l' := [(1, .int (y1 ||| 0)), (0, .ref b0), (2, .int y2), (3, .int y3), (4, .int y4)]) dX12_dumb_70 rfl (Nat.le_of_ble_eq_true rfl) rfl ?_
        refine ok_iinc (u := (y2 + 1)) (l' := [(2, .int (y2 + 1)), (1, .int (y1 ||| 0)), (0, .ref b0), (3, .int y3), (4, .int y4)]) dX12_dumb_71 2 rfl rfl (Nat.le_of_ble_eq_true rfl) rfl ?_
        refine ok_goto (t := 4) dX12_dumb_74 (by decide) ?_
        refine ok_sub [2, 1, 0] rfl ?_
        exact hk4 b0 (y1 ||| 0) (y2 + 1) hZ_b0 h
      · have h := (if_neg hc4).symm.trans h
        refine ok_iconst (v := 1) dX12_dumb_62 (by decide) ?_
        refine ok_iload_n dX12_dumb_63 2 rfl ?_
        refine ok_ishl dX12_dumb_64 ?_
        refine ok_goto (t := 69) dX12_dumb_65 (by decide) ?_
        refine ok_ior dX12_dumb_69 ?_
        obtain ⟨z5, ez5, h⟩ := blE h
        refine ok_nm ez5 ?_
        refine ok_istore_n (l' := [(1, .int z5), (0, .ref b0), (2, .int y2), (3, .int y3), (4, .int y4)]) dX12_dumb_70 rfl (Nat.le_of_ble_eq_true rfl) rfl ?_
        refine ok_iinc (u := (y2 + 1)) (l' := [(2, .int (y2 + 1)), (1, .int z5), (0, .ref b0), (3, .int y3), (4, .int y4)]) dX12_dumb_71 2 rfl rfl (Nat.le_of_ble_eq_true rfl) rfl ?_
        refine ok_goto (t := 4) dX12_dumb_74 (by decide) ?_
        refine ok_sub [2, 1, 0] rfl ?_
        exact hk4 b0 z5 (y2 + 1) hZ_b0 h
    · have h := (if_neg hc3).symm.trans h
      refine ok_iload_n dX12_dumb_33 3 rfl ?_
      refine ok_aload_n dX12_dumb_34 0 rfl ?_
      refine ok_iload_n dX12_dumb_35 2 rfl ?_
      refine ok_iload dX12_dumb_36 4 rfl ?_
      obtain ⟨r6, hr7, h⟩ := bd h
      refine ok_callV (d := ((d + 0) + 4)) (mt := m12_isHole) (mc := 0) (ms := 0) (As := [.int y2, .int y4]) (r := [.int y3]) dX12_dumb_38 mo12_isHole mv12_isHole lkRX12_331 rfl hZ_b0 (q := (RX12, TX12, 34)) rfl rfl rfl (Nat.le_of_ble_eq_true rfl) (by show _ + 1 ≤ d + _; omega) (Nat.le_refl _) (Nat.le_refl _) (pRt_mono ?_)
      refine k12_isHole (d + 0) hW hZ_b0 hr7 ?_
      intro hbr6
      show Ok g _ Qx 41 [(0, .ref b0), (1, .int y1), (2, .int y2), (3, .int y3), (4, .int y4)] [.int r6, .int y3] (Z, I, L, O)
      refine ok_if_ne (t := 48) dX12_dumb_41 (by decide) (fun hc8 => ?_) (fun hc8 => ?_)
      · have h := (if_neg hc8).symm.trans h
        refine ok_iconst (v := 0) dX12_dumb_48 (by decide) ?_
        refine ok_iand dX12_dumb_49 ?_
        refine ok_istore_n (l' := [(3, .int (y3 &&& 0)), (0, .ref b0), (1, .int y1), (2, .int y2), (4, .int y4)]) dX12_dumb_50 rfl (Nat.le_of_ble_eq_true rfl) rfl ?_
        refine ok_iinc (u := (y4 + 1)) (l' := [(4, .int (y4 + 1)), (3, .int (y3 &&& 0)), (0, .ref b0), (1, .int y1), (2, .int y2)]) dX12_dumb_51 4 rfl rfl (Nat.le_of_ble_eq_true rfl) rfl ?_
        refine ok_goto (t := 19) dX12_dumb_54 (by decide) ?_
        refine ok_sub [2, 3, 4, 1, 0] rfl ?_
        exact ih b0 y1 y2 (y3 &&& 0) (y4 + 1) hZ_b0 h
      · have h := (if_pos hc8).symm.trans h
        refine ok_iconst (v := 1) dX12_dumb_44 (by decide) ?_
        refine ok_goto (t := 49) dX12_dumb_45 (by decide) ?_
        refine ok_iand dX12_dumb_49 ?_
        refine ok_istore_n (l' := [(3, .int (y3 &&& 1)), (0, .ref b0), (1, .int y1), (2, .int y2), (4, .int y4)]) dX12_dumb_50 rfl (Nat.le_of_ble_eq_true rfl) rfl ?_
        refine ok_iinc (u := (y4 + 1)) (l' := [(4, .int (y4 + 1)), (3, .int (y3 &&& 1)), (0, .ref b0), (1, .int y1), (2, .int y2)]) dX12_dumb_51 4 rfl rfl (Nat.le_of_ble_eq_true rfl) rfl ?_
        refine ok_goto (t := 19) dX12_dumb_54 (by decide) ?_
        refine ok_sub [2, 3, 4, 1, 0] rfl ?_
        exact ih b0 y1 y2 (y3 &&& 1) (y4 + 1) hZ_b0 h
def f12_dumb_c4 (n : Nat) (I : (Nat → Nat → Int32)) (O : (Nat → Nat → Option Nat)) : Nat → Nat → Int32 → Int32 → Option (Int32)
  | 0, _, _, _ => none
  | m + 1, b0, y1, y2 => (if (I (rO O b0 0) 0) ≤ y2 then some (y1) else f12_dumb_c19 n I O (f12_dumb_c4 n I O m) n b0 y1 y2 (1 : Int32) (0 : Int32))
set_option maxHeartbeats 4000000 in
set_option maxRecDepth 20000 in
theorem o12_dumb_c4 {g : pG} {Qx : Option Value → pW → Prop} {Z : pZ} {I : (Nat → Nat → Int32)} {L : (Nat → Nat → Int64)} {O : (Nat → Nat → Option Nat)} {n : Nat} {res : Int32} (d : Nat) (hW : WT Z O) (hQ : Qx (some (.int res)) (Z, I, L, O)) : ∀ (m : Nat) (b0 : Nat) (y1 : Int32) (y2 : Int32), (Z[b0]? = some (12, 34)) → f12_dumb_c4 n I O m b0 y1 y2 = some res → Ok g (d + 5, RX12, cX12_dumb, 5, false, 0, 0, Z.length, pSl Z) Qx 4 [(0, .ref b0), (1, .int y1), (2, .int y2)] [] (Z, I, L, O) := by
  intro m
  induction m with
  | zero => intro b0 y1 y2 hZ_b0 h; rw [f12_dumb_c4] at h; cases h
  | succ m ih =>
    intro b0 y1 y2 hZ_b0 h
    rw [f12_dumb_c4] at h
    refine ok_iload_n dX12_dumb_4 2 rfl ?_
    refine ok_aload_n dX12_dumb_5 0 rfl ?_
    have hT1 : Z[(rO O b0 0)]? = some (13, 4371) := (wt_f (ci := 12) (k := 0) hW hZ_b0 rfl).2
    refine ok_getR (ci := 12) (k := 0) dX12_dumb_6 flRX12_7 rfl hW hZ_b0 (by decide) ?_
    refine ok_iconst (v := 0) dX12_dumb_9 (by decide) ?_
    refine ok_iald2 (N := 0) dX12_dumb_10 hT1 (by unfold vp_in; decide) (by decide) ?_
    refine ok_icmp_ge (t := 77) dX12_dumb_11 (by decide) (fun hc2 => ?_) (fun hc2 => ?_)
    · have h := (if_pos hc2).symm.trans h
      refine ok_iload_n dX12_dumb_77 1 rfl ?_
      cases h
      exact ok_iret dX12_dumb_78 hQ
    · have h := (if_neg hc2).symm.trans h
      refine ok_iconst (v := 1) dX12_dumb_14 (by decide) ?_
      refine ok_istore_n (l' := [(3, .int 1), (0, .ref b0), (1, .int y1), (2, .int y2)]) dX12_dumb_15 rfl (Nat.le_of_ble_eq_true rfl) rfl ?_
      refine ok_iconst (v := 0) dX12_dumb_16 (by decide) ?_
      refine ok_istore (l' := [(4, .int 0), (3, .int 1), (0, .ref b0), (1, .int y1), (2, .int y2)]) dX12_dumb_17 (Nat.le_of_ble_eq_true rfl) rfl ?_
      refine ok_sub [2, 3, 4, 1, 0] rfl ?_
      exact o12_dumb_c19 d hW hQ ih n b0 y1 y2 (1 : Int32) (0 : Int32) hZ_b0 h
def f12_dumb (n : Nat) (I : (Nat → Nat → Int32)) (O : (Nat → Nat → Option Nat)) (a0 : Nat) : Option (Int32) := f12_dumb_c4 n I O n a0 (0 : Int32) (0 : Int32)
set_option maxHeartbeats 4000000 in
set_option maxRecDepth 20000 in
theorem o12_dumb {g : pG} {Qx : Option Value → pW → Prop} {Z : pZ} {I : (Nat → Nat → Int32)} {L : (Nat → Nat → Int64)} {O : (Nat → Nat → Option Nat)} {n : Nat} {a0 : Nat} {res : Int32} (d : Nat) (hW : WT Z O) (hZ0 : Z[a0]? = some (12, 34)) (h : f12_dumb n I O a0 = some res) (hQ : Qx (some (.int res)) (Z, I, L, O)) : Ok g (d + 5, RX12, cX12_dumb, 5, false, 0, 0, Z.length, pSl Z) Qx 0 [(0, .ref a0)] [] (Z, I, L, O) := by
  unfold f12_dumb at h
  refine ok_iconst (v := 0) dX12_dumb_0 (by decide) ?_
  refine ok_istore_n (l' := [(1, .int 0), (0, .ref a0)]) dX12_dumb_1 rfl (Nat.le_of_ble_eq_true rfl) rfl ?_
  refine ok_iconst (v := 0) dX12_dumb_2 (by decide) ?_
  refine ok_istore_n (l' := [(2, .int 0), (1, .int 0), (0, .ref a0)]) dX12_dumb_3 rfl (Nat.le_of_ble_eq_true rfl) rfl ?_
  refine ok_sub [2, 1, 0] rfl ?_
  exact o12_dumb_c4 d hW hQ  n a0 (0 : Int32) (0 : Int32) hZ0 h
theorem k12_dumb {g : pG} {Q : Option Value → pW → Prop} {Z : pZ} {I : (Nat → Nat → Int32)} {L : (Nat → Nat → Int64)} {O : (Nat → Nat → Option Nat)} {n : Nat} {a0 : Nat} {res : Int32} (d : Nat) (hW : WT Z O) (hZ0 : Z[a0]? = some (12, 34)) (h : f12_dumb n I O a0 = some res) (hQ : Q (some (.int res)) (Z, I, L, O)) : CT g (d + 5) m12_dumb 0 0 [.ref a0] (Z, I, L, O) Q :=
  ct_of_ok (mt := m12_dumb) (ini := false) mo12_dumb.2.2.2.2 (fun h => by cases h) (Nat.le_of_ble_eq_true rfl) (o12_dumb d hW hZ0 h ⟨trivial, hQ, rfl, rfl⟩)
theorem dX12_foretold_0 : decode cX12_foretold 0 = .ok (.iload_n 1, 1) := by decide +kernel
theorem dX12_foretold_1 : decode cX12_foretold 1 = .ok (.iconst 1, 1) := by decide +kernel
theorem dX12_foretold_2 : decode cX12_foretold 2 = .ok (.bipush 60, 2) := by decide +kernel
theorem dX12_foretold_4 : decode cX12_foretold 4 = .ok (.invokestatic 75, 3) := by decide +kernel
theorem dX12_foretold_7 : decode cX12_foretold 7 = .ok (.ifCond .eq 20, 3) := by decide +kernel
theorem dX12_foretold_10 : decode cX12_foretold 10 = .ok (.aload_n 0, 1) := by decide +kernel
theorem dX12_foretold_11 : decode cX12_foretold 11 = .ok (.iload_n 2, 1) := by decide +kernel
theorem dX12_foretold_12 : decode cX12_foretold 12 = .ok (.invokevirtual 353, 3) := by decide +kernel
theorem dX12_foretold_15 : decode cX12_foretold 15 = .ok (.ifCond .eq 12, 3) := by decide +kernel
theorem dX12_foretold_18 : decode cX12_foretold 18 = .ok (.iload_n 3, 1) := by decide +kernel
theorem dX12_foretold_19 : decode cX12_foretold 19 = .ok (.iconst 1, 1) := by decide +kernel
theorem dX12_foretold_20 : decode cX12_foretold 20 = .ok (.iconst 5, 1) := by decide +kernel
theorem dX12_foretold_21 : decode cX12_foretold 21 = .ok (.invokestatic 75, 3) := by decide +kernel
theorem dX12_foretold_24 : decode cX12_foretold 24 = .ok (.ifCond .ne 5, 3) := by decide +kernel
theorem dX12_foretold_27 : decode cX12_foretold 27 = .ok (.iconst (-1), 1) := by decide +kernel
theorem dX12_foretold_28 : decode cX12_foretold 28 = .ok (.ireturn, 1) := by decide +kernel
theorem dX12_foretold_29 : decode cX12_foretold 29 = .ok (.bipush 7, 2) := by decide +kernel
theorem dX12_foretold_31 : decode cX12_foretold 31 = .ok (.istore 4, 2) := by decide +kernel
theorem dX12_foretold_33 : decode cX12_foretold 33 = .ok (.iload 4, 2) := by decide +kernel
theorem dX12_foretold_35 : decode cX12_foretold 35 = .ok (.bipush 114, 2) := by decide +kernel
theorem dX12_foretold_37 : decode cX12_foretold 37 = .ok (.if_icmp .ge 23, 3) := by decide +kernel
theorem dX12_foretold_40 : decode cX12_foretold 40 = .ok (.aload_n 0, 1) := by decide +kernel
theorem dX12_foretold_41 : decode cX12_foretold 41 = .ok (.getfield 47, 3) := by decide +kernel
theorem dX12_foretold_44 : decode cX12_foretold 44 = .ok (.iload 4, 2) := by decide +kernel
theorem dX12_foretold_46 : decode cX12_foretold 46 = .ok (.aload_n 0, 1) := by decide +kernel
theorem dX12_foretold_47 : decode cX12_foretold 47 = .ok (.getfield 7, 3) := by decide +kernel
theorem dX12_foretold_50 : decode cX12_foretold 50 = .ok (.iload 4, 2) := by decide +kernel
theorem dX12_foretold_52 : decode cX12_foretold 52 = .ok (.iaload, 1) := by decide +kernel
theorem dX12_foretold_53 : decode cX12_foretold 53 = .ok (.iastore, 1) := by decide +kernel
theorem dX12_foretold_54 : decode cX12_foretold 54 = .ok (.iinc 4 1, 3) := by decide +kernel
theorem dX12_foretold_57 : decode cX12_foretold 57 = .ok (.goto (-24), 3) := by decide +kernel
theorem dX12_foretold_60 : decode cX12_foretold 60 = .ok (.aload_n 0, 1) := by decide +kernel
theorem dX12_foretold_61 : decode cX12_foretold 61 = .ok (.iconst 0, 1) := by decide +kernel
theorem dX12_foretold_62 : decode cX12_foretold 62 = .ok (.putfield 43, 3) := by decide +kernel
theorem dX12_foretold_65 : decode cX12_foretold 65 = .ok (.iconst 0, 1) := by decide +kernel
theorem dX12_foretold_66 : decode cX12_foretold 66 = .ok (.istore 4, 2) := by decide +kernel
theorem dX12_foretold_68 : decode cX12_foretold 68 = .ok (.iload 4, 2) := by decide +kernel
theorem dX12_foretold_70 : decode cX12_foretold 70 = .ok (.iload_n 1, 1) := by decide +kernel
theorem dX12_foretold_71 : decode cX12_foretold 71 = .ok (.if_icmp .ge 26, 3) := by decide +kernel
theorem dX12_foretold_74 : decode cX12_foretold 74 = .ok (.aload_n 0, 1) := by decide +kernel
theorem dX12_foretold_75 : decode cX12_foretold 75 = .ok (.getfield 7, 3) := by decide +kernel
theorem dX12_foretold_78 : decode cX12_foretold 78 = .ok (.bipush 7, 2) := by decide +kernel
theorem dX12_foretold_80 : decode cX12_foretold 80 = .ok (.iaload, 1) := by decide +kernel
theorem dX12_foretold_81 : decode cX12_foretold 81 = .ok (.sipush 9999, 3) := by decide +kernel
theorem dX12_foretold_84 : decode cX12_foretold 84 = .ok (.if_icmp .ge 7, 3) := by decide +kernel
theorem dX12_foretold_87 : decode cX12_foretold 87 = .ok (.aload_n 0, 1) := by decide +kernel
theorem dX12_foretold_88 : decode cX12_foretold 88 = .ok (.invokevirtual 365, 3) := by decide +kernel
theorem dX12_foretold_91 : decode cX12_foretold 91 = .ok (.iinc 4 1, 3) := by decide +kernel
theorem dX12_foretold_94 : decode cX12_foretold 94 = .ok (.goto (-26), 3) := by decide +kernel
theorem dX12_foretold_97 : decode cX12_foretold 97 = .ok (.aload_n 0, 1) := by decide +kernel
theorem dX12_foretold_98 : decode cX12_foretold 98 = .ok (.iload_n 2, 1) := by decide +kernel
theorem dX12_foretold_99 : decode cX12_foretold 99 = .ok (.iload_n 3, 1) := by decide +kernel
theorem dX12_foretold_100 : decode cX12_foretold 100 = .ok (.invokevirtual 306, 3) := by decide +kernel
theorem dX12_foretold_103 : decode cX12_foretold 103 = .ok (.istore 4, 2) := by decide +kernel
theorem dX12_foretold_105 : decode cX12_foretold 105 = .ok (.bipush 7, 2) := by decide +kernel
theorem dX12_foretold_107 : decode cX12_foretold 107 = .ok (.istore 5, 2) := by decide +kernel
theorem dX12_foretold_109 : decode cX12_foretold 109 = .ok (.iload 5, 2) := by decide +kernel
theorem dX12_foretold_111 : decode cX12_foretold 111 = .ok (.bipush 114, 2) := by decide +kernel
theorem dX12_foretold_113 : decode cX12_foretold 113 = .ok (.if_icmp .ge 23, 3) := by decide +kernel
theorem dX12_foretold_116 : decode cX12_foretold 116 = .ok (.aload_n 0, 1) := by decide +kernel
theorem dX12_foretold_117 : decode cX12_foretold 117 = .ok (.getfield 7, 3) := by decide +kernel
theorem dX12_foretold_120 : decode cX12_foretold 120 = .ok (.iload 5, 2) := by decide +kernel
theorem dX12_foretold_122 : decode cX12_foretold 122 = .ok (.aload_n 0, 1) := by decide +kernel
theorem dX12_foretold_123 : decode cX12_foretold 123 = .ok (.getfield 47, 3) := by decide +kernel
theorem dX12_foretold_126 : decode cX12_foretold 126 = .ok (.iload 5, 2) := by decide +kernel
theorem dX12_foretold_128 : decode cX12_foretold 128 = .ok (.iaload, 1) := by decide +kernel
theorem dX12_foretold_129 : decode cX12_foretold 129 = .ok (.iastore, 1) := by decide +kernel
theorem dX12_foretold_130 : decode cX12_foretold 130 = .ok (.iinc 5 1, 3) := by decide +kernel
theorem dX12_foretold_133 : decode cX12_foretold 133 = .ok (.goto (-24), 3) := by decide +kernel
theorem dX12_foretold_136 : decode cX12_foretold 136 = .ok (.aload_n 0, 1) := by decide +kernel
theorem dX12_foretold_137 : decode cX12_foretold 137 = .ok (.iconst 1, 1) := by decide +kernel
theorem dX12_foretold_138 : decode cX12_foretold 138 = .ok (.putfield 43, 3) := by decide +kernel
theorem dX12_foretold_141 : decode cX12_foretold 141 = .ok (.iload 4, 2) := by decide +kernel
theorem dX12_foretold_143 : decode cX12_foretold 143 = .ok (.ireturn, 1) := by decide +kernel
def m12_foretold : pMT := (yX12_foretold, cX12_foretold, 6, some .int)
theorem mo12_foretold : mOK m12_foretold 3 := ⟨tb_i 1843 (by decide +kernel), wi_RX12, ⟨wn_RX12.1, wn_RX12.2, by decide +kernel⟩, by decide, plainFor_of_name wp_RX12⟩
theorem mv12_foretold : mV m12_foretold := ⟨tb_i 1841 (by decide +kernel), tb_i 1842 (by decide +kernel)⟩
def f12_foretold_c109 (n : Nat) (O : (Nat → Nat → Option Nat)) : Nat → (Nat → Nat → Int32) → (Nat → Nat → Int64) → Nat → Int32 → Int32 → Option (Int32 × (Nat → Nat → Int32) × (Nat → Nat → Int64))
  | 0, _, _, _, _, _ => none
  | m + 1, I, L, b0, y4, y5 => (if (114 : Int32) ≤ y5 then bl (sI I b0 23 (1 : Int32)) fun I2 => some (y4, I2, L) else (if y5 < 0 ∨ 114 ≤ y5.toNatClampNeg then none else (if y5 < 0 ∨ 4371 ≤ y5.toNatClampNeg then none else bl (sI I (rO O b0 0) y5.toNatClampNeg (I (rO O b0 25) y5.toNatClampNeg)) fun I7 => f12_foretold_c109 n O m I7 L b0 y4 (y5 + 1))))
set_option maxHeartbeats 4000000 in
set_option maxRecDepth 20000 in
theorem o12_foretold_c109 {g : pG} {Qx : Option Value → pW → Prop} {Z : pZ} {O : (Nat → Nat → Option Nat)} {n : Nat} {res : Int32 × (Nat → Nat → Int32) × (Nat → Nat → Int64)} (d : Nat) (hW : WT Z O) (hQ : Qx (some (.int res.1)) (Z, res.2.1, res.2.2, O)) : ∀ (m : Nat) (I : (Nat → Nat → Int32)) (L : (Nat → Nat → Int64)) (b0 : Nat) (y4 : Int32) (y5 : Int32), (Z[b0]? = some (12, 34)) → f12_foretold_c109 n O m I L b0 y4 y5 = some res → Ok g (d + 11, RX12, cX12_foretold, 6, false, 0, 0, Z.length, pSl Z) Qx 109 [(0, .ref b0), (4, .int y4), (5, .int y5)] [] (Z, I, L, O) := by
  intro m
  induction m with
  | zero => intro I L b0 y4 y5 hZ_b0 h; rw [f12_foretold_c109] at h; cases h
  | succ m ih =>
    intro I L b0 y4 y5 hZ_b0 h
    rw [f12_foretold_c109] at h
    refine ok_iload dX12_foretold_109 2 rfl ?_
    refine ok_bipush (v := 114) dX12_foretold_111 (by decide) ?_
    refine ok_icmp_ge (t := 136) dX12_foretold_113 (by decide) (fun hc1 => ?_) (fun hc1 => ?_)
    · have h := (if_pos hc1).symm.trans h
      refine ok_aload_n dX12_foretold_136 0 rfl ?_
      refine ok_iconst (v := 1) dX12_foretold_137 (by decide) ?_
      obtain ⟨I2, eI2, h⟩ := blE h
      refine ok_putZ2 (ci := 12) (k := 23) dX12_foretold_138 flRX12_43 rfl (Or.inl rfl) hZ_b0 (by decide) (Or.inr rfl) eI2 ?_
      refine ok_iload dX12_foretold_141 1 rfl ?_
      cases h
      exact ok_iret dX12_foretold_143 hQ
    · have h := (if_neg hc1).symm.trans h
      refine ok_aload_n dX12_foretold_116 0 rfl ?_
      have hT3 : Z[(rO O b0 0)]? = some (13, 4371) := (wt_f (ci := 12) (k := 0) hW hZ_b0 rfl).2
      refine ok_getR (ci := 12) (k := 0) dX12_foretold_117 flRX12_7 rfl hW hZ_b0 (by decide) ?_
      refine ok_iload dX12_foretold_120 2 rfl ?_
      refine ok_aload_n dX12_foretold_122 0 rfl ?_
      have hT4 : Z[(rO O b0 25)]? = some (13, 114) := (wt_f (ci := 12) (k := 25) hW hZ_b0 rfl).2
      refine ok_getR (ci := 12) (k := 25) dX12_foretold_123 flRX12_47 rfl hW hZ_b0 (by decide) ?_
      refine ok_iload dX12_foretold_126 2 rfl ?_
      obtain ⟨hg5, h⟩ := gd h
      refine ok_iald2 (N := y5.toNatClampNeg) dX12_foretold_128 hT4 hg5 rfl ?_
      obtain ⟨hg6, h⟩ := gd h
      obtain ⟨I7, eI7, h⟩ := blE h
      refine ok_iast3 dX12_foretold_129 hT3 hg6 rfl eI7 ?_
      refine ok_iinc (u := (y5 + 1)) (l' := [(5, .int (y5 + 1)), (0, .ref b0), (4, .int y4)]) dX12_foretold_130 2 rfl rfl (Nat.le_of_ble_eq_true rfl) rfl ?_
      refine ok_goto (t := 109) dX12_foretold_133 (by decide) ?_
      refine ok_sub [1, 2, 0] rfl ?_
      exact ih I7 L b0 y4 (y5 + 1) hZ_b0 h
def f12_foretold_c68 (n : Nat) (O : (Nat → Nat → Option Nat)) : Nat → (Nat → Nat → Int32) → (Nat → Nat → Int64) → Nat → Int32 → Int32 → Int32 → Int32 → Option (Int32 × (Nat → Nat → Int32) × (Nat → Nat → Int64))
  | 0, _, _, _, _, _, _, _ => none
  | m + 1, I, L, b0, y1, y2, y3, y4 => (if y1 ≤ y4 then (f12_heardBy I O b0 y2 y3).bind fun r2 => f12_foretold_c109 n O n I L b0 r2 (7 : Int32) else (if (9999 : Int32) ≤ (I (rO O b0 0) 7) then f12_foretold_c68 n O m I L b0 y1 y2 y3 (y4 + 1) else (f12_pass n I L O b0).bind fun r6 => f12_foretold_c68 n O m r6.1 r6.2 b0 y1 y2 y3 (y4 + 1)))
set_option maxHeartbeats 4000000 in
set_option maxRecDepth 20000 in
theorem o12_foretold_c68 {g : pG} {Qx : Option Value → pW → Prop} {Z : pZ} {O : (Nat → Nat → Option Nat)} {n : Nat} {res : Int32 × (Nat → Nat → Int32) × (Nat → Nat → Int64)} (d : Nat) (hW : WT Z O) (hQ : Qx (some (.int res.1)) (Z, res.2.1, res.2.2, O)) : ∀ (m : Nat) (I : (Nat → Nat → Int32)) (L : (Nat → Nat → Int64)) (b0 : Nat) (y1 : Int32) (y2 : Int32) (y3 : Int32) (y4 : Int32), (Z[b0]? = some (12, 34)) → f12_foretold_c68 n O m I L b0 y1 y2 y3 y4 = some res → Ok g (d + 11, RX12, cX12_foretold, 6, false, 0, 0, Z.length, pSl Z) Qx 68 [(0, .ref b0), (1, .int y1), (2, .int y2), (3, .int y3), (4, .int y4)] [] (Z, I, L, O) := by
  intro m
  induction m with
  | zero => intro I L b0 y1 y2 y3 y4 hZ_b0 h; rw [f12_foretold_c68] at h; cases h
  | succ m ih =>
    intro I L b0 y1 y2 y3 y4 hZ_b0 h
    rw [f12_foretold_c68] at h
    refine ok_iload dX12_foretold_68 4 rfl ?_
    refine ok_iload_n dX12_foretold_70 1 rfl ?_
    refine ok_icmp_ge (t := 97) dX12_foretold_71 (by decide) (fun hc1 => ?_) (fun hc1 => ?_)
    · have h := (if_pos hc1).symm.trans h
      refine ok_aload_n dX12_foretold_97 0 rfl ?_
      refine ok_iload_n dX12_foretold_98 2 rfl ?_
      refine ok_iload_n dX12_foretold_99 3 rfl ?_
      obtain ⟨r2, hr3, h⟩ := bd h
      refine ok_callV (d := ((d + 8) + 2)) (mt := m12_heardBy) (mc := 0) (ms := 0) (As := [.int y2, .int y3]) (r := []) dX12_foretold_100 mo12_heardBy mv12_heardBy lkRX12_306 rfl hZ_b0 (q := (RX12, TX12, 34)) rfl rfl rfl (Nat.le_of_ble_eq_true rfl) (by show _ + 1 ≤ d + _; omega) (Nat.le_refl _) (Nat.le_refl _) (pRt_mono ?_)
      refine k12_heardBy (d + 8) hW hZ_b0 hr3 ?_
      intro _
      show Ok g _ Qx 103 [(0, .ref b0), (1, .int y1), (2, .int y2), (3, .int y3), (4, .int y4)] [.int r2] (Z, I, L, O)
      refine ok_istore (l' := [(4, .int r2), (0, .ref b0), (1, .int y1), (2, .int y2), (3, .int y3)]) dX12_foretold_103 (Nat.le_of_ble_eq_true rfl) rfl ?_
      refine ok_bipush (v := 7) dX12_foretold_105 (by decide) ?_
      refine ok_istore (l' := [(5, .int 7), (4, .int r2), (0, .ref b0), (1, .int y1), (2, .int y2), (3, .int y3)]) dX12_foretold_107 (Nat.le_of_ble_eq_true rfl) rfl ?_
      refine ok_sub [2, 1, 0] rfl ?_
      exact o12_foretold_c109 d hW hQ  n I L b0 r2 (7 : Int32) hZ_b0 h
    · have h := (if_neg hc1).symm.trans h
      refine ok_aload_n dX12_foretold_74 0 rfl ?_
      have hT4 : Z[(rO O b0 0)]? = some (13, 4371) := (wt_f (ci := 12) (k := 0) hW hZ_b0 rfl).2
      refine ok_getR (ci := 12) (k := 0) dX12_foretold_75 flRX12_7 rfl hW hZ_b0 (by decide) ?_
      refine ok_bipush (v := 7) dX12_foretold_78 (by decide) ?_
      refine ok_iald2 (N := 7) dX12_foretold_80 hT4 (by unfold vp_in; decide) (by decide) ?_
      refine ok_sipush (v := 9999) dX12_foretold_81 (by decide) ?_
      refine ok_icmp_ge (t := 91) dX12_foretold_84 (by decide) (fun hc5 => ?_) (fun hc5 => ?_)
      · have h := (if_pos hc5).symm.trans h
        refine ok_iinc (u := (y4 + 1)) (l' := [(4, .int (y4 + 1)), (0, .ref b0), (1, .int y1), (2, .int y2), (3, .int y3)]) dX12_foretold_91 4 rfl rfl (Nat.le_of_ble_eq_true rfl) rfl ?_
        refine ok_goto (t := 68) dX12_foretold_94 (by decide) ?_
        refine ok_sub [1, 2, 3, 4, 0] rfl ?_
        exact ih I L b0 y1 y2 y3 (y4 + 1) hZ_b0 h
      · have h := (if_neg hc5).symm.trans h
        refine ok_aload_n dX12_foretold_87 0 rfl ?_
        obtain ⟨r6, hr7, h⟩ := bd h
        refine ok_callV (d := ((d + 0) + 10)) (mt := m12_pass) (mc := 0) (ms := 0) (As := []) (r := []) dX12_foretold_88 mo12_pass mv12_pass lkRX12_365 rfl hZ_b0 (q := (RX12, TX12, 34)) rfl rfl rfl (Nat.le_of_ble_eq_true rfl) (by show _ + 1 ≤ d + _; omega) (Nat.le_refl _) (Nat.le_refl _) (pRt_mono ?_)
        refine k12_pass (d + 0) hW hZ_b0 hr7 ?_
        intro _
        show Ok g _ Qx 91 [(0, .ref b0), (1, .int y1), (2, .int y2), (3, .int y3), (4, .int y4)] [] (Z, r6.1, r6.2, O)
        refine ok_iinc (u := (y4 + 1)) (l' := [(4, .int (y4 + 1)), (0, .ref b0), (1, .int y1), (2, .int y2), (3, .int y3)]) dX12_foretold_91 4 rfl rfl (Nat.le_of_ble_eq_true rfl) rfl ?_
        refine ok_goto (t := 68) dX12_foretold_94 (by decide) ?_
        refine ok_sub [1, 2, 3, 4, 0] rfl ?_
        exact ih r6.1 r6.2 b0 y1 y2 y3 (y4 + 1) hZ_b0 h
def f12_foretold_c33 (n : Nat) (O : (Nat → Nat → Option Nat)) : Nat → (Nat → Nat → Int32) → (Nat → Nat → Int64) → Nat → Int32 → Int32 → Int32 → Int32 → Option (Int32 × (Nat → Nat → Int32) × (Nat → Nat → Int64))
  | 0, _, _, _, _, _, _, _ => none
  | m + 1, I, L, b0, y1, y2, y3, y4 => (if (114 : Int32) ≤ y4 then bl (sI I b0 23 (0 : Int32)) fun I2 => f12_foretold_c68 n O n I2 L b0 y1 y2 y3 (0 : Int32) else (if y4 < 0 ∨ 4371 ≤ y4.toNatClampNeg then none else (if y4 < 0 ∨ 114 ≤ y4.toNatClampNeg then none else bl (sI I (rO O b0 25) y4.toNatClampNeg (I (rO O b0 0) y4.toNatClampNeg)) fun I7 => f12_foretold_c33 n O m I7 L b0 y1 y2 y3 (y4 + 1))))
set_option maxHeartbeats 4000000 in
set_option maxRecDepth 20000 in
theorem o12_foretold_c33 {g : pG} {Qx : Option Value → pW → Prop} {Z : pZ} {O : (Nat → Nat → Option Nat)} {n : Nat} {res : Int32 × (Nat → Nat → Int32) × (Nat → Nat → Int64)} (d : Nat) (hW : WT Z O) (hQ : Qx (some (.int res.1)) (Z, res.2.1, res.2.2, O)) : ∀ (m : Nat) (I : (Nat → Nat → Int32)) (L : (Nat → Nat → Int64)) (b0 : Nat) (y1 : Int32) (y2 : Int32) (y3 : Int32) (y4 : Int32), (Z[b0]? = some (12, 34)) → f12_foretold_c33 n O m I L b0 y1 y2 y3 y4 = some res → Ok g (d + 11, RX12, cX12_foretold, 6, false, 0, 0, Z.length, pSl Z) Qx 33 [(0, .ref b0), (1, .int y1), (2, .int y2), (3, .int y3), (4, .int y4)] [] (Z, I, L, O) := by
  intro m
  induction m with
  | zero => intro I L b0 y1 y2 y3 y4 hZ_b0 h; rw [f12_foretold_c33] at h; cases h
  | succ m ih =>
    intro I L b0 y1 y2 y3 y4 hZ_b0 h
    rw [f12_foretold_c33] at h
    refine ok_iload dX12_foretold_33 4 rfl ?_
    refine ok_bipush (v := 114) dX12_foretold_35 (by decide) ?_
    refine ok_icmp_ge (t := 60) dX12_foretold_37 (by decide) (fun hc1 => ?_) (fun hc1 => ?_)
    · have h := (if_pos hc1).symm.trans h
      refine ok_aload_n dX12_foretold_60 0 rfl ?_
      refine ok_iconst (v := 0) dX12_foretold_61 (by decide) ?_
      obtain ⟨I2, eI2, h⟩ := blE h
      refine ok_putZ2 (ci := 12) (k := 23) dX12_foretold_62 flRX12_43 rfl (Or.inl rfl) hZ_b0 (by decide) (Or.inl rfl) eI2 ?_
      refine ok_iconst (v := 0) dX12_foretold_65 (by decide) ?_
      refine ok_istore (l' := [(4, .int 0), (0, .ref b0), (1, .int y1), (2, .int y2), (3, .int y3)]) dX12_foretold_66 (Nat.le_of_ble_eq_true rfl) rfl ?_
      refine ok_sub [1, 2, 3, 4, 0] rfl ?_
      exact o12_foretold_c68 d hW hQ  n I2 L b0 y1 y2 y3 (0 : Int32) hZ_b0 h
    · have h := (if_neg hc1).symm.trans h
      refine ok_aload_n dX12_foretold_40 0 rfl ?_
      have hT3 : Z[(rO O b0 25)]? = some (13, 114) := (wt_f (ci := 12) (k := 25) hW hZ_b0 rfl).2
      refine ok_getR (ci := 12) (k := 25) dX12_foretold_41 flRX12_47 rfl hW hZ_b0 (by decide) ?_
      refine ok_iload dX12_foretold_44 4 rfl ?_
      refine ok_aload_n dX12_foretold_46 0 rfl ?_
      have hT4 : Z[(rO O b0 0)]? = some (13, 4371) := (wt_f (ci := 12) (k := 0) hW hZ_b0 rfl).2
      refine ok_getR (ci := 12) (k := 0) dX12_foretold_47 flRX12_7 rfl hW hZ_b0 (by decide) ?_
      refine ok_iload dX12_foretold_50 4 rfl ?_
      obtain ⟨hg5, h⟩ := gd h
      refine ok_iald2 (N := y4.toNatClampNeg) dX12_foretold_52 hT4 hg5 rfl ?_
      obtain ⟨hg6, h⟩ := gd h
      obtain ⟨I7, eI7, h⟩ := blE h
      refine ok_iast3 dX12_foretold_53 hT3 hg6 rfl eI7 ?_
      refine ok_iinc (u := (y4 + 1)) (l' := [(4, .int (y4 + 1)), (0, .ref b0), (1, .int y1), (2, .int y2), (3, .int y3)]) dX12_foretold_54 4 rfl rfl (Nat.le_of_ble_eq_true rfl) rfl ?_
      refine ok_goto (t := 33) dX12_foretold_57 (by decide) ?_
      refine ok_sub [1, 2, 3, 4, 0] rfl ?_
      exact ih I7 L b0 y1 y2 y3 (y4 + 1) hZ_b0 h
def f12_foretold (n : Nat) (I : (Nat → Nat → Int32)) (L : (Nat → Nat → Int64)) (O : (Nat → Nat → Option Nat)) (a0 : Nat) (x1 : Int32) (x2 : Int32) (x3 : Int32) : Option (Int32 × (Nat → Nat → Int32) × (Nat → Nat → Int64)) := (f12_isIn x1 (1 : Int32) (60 : Int32)).bind fun r1 => (if r1 = 0 then some (((-1) : Int32), I, L) else (f12_isChild I O a0 x2).bind fun r4 => (if r4 = 0 then some (((-1) : Int32), I, L) else (f12_isIn x3 (1 : Int32) (5 : Int32)).bind fun r7 => (if r7 = 0 then some (((-1) : Int32), I, L) else f12_foretold_c33 n O n I L a0 x1 x2 x3 (7 : Int32))))
set_option maxHeartbeats 4000000 in
set_option maxRecDepth 20000 in
theorem o12_foretold {g : pG} {Qx : Option Value → pW → Prop} {Z : pZ} {I : (Nat → Nat → Int32)} {L : (Nat → Nat → Int64)} {O : (Nat → Nat → Option Nat)} {n : Nat} {a0 : Nat} {x1 : Int32} {x2 : Int32} {x3 : Int32} {res : Int32 × (Nat → Nat → Int32) × (Nat → Nat → Int64)} (d : Nat) (hW : WT Z O) (hZ0 : Z[a0]? = some (12, 34)) (h : f12_foretold n I L O a0 x1 x2 x3 = some res) (hQ : Qx (some (.int res.1)) (Z, res.2.1, res.2.2, O)) : Ok g (d + 11, RX12, cX12_foretold, 6, false, 0, 0, Z.length, pSl Z) Qx 0 [(0, .ref a0), (1, .int x1), (2, .int x2), (3, .int x3)] [] (Z, I, L, O) := by
  unfold f12_foretold at h
  refine ok_iload_n dX12_foretold_0 1 rfl ?_
  refine ok_iconst (v := 1) dX12_foretold_1 (by decide) ?_
  refine ok_bipush (v := 60) dX12_foretold_2 (by decide) ?_
  obtain ⟨r1, hr2, h⟩ := bd h
  refine ok_callS (d := ((d + 8) + 2)) (mt := m12_isIn) (mc := 0) (ms := 0) (As := [.int x1, .int 1, .int 60]) (r := []) dX12_foretold_4 mo12_isIn mv12_isIn lkRX12_75 rfl rfl (Nat.le_of_ble_eq_true rfl) (by show _ + 1 ≤ d + _; omega) (Nat.le_refl _) (Nat.le_refl _) (pRt_mono ?_)
  refine k12_isIn (d + 8) hW  hr2 ?_
  intro hbr1
  show Ok g _ Qx 7 [(0, .ref a0), (1, .int x1), (2, .int x2), (3, .int x3)] [.int r1] (Z, I, L, O)
  refine ok_if_eq (t := 27) dX12_foretold_7 (by decide) (fun hc3 => ?_) (fun hc3 => ?_)
  · have h := (if_pos hc3).symm.trans h
    refine ok_iconst (v := (-1)) dX12_foretold_27 (by decide) ?_
    cases h
    exact ok_iret dX12_foretold_28 hQ
  · have h := (if_neg hc3).symm.trans h
    refine ok_aload_n dX12_foretold_10 0 rfl ?_
    refine ok_iload_n dX12_foretold_11 2 rfl ?_
    obtain ⟨r4, hr5, h⟩ := bd h
    refine ok_callV (d := ((d + 7) + 3)) (mt := m12_isChild) (mc := 0) (ms := 0) (As := [.int x2]) (r := []) dX12_foretold_12 mo12_isChild mv12_isChild lkRX12_353 rfl hZ0 (q := (RX12, TX12, 34)) rfl rfl rfl (Nat.le_of_ble_eq_true rfl) (by show _ + 1 ≤ d + _; omega) (Nat.le_refl _) (Nat.le_refl _) (pRt_mono ?_)
    refine k12_isChild (d + 7) hW hZ0 hr5 ?_
    intro hbr4
    show Ok g _ Qx 15 [(0, .ref a0), (1, .int x1), (2, .int x2), (3, .int x3)] [.int r4] (Z, I, L, O)
    refine ok_if_eq (t := 27) dX12_foretold_15 (by decide) (fun hc6 => ?_) (fun hc6 => ?_)
    · have h := (if_pos hc6).symm.trans h
      refine ok_iconst (v := (-1)) dX12_foretold_27 (by decide) ?_
      cases h
      exact ok_iret dX12_foretold_28 hQ
    · have h := (if_neg hc6).symm.trans h
      refine ok_iload_n dX12_foretold_18 3 rfl ?_
      refine ok_iconst (v := 1) dX12_foretold_19 (by decide) ?_
      refine ok_iconst (v := 5) dX12_foretold_20 (by decide) ?_
      obtain ⟨r7, hr8, h⟩ := bd h
      refine ok_callS (d := ((d + 8) + 2)) (mt := m12_isIn) (mc := 0) (ms := 0) (As := [.int x3, .int 1, .int 5]) (r := []) dX12_foretold_21 mo12_isIn mv12_isIn lkRX12_75 rfl rfl (Nat.le_of_ble_eq_true rfl) (by show _ + 1 ≤ d + _; omega) (Nat.le_refl _) (Nat.le_refl _) (pRt_mono ?_)
      refine k12_isIn (d + 8) hW  hr8 ?_
      intro hbr7
      show Ok g _ Qx 24 [(0, .ref a0), (1, .int x1), (2, .int x2), (3, .int x3)] [.int r7] (Z, I, L, O)
      refine ok_if_ne (t := 29) dX12_foretold_24 (by decide) (fun hc9 => ?_) (fun hc9 => ?_)
      · have h := (if_neg hc9).symm.trans h
        refine ok_bipush (v := 7) dX12_foretold_29 (by decide) ?_
        refine ok_istore (l' := [(4, .int 7), (0, .ref a0), (1, .int x1), (2, .int x2), (3, .int x3)]) dX12_foretold_31 (Nat.le_of_ble_eq_true rfl) rfl ?_
        refine ok_sub [1, 2, 3, 4, 0] rfl ?_
        exact o12_foretold_c33 d hW hQ  n I L a0 x1 x2 x3 (7 : Int32) hZ0 h
      · have h := (if_pos hc9).symm.trans h
        refine ok_iconst (v := (-1)) dX12_foretold_27 (by decide) ?_
        cases h
        exact ok_iret dX12_foretold_28 hQ
theorem k12_foretold {g : pG} {Q : Option Value → pW → Prop} {Z : pZ} {I : (Nat → Nat → Int32)} {L : (Nat → Nat → Int64)} {O : (Nat → Nat → Option Nat)} {n : Nat} {a0 : Nat} {x1 : Int32} {x2 : Int32} {x3 : Int32} {res : Int32 × (Nat → Nat → Int32) × (Nat → Nat → Int64)} (d : Nat) (hW : WT Z O) (hZ0 : Z[a0]? = some (12, 34)) (h : f12_foretold n I L O a0 x1 x2 x3 = some res) (hQ : Q (some (.int res.1)) (Z, res.2.1, res.2.2, O)) : CT g (d + 11) m12_foretold 0 0 [.ref a0, .int x1, .int x2, .int x3] (Z, I, L, O) Q :=
  ct_of_ok (mt := m12_foretold) (ini := false) mo12_foretold.2.2.2.2 (fun h => by cases h) (Nat.le_of_ble_eq_true rfl) (o12_foretold d hW hZ0 h ⟨trivial, hQ, rfl, rfl⟩)
theorem dX12_changesOf_0 : decode cX12_changesOf 0 = .ok (.aload_n 0, 1) := by decide +kernel
theorem dX12_changesOf_1 : decode cX12_changesOf 1 = .ok (.getfield 7, 3) := by decide +kernel
theorem dX12_changesOf_4 : decode cX12_changesOf 4 = .ok (.bipush 114, 2) := by decide +kernel
theorem dX12_changesOf_6 : decode cX12_changesOf 6 = .ok (.iload_n 1, 1) := by decide +kernel
theorem dX12_changesOf_7 : decode cX12_changesOf 7 = .ok (.iadd, 1) := by decide +kernel
theorem dX12_changesOf_8 : decode cX12_changesOf 8 = .ok (.iaload, 1) := by decide +kernel
theorem dX12_changesOf_9 : decode cX12_changesOf 9 = .ok (.istore_n 3, 1) := by decide +kernel
theorem dX12_changesOf_10 : decode cX12_changesOf 10 = .ok (.aload_n 0, 1) := by decide +kernel
theorem dX12_changesOf_11 : decode cX12_changesOf 11 = .ok (.getfield 7, 3) := by decide +kernel
theorem dX12_changesOf_14 : decode cX12_changesOf 14 = .ok (.bipush 114, 2) := by decide +kernel
theorem dX12_changesOf_16 : decode cX12_changesOf 16 = .ok (.iload_n 2, 1) := by decide +kernel
theorem dX12_changesOf_17 : decode cX12_changesOf 17 = .ok (.iadd, 1) := by decide +kernel
theorem dX12_changesOf_18 : decode cX12_changesOf 18 = .ok (.iaload, 1) := by decide +kernel
theorem dX12_changesOf_19 : decode cX12_changesOf 19 = .ok (.istore 4, 2) := by decide +kernel
theorem dX12_changesOf_21 : decode cX12_changesOf 21 = .ok (.iload_n 3, 1) := by decide +kernel
theorem dX12_changesOf_22 : decode cX12_changesOf 22 = .ok (.istore 5, 2) := by decide +kernel
theorem dX12_changesOf_24 : decode cX12_changesOf 24 = .ok (.iload 5, 2) := by decide +kernel
theorem dX12_changesOf_26 : decode cX12_changesOf 26 = .ok (.ifCond .lt 204, 3) := by decide +kernel
theorem dX12_changesOf_29 : decode cX12_changesOf 29 = .ok (.iload 4, 2) := by decide +kernel
theorem dX12_changesOf_31 : decode cX12_changesOf 31 = .ok (.istore 6, 2) := by decide +kernel
theorem dX12_changesOf_33 : decode cX12_changesOf 33 = .ok (.iload 6, 2) := by decide +kernel
theorem dX12_changesOf_35 : decode cX12_changesOf 35 = .ok (.ifCond .lt 189, 3) := by decide +kernel
theorem dX12_changesOf_38 : decode cX12_changesOf 38 = .ok (.iload 5, 2) := by decide +kernel
theorem dX12_changesOf_40 : decode cX12_changesOf 40 = .ok (.iload_n 3, 1) := by decide +kernel
theorem dX12_changesOf_41 : decode cX12_changesOf 41 = .ok (.if_icmp .ne 11, 3) := by decide +kernel
theorem dX12_changesOf_44 : decode cX12_changesOf 44 = .ok (.iload 4, 2) := by decide +kernel
theorem dX12_changesOf_46 : decode cX12_changesOf 46 = .ok (.iload 6, 2) := by decide +kernel
theorem dX12_changesOf_48 : decode cX12_changesOf 48 = .ok (.isub, 1) := by decide +kernel
theorem dX12_changesOf_49 : decode cX12_changesOf 49 = .ok (.goto 7, 3) := by decide +kernel
theorem dX12_changesOf_52 : decode cX12_changesOf 52 = .ok (.iload_n 3, 1) := by decide +kernel
theorem dX12_changesOf_53 : decode cX12_changesOf 53 = .ok (.iload 5, 2) := by decide +kernel
theorem dX12_changesOf_55 : decode cX12_changesOf 55 = .ok (.isub, 1) := by decide +kernel
theorem dX12_changesOf_56 : decode cX12_changesOf 56 = .ok (.istore 7, 2) := by decide +kernel
theorem dX12_changesOf_58 : decode cX12_changesOf 58 = .ok (.iload 5, 2) := by decide +kernel
theorem dX12_changesOf_60 : decode cX12_changesOf 60 = .ok (.iload_n 3, 1) := by decide +kernel
theorem dX12_changesOf_61 : decode cX12_changesOf 61 = .ok (.if_icmp .ge 142, 3) := by decide +kernel
theorem dX12_changesOf_64 : decode cX12_changesOf 64 = .ok (.iload 6, 2) := by decide +kernel
theorem dX12_changesOf_66 : decode cX12_changesOf 66 = .ok (.iload 4, 2) := by decide +kernel
theorem dX12_changesOf_68 : decode cX12_changesOf 68 = .ok (.if_icmp .ge 135, 3) := by decide +kernel
theorem dX12_changesOf_71 : decode cX12_changesOf 71 = .ok (.aload_n 0, 1) := by decide +kernel
theorem dX12_changesOf_72 : decode cX12_changesOf 72 = .ok (.getfield 50, 3) := by decide +kernel
theorem dX12_changesOf_75 : decode cX12_changesOf 75 = .ok (.bipush 17, 2) := by decide +kernel
theorem dX12_changesOf_77 : decode cX12_changesOf 77 = .ok (.iload 5, 2) := by decide +kernel
theorem dX12_changesOf_79 : decode cX12_changesOf 79 = .ok (.iconst 1, 1) := by decide +kernel
theorem dX12_changesOf_80 : decode cX12_changesOf 80 = .ok (.iadd, 1) := by decide +kernel
theorem dX12_changesOf_81 : decode cX12_changesOf 81 = .ok (.imul, 1) := by decide +kernel
theorem dX12_changesOf_82 : decode cX12_changesOf 82 = .ok (.iload 6, 2) := by decide +kernel
theorem dX12_changesOf_84 : decode cX12_changesOf 84 = .ok (.iadd, 1) := by decide +kernel
theorem dX12_changesOf_85 : decode cX12_changesOf 85 = .ok (.iconst 1, 1) := by decide +kernel
theorem dX12_changesOf_86 : decode cX12_changesOf 86 = .ok (.iadd, 1) := by decide +kernel
theorem dX12_changesOf_87 : decode cX12_changesOf 87 = .ok (.iaload, 1) := by decide +kernel
theorem dX12_changesOf_88 : decode cX12_changesOf 88 = .ok (.aload_n 0, 1) := by decide +kernel
theorem dX12_changesOf_89 : decode cX12_changesOf 89 = .ok (.iload_n 1, 1) := by decide +kernel
theorem dX12_changesOf_90 : decode cX12_changesOf 90 = .ok (.iload 5, 2) := by decide +kernel
theorem dX12_changesOf_92 : decode cX12_changesOf 92 = .ok (.invokevirtual 90, 3) := by decide +kernel
theorem dX12_changesOf_95 : decode cX12_changesOf 95 = .ok (.ifCond .ne 30, 3) := by decide +kernel
theorem dX12_changesOf_98 : decode cX12_changesOf 98 = .ok (.aload_n 0, 1) := by decide +kernel
theorem dX12_changesOf_99 : decode cX12_changesOf 99 = .ok (.iload_n 2, 1) := by decide +kernel
theorem dX12_changesOf_100 : decode cX12_changesOf 100 = .ok (.iload 6, 2) := by decide +kernel
theorem dX12_changesOf_102 : decode cX12_changesOf 102 = .ok (.invokevirtual 90, 3) := by decide +kernel
theorem dX12_changesOf_105 : decode cX12_changesOf 105 = .ok (.ifCond .ne 20, 3) := by decide +kernel
theorem dX12_changesOf_108 : decode cX12_changesOf 108 = .ok (.aload_n 0, 1) := by decide +kernel
theorem dX12_changesOf_109 : decode cX12_changesOf 109 = .ok (.iload_n 1, 1) := by decide +kernel
theorem dX12_changesOf_110 : decode cX12_changesOf 110 = .ok (.iload 5, 2) := by decide +kernel
theorem dX12_changesOf_112 : decode cX12_changesOf 112 = .ok (.invokevirtual 87, 3) := by decide +kernel
theorem dX12_changesOf_115 : decode cX12_changesOf 115 = .ok (.aload_n 0, 1) := by decide +kernel
theorem dX12_changesOf_116 : decode cX12_changesOf 116 = .ok (.iload_n 2, 1) := by decide +kernel
theorem dX12_changesOf_117 : decode cX12_changesOf 117 = .ok (.iload 6, 2) := by decide +kernel
theorem dX12_changesOf_119 : decode cX12_changesOf 119 = .ok (.invokevirtual 87, 3) := by decide +kernel
theorem dX12_changesOf_122 : decode cX12_changesOf 122 = .ok (.if_icmp .ne 7, 3) := by decide +kernel
theorem dX12_changesOf_125 : decode cX12_changesOf 125 = .ok (.iconst 0, 1) := by decide +kernel
theorem dX12_changesOf_126 : decode cX12_changesOf 126 = .ok (.goto 4, 3) := by decide +kernel
theorem dX12_changesOf_129 : decode cX12_changesOf 129 = .ok (.iconst 1, 1) := by decide +kernel
theorem dX12_changesOf_130 : decode cX12_changesOf 130 = .ok (.iadd, 1) := by decide +kernel
theorem dX12_changesOf_131 : decode cX12_changesOf 131 = .ok (.istore 8, 2) := by decide +kernel
theorem dX12_changesOf_133 : decode cX12_changesOf 133 = .ok (.aload_n 0, 1) := by decide +kernel
theorem dX12_changesOf_134 : decode cX12_changesOf 134 = .ok (.getfield 50, 3) := by decide +kernel
theorem dX12_changesOf_137 : decode cX12_changesOf 137 = .ok (.bipush 17, 2) := by decide +kernel
theorem dX12_changesOf_139 : decode cX12_changesOf 139 = .ok (.iload 5, 2) := by decide +kernel
theorem dX12_changesOf_141 : decode cX12_changesOf 141 = .ok (.iconst 1, 1) := by decide +kernel
theorem dX12_changesOf_142 : decode cX12_changesOf 142 = .ok (.iadd, 1) := by decide +kernel
theorem dX12_changesOf_143 : decode cX12_changesOf 143 = .ok (.imul, 1) := by decide +kernel
theorem dX12_changesOf_144 : decode cX12_changesOf 144 = .ok (.iload 6, 2) := by decide +kernel
theorem dX12_changesOf_146 : decode cX12_changesOf 146 = .ok (.iadd, 1) := by decide +kernel
theorem dX12_changesOf_147 : decode cX12_changesOf 147 = .ok (.iaload, 1) := by decide +kernel
theorem dX12_changesOf_148 : decode cX12_changesOf 148 = .ok (.iconst 1, 1) := by decide +kernel
theorem dX12_changesOf_149 : decode cX12_changesOf 149 = .ok (.iadd, 1) := by decide +kernel
theorem dX12_changesOf_150 : decode cX12_changesOf 150 = .ok (.istore 9, 2) := by decide +kernel
theorem dX12_changesOf_152 : decode cX12_changesOf 152 = .ok (.aload_n 0, 1) := by decide +kernel
theorem dX12_changesOf_153 : decode cX12_changesOf 153 = .ok (.getfield 50, 3) := by decide +kernel
theorem dX12_changesOf_156 : decode cX12_changesOf 156 = .ok (.bipush 17, 2) := by decide +kernel
theorem dX12_changesOf_158 : decode cX12_changesOf 158 = .ok (.iload 5, 2) := by decide +kernel
theorem dX12_changesOf_160 : decode cX12_changesOf 160 = .ok (.imul, 1) := by decide +kernel
theorem dX12_changesOf_161 : decode cX12_changesOf 161 = .ok (.iload 6, 2) := by decide +kernel
theorem dX12_changesOf_163 : decode cX12_changesOf 163 = .ok (.iadd, 1) := by decide +kernel
theorem dX12_changesOf_164 : decode cX12_changesOf 164 = .ok (.iconst 1, 1) := by decide +kernel
theorem dX12_changesOf_165 : decode cX12_changesOf 165 = .ok (.iadd, 1) := by decide +kernel
theorem dX12_changesOf_166 : decode cX12_changesOf 166 = .ok (.iaload, 1) := by decide +kernel
theorem dX12_changesOf_167 : decode cX12_changesOf 167 = .ok (.iconst 1, 1) := by decide +kernel
theorem dX12_changesOf_168 : decode cX12_changesOf 168 = .ok (.iadd, 1) := by decide +kernel
theorem dX12_changesOf_169 : decode cX12_changesOf 169 = .ok (.istore 10, 2) := by decide +kernel
theorem dX12_changesOf_171 : decode cX12_changesOf 171 = .ok (.iload 8, 2) := by decide +kernel
theorem dX12_changesOf_173 : decode cX12_changesOf 173 = .ok (.iload 9, 2) := by decide +kernel
theorem dX12_changesOf_175 : decode cX12_changesOf 175 = .ok (.if_icmp .ge 8, 3) := by decide +kernel
theorem dX12_changesOf_178 : decode cX12_changesOf 178 = .ok (.iload 8, 2) := by decide +kernel
theorem dX12_changesOf_180 : decode cX12_changesOf 180 = .ok (.goto 5, 3) := by decide +kernel
theorem dX12_changesOf_183 : decode cX12_changesOf 183 = .ok (.iload 9, 2) := by decide +kernel
theorem dX12_changesOf_185 : decode cX12_changesOf 185 = .ok (.istore 7, 2) := by decide +kernel
theorem dX12_changesOf_187 : decode cX12_changesOf 187 = .ok (.iload 10, 2) := by decide +kernel
theorem dX12_changesOf_189 : decode cX12_changesOf 189 = .ok (.iload 7, 2) := by decide +kernel
theorem dX12_changesOf_191 : decode cX12_changesOf 191 = .ok (.if_icmp .ge 8, 3) := by decide +kernel
theorem dX12_changesOf_194 : decode cX12_changesOf 194 = .ok (.iload 10, 2) := by decide +kernel
theorem dX12_changesOf_196 : decode cX12_changesOf 196 = .ok (.goto 5, 3) := by decide +kernel
theorem dX12_changesOf_199 : decode cX12_changesOf 199 = .ok (.iload 7, 2) := by decide +kernel
theorem dX12_changesOf_201 : decode cX12_changesOf 201 = .ok (.istore 7, 2) := by decide +kernel
theorem dX12_changesOf_203 : decode cX12_changesOf 203 = .ok (.aload_n 0, 1) := by decide +kernel
theorem dX12_changesOf_204 : decode cX12_changesOf 204 = .ok (.getfield 50, 3) := by decide +kernel
theorem dX12_changesOf_207 : decode cX12_changesOf 207 = .ok (.bipush 17, 2) := by decide +kernel
theorem dX12_changesOf_209 : decode cX12_changesOf 209 = .ok (.iload 5, 2) := by decide +kernel
theorem dX12_changesOf_211 : decode cX12_changesOf 211 = .ok (.imul, 1) := by decide +kernel
theorem dX12_changesOf_212 : decode cX12_changesOf 212 = .ok (.iload 6, 2) := by decide +kernel
theorem dX12_changesOf_214 : decode cX12_changesOf 214 = .ok (.iadd, 1) := by decide +kernel
theorem dX12_changesOf_215 : decode cX12_changesOf 215 = .ok (.iload 7, 2) := by decide +kernel
theorem dX12_changesOf_217 : decode cX12_changesOf 217 = .ok (.iastore, 1) := by decide +kernel
theorem dX12_changesOf_218 : decode cX12_changesOf 218 = .ok (.iinc 6 (-1), 3) := by decide +kernel
theorem dX12_changesOf_221 : decode cX12_changesOf 221 = .ok (.goto (-188), 3) := by decide +kernel
theorem dX12_changesOf_224 : decode cX12_changesOf 224 = .ok (.iinc 5 (-1), 3) := by decide +kernel
theorem dX12_changesOf_227 : decode cX12_changesOf 227 = .ok (.goto (-203), 3) := by decide +kernel
theorem dX12_changesOf_230 : decode cX12_changesOf 230 = .ok (.aload_n 0, 1) := by decide +kernel
theorem dX12_changesOf_231 : decode cX12_changesOf 231 = .ok (.getfield 50, 3) := by decide +kernel
theorem dX12_changesOf_234 : decode cX12_changesOf 234 = .ok (.iconst 0, 1) := by decide +kernel
theorem dX12_changesOf_235 : decode cX12_changesOf 235 = .ok (.iaload, 1) := by decide +kernel
theorem dX12_changesOf_236 : decode cX12_changesOf 236 = .ok (.ireturn, 1) := by decide +kernel
def m12_changesOf : pMT := (yX12_changesOf, cX12_changesOf, 11, some .int)
theorem mo12_changesOf : mOK m12_changesOf 2 := ⟨tb_i 1851 (by decide +kernel), wi_RX12, ⟨wn_RX12.1, wn_RX12.2, by decide +kernel⟩, by decide, plainFor_of_name wp_RX12⟩
theorem mv12_changesOf : mV m12_changesOf := ⟨tb_i 1850 (by decide +kernel), tb_p 122 (by decide +kernel)⟩
def f12_changesOf_c203 (n : Nat) (O : (Nat → Nat → Option Nat)) (k24 : ((Nat → Nat → Int32) → Nat → Int32 → Int32 → Int32 → Int32 → Int32 → Option (Int32 × (Nat → Nat → Int32)))) (k33 : ((Nat → Nat → Int32) → Nat → Int32 → Int32 → Int32 → Int32 → Int32 → Int32 → Option (Int32 × (Nat → Nat → Int32)))) (I : (Nat → Nat → Int32)) (b0 : Nat) (y1 : Int32) (y2 : Int32) (y3 : Int32) (y4 : Int32) (y5 : Int32) (y6 : Int32) (y7 : Int32) : Option (Int32 × (Nat → Nat → Int32)) := (if (((17 : Int32) * y5) + y6) < 0 ∨ 289 ≤ (((17 : Int32) * y5) + y6).toNatClampNeg then none else bl (sI I (rO O b0 26) (((17 : Int32) * y5) + y6).toNatClampNeg y7) fun I3 => k33 I3 b0 y1 y2 y3 y4 y5 (y6 + (-1)))
set_option maxHeartbeats 4000000 in
set_option maxRecDepth 20000 in
theorem o12_changesOf_c203 {g : pG} {Qx : Option Value → pW → Prop} {Z : pZ} {L : (Nat → Nat → Int64)} {O : (Nat → Nat → Option Nat)} {n : Nat} {k24 : ((Nat → Nat → Int32) → Nat → Int32 → Int32 → Int32 → Int32 → Int32 → Option (Int32 × (Nat → Nat → Int32)))} {k33 : ((Nat → Nat → Int32) → Nat → Int32 → Int32 → Int32 → Int32 → Int32 → Int32 → Option (Int32 × (Nat → Nat → Int32)))} {res : Int32 × (Nat → Nat → Int32)} (d : Nat) (hW : WT Z O) (hQ : Qx (some (.int res.1)) (Z, res.2, L, O)) (hk24 : ∀ (I : (Nat → Nat → Int32)) (b0 : Nat) (y1 : Int32) (y2 : Int32) (y3 : Int32) (y4 : Int32) (y5 : Int32), (Z[b0]? = some (12, 34)) → k24 I b0 y1 y2 y3 y4 y5 = some res → Ok g (d + 4, RX12, cX12_changesOf, 11, false, 0, 0, Z.length, pSl Z) Qx 24 [(0, .ref b0), (1, .int y1), (2, .int y2), (3, .int y3), (4, .int y4), (5, .int y5)] [] (Z, I, L, O)) (hk33 : ∀ (I : (Nat → Nat → Int32)) (b0 : Nat) (y1 : Int32) (y2 : Int32) (y3 : Int32) (y4 : Int32) (y5 : Int32) (y6 : Int32), (Z[b0]? = some (12, 34)) → k33 I b0 y1 y2 y3 y4 y5 y6 = some res → Ok g (d + 4, RX12, cX12_changesOf, 11, false, 0, 0, Z.length, pSl Z) Qx 33 [(0, .ref b0), (1, .int y1), (2, .int y2), (3, .int y3), (4, .int y4), (5, .int y5), (6, .int y6)] [] (Z, I, L, O)) (I : (Nat → Nat → Int32)) (b0 : Nat) (y1 : Int32) (y2 : Int32) (y3 : Int32) (y4 : Int32) (y5 : Int32) (y6 : Int32) (y7 : Int32) (hZ_b0 : Z[b0]? = some (12, 34)) (h : f12_changesOf_c203 n O k24 k33 I b0 y1 y2 y3 y4 y5 y6 y7 = some res) : Ok g (d + 4, RX12, cX12_changesOf, 11, false, 0, 0, Z.length, pSl Z) Qx 203 [(0, .ref b0), (1, .int y1), (2, .int y2), (3, .int y3), (4, .int y4), (5, .int y5), (6, .int y6), (7, .int y7)] [] (Z, I, L, O) := by
  unfold f12_changesOf_c203 at h
  refine ok_aload_n dX12_changesOf_203 0 rfl ?_
  have hT1 : Z[(rO O b0 26)]? = some (13, 289) := (wt_f (ci := 12) (k := 26) hW hZ_b0 rfl).2
  refine ok_getR (ci := 12) (k := 26) dX12_changesOf_204 flRX12_50 rfl hW hZ_b0 (by decide) ?_
  refine ok_bipush (v := 17) dX12_changesOf_207 (by decide) ?_
  refine ok_iload dX12_changesOf_209 5 rfl ?_
  refine ok_imul dX12_changesOf_211 ?_
  refine ok_iload dX12_changesOf_212 6 rfl ?_
  refine ok_iadd dX12_changesOf_214 ?_
  refine ok_iload dX12_changesOf_215 7 rfl ?_
  obtain ⟨hg2, h⟩ := gd h
  obtain ⟨I3, eI3, h⟩ := blE h
  refine ok_iast3 dX12_changesOf_217 hT1 hg2 rfl eI3 ?_
  refine ok_iinc (u := (y6 + (-1))) (l' := [(6, .int (y6 + (-1))), (0, .ref b0), (1, .int y1), (2, .int y2), (3, .int y3), (4, .int y4), (5, .int y5), (7, .int y7)]) dX12_changesOf_218 6 rfl rfl (Nat.le_of_ble_eq_true rfl) rfl ?_
  refine ok_goto (t := 33) dX12_changesOf_221 (by decide) ?_
  refine ok_sub [1, 2, 3, 4, 5, 6, 0] rfl ?_
  exact hk33 I3 b0 y1 y2 y3 y4 y5 (y6 + (-1)) hZ_b0 h
def f12_changesOf_c201 (n : Nat) (O : (Nat → Nat → Option Nat)) (k24 : ((Nat → Nat → Int32) → Nat → Int32 → Int32 → Int32 → Int32 → Int32 → Option (Int32 × (Nat → Nat → Int32)))) (k33 : ((Nat → Nat → Int32) → Nat → Int32 → Int32 → Int32 → Int32 → Int32 → Int32 → Option (Int32 × (Nat → Nat → Int32)))) (I : (Nat → Nat → Int32)) (b0 : Nat) (y1 : Int32) (y2 : Int32) (y3 : Int32) (y4 : Int32) (y5 : Int32) (y6 : Int32) (t0 : Int32) : Option (Int32 × (Nat → Nat → Int32)) := f12_changesOf_c203 n O k24 k33 I b0 y1 y2 y3 y4 y5 y6 t0
set_option maxHeartbeats 4000000 in
set_option maxRecDepth 20000 in
theorem o12_changesOf_c201 {g : pG} {Qx : Option Value → pW → Prop} {Z : pZ} {L : (Nat → Nat → Int64)} {O : (Nat → Nat → Option Nat)} {n : Nat} {k24 : ((Nat → Nat → Int32) → Nat → Int32 → Int32 → Int32 → Int32 → Int32 → Option (Int32 × (Nat → Nat → Int32)))} {k33 : ((Nat → Nat → Int32) → Nat → Int32 → Int32 → Int32 → Int32 → Int32 → Int32 → Option (Int32 × (Nat → Nat → Int32)))} {res : Int32 × (Nat → Nat → Int32)} (d : Nat) (hW : WT Z O) (hQ : Qx (some (.int res.1)) (Z, res.2, L, O)) (hk24 : ∀ (I : (Nat → Nat → Int32)) (b0 : Nat) (y1 : Int32) (y2 : Int32) (y3 : Int32) (y4 : Int32) (y5 : Int32), (Z[b0]? = some (12, 34)) → k24 I b0 y1 y2 y3 y4 y5 = some res → Ok g (d + 4, RX12, cX12_changesOf, 11, false, 0, 0, Z.length, pSl Z) Qx 24 [(0, .ref b0), (1, .int y1), (2, .int y2), (3, .int y3), (4, .int y4), (5, .int y5)] [] (Z, I, L, O)) (hk33 : ∀ (I : (Nat → Nat → Int32)) (b0 : Nat) (y1 : Int32) (y2 : Int32) (y3 : Int32) (y4 : Int32) (y5 : Int32) (y6 : Int32), (Z[b0]? = some (12, 34)) → k33 I b0 y1 y2 y3 y4 y5 y6 = some res → Ok g (d + 4, RX12, cX12_changesOf, 11, false, 0, 0, Z.length, pSl Z) Qx 33 [(0, .ref b0), (1, .int y1), (2, .int y2), (3, .int y3), (4, .int y4), (5, .int y5), (6, .int y6)] [] (Z, I, L, O)) (I : (Nat → Nat → Int32)) (b0 : Nat) (y1 : Int32) (y2 : Int32) (y3 : Int32) (y4 : Int32) (y5 : Int32) (y6 : Int32) (t0 : Int32) (hZ_b0 : Z[b0]? = some (12, 34)) (h : f12_changesOf_c201 n O k24 k33 I b0 y1 y2 y3 y4 y5 y6 t0 = some res) : Ok g (d + 4, RX12, cX12_changesOf, 11, false, 0, 0, Z.length, pSl Z) Qx 201 [(0, .ref b0), (1, .int y1), (2, .int y2), (3, .int y3), (4, .int y4), (5, .int y5), (6, .int y6)] [.int t0] (Z, I, L, O) := by
  unfold f12_changesOf_c201 at h
  refine ok_istore (l' := [(7, .int t0), (0, .ref b0), (1, .int y1), (2, .int y2), (3, .int y3), (4, .int y4), (5, .int y5), (6, .int y6)]) dX12_changesOf_201 (Nat.le_of_ble_eq_true rfl) rfl ?_
  refine ok_sub [1, 2, 3, 4, 5, 6, 7, 0] rfl ?_
  exact o12_changesOf_c203 d hW hQ hk24 hk33 I b0 y1 y2 y3 y4 y5 y6 t0 hZ_b0 h
def f12_changesOf_c185 (n : Nat) (O : (Nat → Nat → Option Nat)) (k24 : ((Nat → Nat → Int32) → Nat → Int32 → Int32 → Int32 → Int32 → Int32 → Option (Int32 × (Nat → Nat → Int32)))) (k33 : ((Nat → Nat → Int32) → Nat → Int32 → Int32 → Int32 → Int32 → Int32 → Int32 → Option (Int32 × (Nat → Nat → Int32)))) (I : (Nat → Nat → Int32)) (b0 : Nat) (y1 : Int32) (y2 : Int32) (y3 : Int32) (y4 : Int32) (y5 : Int32) (y6 : Int32) (y10 : Int32) (t0 : Int32) : Option (Int32 × (Nat → Nat → Int32)) := (if t0 ≤ y10 then f12_changesOf_c201 n O k24 k33 I b0 y1 y2 y3 y4 y5 y6 t0 else f12_changesOf_c201 n O k24 k33 I b0 y1 y2 y3 y4 y5 y6 y10)
set_option maxHeartbeats 4000000 in
set_option maxRecDepth 20000 in
theorem o12_changesOf_c185 {g : pG} {Qx : Option Value → pW → Prop} {Z : pZ} {L : (Nat → Nat → Int64)} {O : (Nat → Nat → Option Nat)} {n : Nat} {k24 : ((Nat → Nat → Int32) → Nat → Int32 → Int32 → Int32 → Int32 → Int32 → Option (Int32 × (Nat → Nat → Int32)))} {k33 : ((Nat → Nat → Int32) → Nat → Int32 → Int32 → Int32 → Int32 → Int32 → Int32 → Option (Int32 × (Nat → Nat → Int32)))} {res : Int32 × (Nat → Nat → Int32)} (d : Nat) (hW : WT Z O) (hQ : Qx (some (.int res.1)) (Z, res.2, L, O)) (hk24 : ∀ (I : (Nat → Nat → Int32)) (b0 : Nat) (y1 : Int32) (y2 : Int32) (y3 : Int32) (y4 : Int32) (y5 : Int32), (Z[b0]? = some (12, 34)) → k24 I b0 y1 y2 y3 y4 y5 = some res → Ok g (d + 4, RX12, cX12_changesOf, 11, false, 0, 0, Z.length, pSl Z) Qx 24 [(0, .ref b0), (1, .int y1), (2, .int y2), (3, .int y3), (4, .int y4), (5, .int y5)] [] (Z, I, L, O)) (hk33 : ∀ (I : (Nat → Nat → Int32)) (b0 : Nat) (y1 : Int32) (y2 : Int32) (y3 : Int32) (y4 : Int32) (y5 : Int32) (y6 : Int32), (Z[b0]? = some (12, 34)) → k33 I b0 y1 y2 y3 y4 y5 y6 = some res → Ok g (d + 4, RX12, cX12_changesOf, 11, false, 0, 0, Z.length, pSl Z) Qx 33 [(0, .ref b0), (1, .int y1), (2, .int y2), (3, .int y3), (4, .int y4), (5, .int y5), (6, .int y6)] [] (Z, I, L, O)) (I : (Nat → Nat → Int32)) (b0 : Nat) (y1 : Int32) (y2 : Int32) (y3 : Int32) (y4 : Int32) (y5 : Int32) (y6 : Int32) (y10 : Int32) (t0 : Int32) (hZ_b0 : Z[b0]? = some (12, 34)) (h : f12_changesOf_c185 n O k24 k33 I b0 y1 y2 y3 y4 y5 y6 y10 t0 = some res) : Ok g (d + 4, RX12, cX12_changesOf, 11, false, 0, 0, Z.length, pSl Z) Qx 185 [(0, .ref b0), (1, .int y1), (2, .int y2), (3, .int y3), (4, .int y4), (5, .int y5), (6, .int y6), (10, .int y10)] [.int t0] (Z, I, L, O) := by
  unfold f12_changesOf_c185 at h
  refine ok_istore (l' := [(7, .int t0), (0, .ref b0), (1, .int y1), (2, .int y2), (3, .int y3), (4, .int y4), (5, .int y5), (6, .int y6), (10, .int y10)]) dX12_changesOf_185 (Nat.le_of_ble_eq_true rfl) rfl ?_
  refine ok_iload dX12_changesOf_187 8 rfl ?_
  refine ok_iload dX12_changesOf_189 0 rfl ?_
  refine ok_icmp_ge (t := 199) dX12_changesOf_191 (by decide) (fun hc1 => ?_) (fun hc1 => ?_)
  · have h := (if_pos hc1).symm.trans h
    refine ok_iload dX12_changesOf_199 0 rfl ?_
    refine ok_sub [1, 2, 3, 4, 5, 6, 7] rfl ?_
    exact o12_changesOf_c201 d hW hQ hk24 hk33 I b0 y1 y2 y3 y4 y5 y6 t0 hZ_b0 h
  · have h := (if_neg hc1).symm.trans h
    refine ok_iload dX12_changesOf_194 8 rfl ?_
    refine ok_goto (t := 201) dX12_changesOf_196 (by decide) ?_
    refine ok_sub [1, 2, 3, 4, 5, 6, 7] rfl ?_
    exact o12_changesOf_c201 d hW hQ hk24 hk33 I b0 y1 y2 y3 y4 y5 y6 y10 hZ_b0 h
def f12_changesOf_c130 (n : Nat) (O : (Nat → Nat → Option Nat)) (k24 : ((Nat → Nat → Int32) → Nat → Int32 → Int32 → Int32 → Int32 → Int32 → Option (Int32 × (Nat → Nat → Int32)))) (k33 : ((Nat → Nat → Int32) → Nat → Int32 → Int32 → Int32 → Int32 → Int32 → Int32 → Option (Int32 × (Nat → Nat → Int32)))) (I : (Nat → Nat → Int32)) (b0 : Nat) (y1 : Int32) (y2 : Int32) (y3 : Int32) (y4 : Int32) (y5 : Int32) (y6 : Int32) (t0 : Int32) (t1 : Int32) : Option (Int32 × (Nat → Nat → Int32)) := (if (((17 : Int32) * (y5 + 1)) + y6) < 0 ∨ 289 ≤ (((17 : Int32) * (y5 + 1)) + y6).toNatClampNeg then none else bl (((I (rO O b0 26) (((17 : Int32) * (y5 + 1)) + y6).toNatClampNeg) + 1) : Int32) fun z3 => (if ((((17 : Int32) * y5) + y6) + 1) < 0 ∨ 289 ≤ ((((17 : Int32) * y5) + y6) + 1).toNatClampNeg then none else bl (((I (rO O b0 26) ((((17 : Int32) * y5) + y6) + 1).toNatClampNeg) + 1) : Int32) fun z5 => (if z3 ≤ (t1 + t0) then f12_changesOf_c185 n O k24 k33 I b0 y1 y2 y3 y4 y5 y6 z5 z3 else f12_changesOf_c185 n O k24 k33 I b0 y1 y2 y3 y4 y5 y6 z5 (t1 + t0))))
set_option maxHeartbeats 4000000 in
set_option maxRecDepth 20000 in
theorem o12_changesOf_c130 {g : pG} {Qx : Option Value → pW → Prop} {Z : pZ} {L : (Nat → Nat → Int64)} {O : (Nat → Nat → Option Nat)} {n : Nat} {k24 : ((Nat → Nat → Int32) → Nat → Int32 → Int32 → Int32 → Int32 → Int32 → Option (Int32 × (Nat → Nat → Int32)))} {k33 : ((Nat → Nat → Int32) → Nat → Int32 → Int32 → Int32 → Int32 → Int32 → Int32 → Option (Int32 × (Nat → Nat → Int32)))} {res : Int32 × (Nat → Nat → Int32)} (d : Nat) (hW : WT Z O) (hQ : Qx (some (.int res.1)) (Z, res.2, L, O)) (hk24 : ∀ (I : (Nat → Nat → Int32)) (b0 : Nat) (y1 : Int32) (y2 : Int32) (y3 : Int32) (y4 : Int32) (y5 : Int32), (Z[b0]? = some (12, 34)) → k24 I b0 y1 y2 y3 y4 y5 = some res → Ok g (d + 4, RX12, cX12_changesOf, 11, false, 0, 0, Z.length, pSl Z) Qx 24 [(0, .ref b0), (1, .int y1), (2, .int y2), (3, .int y3), (4, .int y4), (5, .int y5)] [] (Z, I, L, O)) (hk33 : ∀ (I : (Nat → Nat → Int32)) (b0 : Nat) (y1 : Int32) (y2 : Int32) (y3 : Int32) (y4 : Int32) (y5 : Int32) (y6 : Int32), (Z[b0]? = some (12, 34)) → k33 I b0 y1 y2 y3 y4 y5 y6 = some res → Ok g (d + 4, RX12, cX12_changesOf, 11, false, 0, 0, Z.length, pSl Z) Qx 33 [(0, .ref b0), (1, .int y1), (2, .int y2), (3, .int y3), (4, .int y4), (5, .int y5), (6, .int y6)] [] (Z, I, L, O)) (I : (Nat → Nat → Int32)) (b0 : Nat) (y1 : Int32) (y2 : Int32) (y3 : Int32) (y4 : Int32) (y5 : Int32) (y6 : Int32) (t0 : Int32) (t1 : Int32) (hZ_b0 : Z[b0]? = some (12, 34)) (h : f12_changesOf_c130 n O k24 k33 I b0 y1 y2 y3 y4 y5 y6 t0 t1 = some res) : Ok g (d + 4, RX12, cX12_changesOf, 11, false, 0, 0, Z.length, pSl Z) Qx 130 [(0, .ref b0), (1, .int y1), (2, .int y2), (3, .int y3), (4, .int y4), (5, .int y5), (6, .int y6)] [.int t0, .int t1] (Z, I, L, O) := by
  unfold f12_changesOf_c130 at h
  refine ok_iadd dX12_changesOf_130 ?_
  refine ok_istore (l' := [(8, .int (t1 + t0)), (0, .ref b0), (1, .int y1), (2, .int y2), (3, .int y3), (4, .int y4), (5, .int y5), (6, .int y6)]) dX12_changesOf_131 (Nat.le_of_ble_eq_true rfl) rfl ?_
  refine ok_aload_n dX12_changesOf_133 1 rfl ?_
  have hT1 : Z[(rO O b0 26)]? = some (13, 289) := (wt_f (ci := 12) (k := 26) hW hZ_b0 rfl).2
  refine ok_getR (ci := 12) (k := 26) dX12_changesOf_134 flRX12_50 rfl hW hZ_b0 (by decide) ?_
  refine ok_bipush (v := 17) dX12_changesOf_137 (by decide) ?_
  refine ok_iload dX12_changesOf_139 6 rfl ?_
  refine ok_iconst (v := 1) dX12_changesOf_141 (by decide) ?_
  refine ok_iadd dX12_changesOf_142 ?_
  refine ok_imul dX12_changesOf_143 ?_
  refine ok_iload dX12_changesOf_144 7 rfl ?_
  refine ok_iadd dX12_changesOf_146 ?_
  obtain ⟨hg2, h⟩ := gd h
  refine ok_iald2 (N := (((17 : Int32) * (y5 + 1)) + y6).toNatClampNeg) dX12_changesOf_147 hT1 hg2 rfl ?_
  refine ok_iconst (v := 1) dX12_changesOf_148 (by decide) ?_
  refine ok_iadd dX12_changesOf_149 ?_
  obtain ⟨z3, ez3, h⟩ := blE h
  refine ok_nm ez3 ?_
  refine ok_istore (l' := [(9, .int z3), (8, .int (t1 + t0)), (0, .ref b0), (1, .int y1), (2, .int y2), (3, .int y3), (4, .int y4), (5, .int y5), (6, .int y6)]) dX12_changesOf_150 (Nat.le_of_ble_eq_true rfl) rfl ?_
  refine ok_aload_n dX12_changesOf_152 2 rfl ?_
  refine ok_getR (ci := 12) (k := 26) dX12_changesOf_153 flRX12_50 rfl hW hZ_b0 (by decide) ?_
  refine ok_bipush (v := 17) dX12_changesOf_156 (by decide) ?_
  refine ok_iload dX12_changesOf_158 7 rfl ?_
  refine ok_imul dX12_changesOf_160 ?_
  refine ok_iload dX12_changesOf_161 8 rfl ?_
  refine ok_iadd dX12_changesOf_163 ?_
  refine ok_iconst (v := 1) dX12_changesOf_164 (by decide) ?_
  refine ok_iadd dX12_changesOf_165 ?_
  obtain ⟨hg4, h⟩ := gd h
  refine ok_iald2 (N := ((((17 : Int32) * y5) + y6) + 1).toNatClampNeg) dX12_changesOf_166 hT1 hg4 rfl ?_
  refine ok_iconst (v := 1) dX12_changesOf_167 (by decide) ?_
  refine ok_iadd dX12_changesOf_168 ?_
  obtain ⟨z5, ez5, h⟩ := blE h
  refine ok_nm ez5 ?_
  refine ok_istore (l' := [(10, .int z5), (9, .int z3), (8, .int (t1 + t0)), (0, .ref b0), (1, .int y1), (2, .int y2), (3, .int y3), (4, .int y4), (5, .int y5), (6, .int y6)]) dX12_changesOf_169 (Nat.le_of_ble_eq_true rfl) rfl ?_
  refine ok_iload dX12_changesOf_171 2 rfl ?_
  refine ok_iload dX12_changesOf_173 1 rfl ?_
  refine ok_icmp_ge (t := 183) dX12_changesOf_175 (by decide) (fun hc6 => ?_) (fun hc6 => ?_)
  · have h := (if_pos hc6).symm.trans h
    refine ok_iload dX12_changesOf_183 1 rfl ?_
    refine ok_sub [3, 4, 5, 6, 7, 8, 9, 0] rfl ?_
    exact o12_changesOf_c185 d hW hQ hk24 hk33 I b0 y1 y2 y3 y4 y5 y6 z5 z3 hZ_b0 h
  · have h := (if_neg hc6).symm.trans h
    refine ok_iload dX12_changesOf_178 2 rfl ?_
    refine ok_goto (t := 185) dX12_changesOf_180 (by decide) ?_
    refine ok_sub [3, 4, 5, 6, 7, 8, 9, 0] rfl ?_
    exact o12_changesOf_c185 d hW hQ hk24 hk33 I b0 y1 y2 y3 y4 y5 y6 z5 (t1 + t0) hZ_b0 h
def f12_changesOf_c125 (n : Nat) (O : (Nat → Nat → Option Nat)) (k24 : ((Nat → Nat → Int32) → Nat → Int32 → Int32 → Int32 → Int32 → Int32 → Option (Int32 × (Nat → Nat → Int32)))) (k33 : ((Nat → Nat → Int32) → Nat → Int32 → Int32 → Int32 → Int32 → Int32 → Int32 → Option (Int32 × (Nat → Nat → Int32)))) (I : (Nat → Nat → Int32)) (b0 : Nat) (y1 : Int32) (y2 : Int32) (y3 : Int32) (y4 : Int32) (y5 : Int32) (y6 : Int32) (t0 : Int32) : Option (Int32 × (Nat → Nat → Int32)) := f12_changesOf_c130 n O k24 k33 I b0 y1 y2 y3 y4 y5 y6 (0 : Int32) t0
set_option maxHeartbeats 4000000 in
set_option maxRecDepth 20000 in
theorem o12_changesOf_c125 {g : pG} {Qx : Option Value → pW → Prop} {Z : pZ} {L : (Nat → Nat → Int64)} {O : (Nat → Nat → Option Nat)} {n : Nat} {k24 : ((Nat → Nat → Int32) → Nat → Int32 → Int32 → Int32 → Int32 → Int32 → Option (Int32 × (Nat → Nat → Int32)))} {k33 : ((Nat → Nat → Int32) → Nat → Int32 → Int32 → Int32 → Int32 → Int32 → Int32 → Option (Int32 × (Nat → Nat → Int32)))} {res : Int32 × (Nat → Nat → Int32)} (d : Nat) (hW : WT Z O) (hQ : Qx (some (.int res.1)) (Z, res.2, L, O)) (hk24 : ∀ (I : (Nat → Nat → Int32)) (b0 : Nat) (y1 : Int32) (y2 : Int32) (y3 : Int32) (y4 : Int32) (y5 : Int32), (Z[b0]? = some (12, 34)) → k24 I b0 y1 y2 y3 y4 y5 = some res → Ok g (d + 4, RX12, cX12_changesOf, 11, false, 0, 0, Z.length, pSl Z) Qx 24 [(0, .ref b0), (1, .int y1), (2, .int y2), (3, .int y3), (4, .int y4), (5, .int y5)] [] (Z, I, L, O)) (hk33 : ∀ (I : (Nat → Nat → Int32)) (b0 : Nat) (y1 : Int32) (y2 : Int32) (y3 : Int32) (y4 : Int32) (y5 : Int32) (y6 : Int32), (Z[b0]? = some (12, 34)) → k33 I b0 y1 y2 y3 y4 y5 y6 = some res → Ok g (d + 4, RX12, cX12_changesOf, 11, false, 0, 0, Z.length, pSl Z) Qx 33 [(0, .ref b0), (1, .int y1), (2, .int y2), (3, .int y3), (4, .int y4), (5, .int y5), (6, .int y6)] [] (Z, I, L, O)) (I : (Nat → Nat → Int32)) (b0 : Nat) (y1 : Int32) (y2 : Int32) (y3 : Int32) (y4 : Int32) (y5 : Int32) (y6 : Int32) (t0 : Int32) (hZ_b0 : Z[b0]? = some (12, 34)) (h : f12_changesOf_c125 n O k24 k33 I b0 y1 y2 y3 y4 y5 y6 t0 = some res) : Ok g (d + 4, RX12, cX12_changesOf, 11, false, 0, 0, Z.length, pSl Z) Qx 125 [(0, .ref b0), (1, .int y1), (2, .int y2), (3, .int y3), (4, .int y4), (5, .int y5), (6, .int y6)] [.int t0] (Z, I, L, O) := by
  unfold f12_changesOf_c125 at h
  refine ok_iconst (v := 0) dX12_changesOf_125 (by decide) ?_
  refine ok_goto (t := 130) dX12_changesOf_126 (by decide) ?_
  refine ok_sub [0, 1, 2, 3, 4, 5, 6] rfl ?_
  exact o12_changesOf_c130 d hW hQ hk24 hk33 I b0 y1 y2 y3 y4 y5 y6 (0 : Int32) t0 hZ_b0 h
def f12_changesOf_c56 (n : Nat) (O : (Nat → Nat → Option Nat)) (k24 : ((Nat → Nat → Int32) → Nat → Int32 → Int32 → Int32 → Int32 → Int32 → Option (Int32 × (Nat → Nat → Int32)))) (k33 : ((Nat → Nat → Int32) → Nat → Int32 → Int32 → Int32 → Int32 → Int32 → Int32 → Option (Int32 × (Nat → Nat → Int32)))) (I : (Nat → Nat → Int32)) (b0 : Nat) (y1 : Int32) (y2 : Int32) (y3 : Int32) (y4 : Int32) (y5 : Int32) (y6 : Int32) (t0 : Int32) : Option (Int32 × (Nat → Nat → Int32)) := (if y3 ≤ y5 then f12_changesOf_c203 n O k24 k33 I b0 y1 y2 y3 y4 y5 y6 t0 else (if y4 ≤ y6 then f12_changesOf_c203 n O k24 k33 I b0 y1 y2 y3 y4 y5 y6 t0 else (if ((((17 : Int32) * (y5 + 1)) + y6) + 1) < 0 ∨ 289 ≤ ((((17 : Int32) * (y5 + 1)) + y6) + 1).toNatClampNeg then none else (f12_isTorn I O b0 y1 y5).bind fun r5 => (if r5 = 0 then (f12_isTorn I O b0 y2 y6).bind fun r8 => (if r8 = 0 then (f12_keyOf I O b0 y1 y5).bind fun r11 => (f12_keyOf I O b0 y2 y6).bind fun r13 => (if r11 = r13 then f12_changesOf_c125 n O k24 k33 I b0 y1 y2 y3 y4 y5 y6 (I (rO O b0 26) ((((17 : Int32) * (y5 + 1)) + y6) + 1).toNatClampNeg) else f12_changesOf_c130 n O k24 k33 I b0 y1 y2 y3 y4 y5 y6 (1 : Int32) (I (rO O b0 26) ((((17 : Int32) * (y5 + 1)) + y6) + 1).toNatClampNeg)) else f12_changesOf_c125 n O k24 k33 I b0 y1 y2 y3 y4 y5 y6 (I (rO O b0 26) ((((17 : Int32) * (y5 + 1)) + y6) + 1).toNatClampNeg)) else f12_changesOf_c125 n O k24 k33 I b0 y1 y2 y3 y4 y5 y6 (I (rO O b0 26) ((((17 : Int32) * (y5 + 1)) + y6) + 1).toNatClampNeg)))))
set_option maxHeartbeats 4000000 in
set_option maxRecDepth 20000 in
theorem o12_changesOf_c56 {g : pG} {Qx : Option Value → pW → Prop} {Z : pZ} {L : (Nat → Nat → Int64)} {O : (Nat → Nat → Option Nat)} {n : Nat} {k24 : ((Nat → Nat → Int32) → Nat → Int32 → Int32 → Int32 → Int32 → Int32 → Option (Int32 × (Nat → Nat → Int32)))} {k33 : ((Nat → Nat → Int32) → Nat → Int32 → Int32 → Int32 → Int32 → Int32 → Int32 → Option (Int32 × (Nat → Nat → Int32)))} {res : Int32 × (Nat → Nat → Int32)} (d : Nat) (hW : WT Z O) (hQ : Qx (some (.int res.1)) (Z, res.2, L, O)) (hk24 : ∀ (I : (Nat → Nat → Int32)) (b0 : Nat) (y1 : Int32) (y2 : Int32) (y3 : Int32) (y4 : Int32) (y5 : Int32), (Z[b0]? = some (12, 34)) → k24 I b0 y1 y2 y3 y4 y5 = some res → Ok g (d + 4, RX12, cX12_changesOf, 11, false, 0, 0, Z.length, pSl Z) Qx 24 [(0, .ref b0), (1, .int y1), (2, .int y2), (3, .int y3), (4, .int y4), (5, .int y5)] [] (Z, I, L, O)) (hk33 : ∀ (I : (Nat → Nat → Int32)) (b0 : Nat) (y1 : Int32) (y2 : Int32) (y3 : Int32) (y4 : Int32) (y5 : Int32) (y6 : Int32), (Z[b0]? = some (12, 34)) → k33 I b0 y1 y2 y3 y4 y5 y6 = some res → Ok g (d + 4, RX12, cX12_changesOf, 11, false, 0, 0, Z.length, pSl Z) Qx 33 [(0, .ref b0), (1, .int y1), (2, .int y2), (3, .int y3), (4, .int y4), (5, .int y5), (6, .int y6)] [] (Z, I, L, O)) (I : (Nat → Nat → Int32)) (b0 : Nat) (y1 : Int32) (y2 : Int32) (y3 : Int32) (y4 : Int32) (y5 : Int32) (y6 : Int32) (t0 : Int32) (hZ_b0 : Z[b0]? = some (12, 34)) (h : f12_changesOf_c56 n O k24 k33 I b0 y1 y2 y3 y4 y5 y6 t0 = some res) : Ok g (d + 4, RX12, cX12_changesOf, 11, false, 0, 0, Z.length, pSl Z) Qx 56 [(0, .ref b0), (1, .int y1), (2, .int y2), (3, .int y3), (4, .int y4), (5, .int y5), (6, .int y6)] [.int t0] (Z, I, L, O) := by
  unfold f12_changesOf_c56 at h
  refine ok_istore (l' := [(7, .int t0), (0, .ref b0), (1, .int y1), (2, .int y2), (3, .int y3), (4, .int y4), (5, .int y5), (6, .int y6)]) dX12_changesOf_56 (Nat.le_of_ble_eq_true rfl) rfl ?_
  refine ok_iload dX12_changesOf_58 6 rfl ?_
  refine ok_iload_n dX12_changesOf_60 4 rfl ?_
  refine ok_icmp_ge (t := 203) dX12_changesOf_61 (by decide) (fun hc1 => ?_) (fun hc1 => ?_)
  · have h := (if_pos hc1).symm.trans h
    refine ok_sub [1, 2, 3, 4, 5, 6, 7, 0] rfl ?_
    exact o12_changesOf_c203 d hW hQ hk24 hk33 I b0 y1 y2 y3 y4 y5 y6 t0 hZ_b0 h
  · have h := (if_neg hc1).symm.trans h
    refine ok_iload dX12_changesOf_64 7 rfl ?_
    refine ok_iload dX12_changesOf_66 5 rfl ?_
    refine ok_icmp_ge (t := 203) dX12_changesOf_68 (by decide) (fun hc2 => ?_) (fun hc2 => ?_)
    · have h := (if_pos hc2).symm.trans h
      refine ok_sub [1, 2, 3, 4, 5, 6, 7, 0] rfl ?_
      exact o12_changesOf_c203 d hW hQ hk24 hk33 I b0 y1 y2 y3 y4 y5 y6 t0 hZ_b0 h
    · have h := (if_neg hc2).symm.trans h
      refine ok_aload_n dX12_changesOf_71 1 rfl ?_
      have hT3 : Z[(rO O b0 26)]? = some (13, 289) := (wt_f (ci := 12) (k := 26) hW hZ_b0 rfl).2
      refine ok_getR (ci := 12) (k := 26) dX12_changesOf_72 flRX12_50 rfl hW hZ_b0 (by decide) ?_
      refine ok_bipush (v := 17) dX12_changesOf_75 (by decide) ?_
      refine ok_iload dX12_changesOf_77 6 rfl ?_
      refine ok_iconst (v := 1) dX12_changesOf_79 (by decide) ?_
      refine ok_iadd dX12_changesOf_80 ?_
      refine ok_imul dX12_changesOf_81 ?_
      refine ok_iload dX12_changesOf_82 7 rfl ?_
      refine ok_iadd dX12_changesOf_84 ?_
      refine ok_iconst (v := 1) dX12_changesOf_85 (by decide) ?_
      refine ok_iadd dX12_changesOf_86 ?_
      obtain ⟨hg4, h⟩ := gd h
      refine ok_iald2 (N := ((((17 : Int32) * (y5 + 1)) + y6) + 1).toNatClampNeg) dX12_changesOf_87 hT3 hg4 rfl ?_
      refine ok_aload_n dX12_changesOf_88 1 rfl ?_
      refine ok_iload_n dX12_changesOf_89 2 rfl ?_
      refine ok_iload dX12_changesOf_90 6 rfl ?_
      obtain ⟨r5, hr6, h⟩ := bd h
      refine ok_callV (d := ((d + 0) + 3)) (mt := m12_isTorn) (mc := 0) (ms := 0) (As := [.int y1, .int y5]) (r := [.int (I (rO O b0 26) ((((17 : Int32) * (y5 + 1)) + y6) + 1).toNatClampNeg)]) dX12_changesOf_92 mo12_isTorn mv12_isTorn lkRX12_90 rfl hZ_b0 (q := (RX12, TX12, 34)) rfl rfl rfl (Nat.le_of_ble_eq_true rfl) (by show _ + 1 ≤ d + _; omega) (Nat.le_refl _) (Nat.le_refl _) (pRt_mono ?_)
      refine k12_isTorn (d + 0) hW hZ_b0 hr6 ?_
      intro hbr5
      show Ok g _ Qx 95 [(7, .int t0), (0, .ref b0), (1, .int y1), (2, .int y2), (3, .int y3), (4, .int y4), (5, .int y5), (6, .int y6)] [.int r5, .int (I (rO O b0 26) ((((17 : Int32) * (y5 + 1)) + y6) + 1).toNatClampNeg)] (Z, I, L, O)
      refine ok_if_ne (t := 125) dX12_changesOf_95 (by decide) (fun hc7 => ?_) (fun hc7 => ?_)
      · have h := (if_neg hc7).symm.trans h
        refine ok_sub [1, 2, 3, 4, 5, 6, 7] rfl ?_
        exact o12_changesOf_c125 d hW hQ hk24 hk33 I b0 y1 y2 y3 y4 y5 y6 (I (rO O b0 26) ((((17 : Int32) * (y5 + 1)) + y6) + 1).toNatClampNeg) hZ_b0 h
      · have h := (if_pos hc7).symm.trans h
        refine ok_aload_n dX12_changesOf_98 1 rfl ?_
        refine ok_iload_n dX12_changesOf_99 3 rfl ?_
        refine ok_iload dX12_changesOf_100 7 rfl ?_
        obtain ⟨r8, hr9, h⟩ := bd h
        refine ok_callV (d := ((d + 0) + 3)) (mt := m12_isTorn) (mc := 0) (ms := 0) (As := [.int y2, .int y6]) (r := [.int (I (rO O b0 26) ((((17 : Int32) * (y5 + 1)) + y6) + 1).toNatClampNeg)]) dX12_changesOf_102 mo12_isTorn mv12_isTorn lkRX12_90 rfl hZ_b0 (q := (RX12, TX12, 34)) rfl rfl rfl (Nat.le_of_ble_eq_true rfl) (by show _ + 1 ≤ d + _; omega) (Nat.le_refl _) (Nat.le_refl _) (pRt_mono ?_)
        refine k12_isTorn (d + 0) hW hZ_b0 hr9 ?_
        intro hbr8
        show Ok g _ Qx 105 [(7, .int t0), (0, .ref b0), (1, .int y1), (2, .int y2), (3, .int y3), (4, .int y4), (5, .int y5), (6, .int y6)] [.int r8, .int (I (rO O b0 26) ((((17 : Int32) * (y5 + 1)) + y6) + 1).toNatClampNeg)] (Z, I, L, O)
        refine ok_if_ne (t := 125) dX12_changesOf_105 (by decide) (fun hc10 => ?_) (fun hc10 => ?_)
        · have h := (if_neg hc10).symm.trans h
          refine ok_sub [1, 2, 3, 4, 5, 6, 7] rfl ?_
          exact o12_changesOf_c125 d hW hQ hk24 hk33 I b0 y1 y2 y3 y4 y5 y6 (I (rO O b0 26) ((((17 : Int32) * (y5 + 1)) + y6) + 1).toNatClampNeg) hZ_b0 h
        · have h := (if_pos hc10).symm.trans h
          refine ok_aload_n dX12_changesOf_108 1 rfl ?_
          refine ok_iload_n dX12_changesOf_109 2 rfl ?_
          refine ok_iload dX12_changesOf_110 6 rfl ?_
          obtain ⟨r11, hr12, h⟩ := bd h
          refine ok_callV (d := ((d + 1) + 2)) (mt := m12_keyOf) (mc := 0) (ms := 0) (As := [.int y1, .int y5]) (r := [.int (I (rO O b0 26) ((((17 : Int32) * (y5 + 1)) + y6) + 1).toNatClampNeg)]) dX12_changesOf_112 mo12_keyOf mv12_keyOf lkRX12_87 rfl hZ_b0 (q := (RX12, TX12, 34)) rfl rfl rfl (Nat.le_of_ble_eq_true rfl) (by show _ + 1 ≤ d + _; omega) (Nat.le_refl _) (Nat.le_refl _) (pRt_mono ?_)
          refine k12_keyOf (d + 1) hW hZ_b0 hr12 ?_
          intro _
          show Ok g _ Qx 115 [(7, .int t0), (0, .ref b0), (1, .int y1), (2, .int y2), (3, .int y3), (4, .int y4), (5, .int y5), (6, .int y6)] [.int r11, .int (I (rO O b0 26) ((((17 : Int32) * (y5 + 1)) + y6) + 1).toNatClampNeg)] (Z, I, L, O)
          refine ok_aload_n dX12_changesOf_115 1 rfl ?_
          refine ok_iload_n dX12_changesOf_116 3 rfl ?_
          refine ok_iload dX12_changesOf_117 7 rfl ?_
          obtain ⟨r13, hr14, h⟩ := bd h
          refine ok_callV (d := ((d + 1) + 2)) (mt := m12_keyOf) (mc := 0) (ms := 0) (As := [.int y2, .int y6]) (r := [.int r11, .int (I (rO O b0 26) ((((17 : Int32) * (y5 + 1)) + y6) + 1).toNatClampNeg)]) dX12_changesOf_119 mo12_keyOf mv12_keyOf lkRX12_87 rfl hZ_b0 (q := (RX12, TX12, 34)) rfl rfl rfl (Nat.le_of_ble_eq_true rfl) (by show _ + 1 ≤ d + _; omega) (Nat.le_refl _) (Nat.le_refl _) (pRt_mono ?_)
          refine k12_keyOf (d + 1) hW hZ_b0 hr14 ?_
          intro _
          show Ok g _ Qx 122 [(7, .int t0), (0, .ref b0), (1, .int y1), (2, .int y2), (3, .int y3), (4, .int y4), (5, .int y5), (6, .int y6)] [.int r13, .int r11, .int (I (rO O b0 26) ((((17 : Int32) * (y5 + 1)) + y6) + 1).toNatClampNeg)] (Z, I, L, O)
          refine ok_icmp_ne (t := 129) dX12_changesOf_122 (by decide) (fun hc15 => ?_) (fun hc15 => ?_)
          · have h := (if_neg hc15).symm.trans h
            refine ok_iconst (v := 1) dX12_changesOf_129 (by decide) ?_
            refine ok_sub [1, 2, 3, 4, 5, 6, 7] rfl ?_
            exact o12_changesOf_c130 d hW hQ hk24 hk33 I b0 y1 y2 y3 y4 y5 y6 (1 : Int32) (I (rO O b0 26) ((((17 : Int32) * (y5 + 1)) + y6) + 1).toNatClampNeg) hZ_b0 h
          · have h := (if_pos hc15).symm.trans h
            refine ok_sub [1, 2, 3, 4, 5, 6, 7] rfl ?_
            exact o12_changesOf_c125 d hW hQ hk24 hk33 I b0 y1 y2 y3 y4 y5 y6 (I (rO O b0 26) ((((17 : Int32) * (y5 + 1)) + y6) + 1).toNatClampNeg) hZ_b0 h
def f12_changesOf_c33 (n : Nat) (O : (Nat → Nat → Option Nat)) (k24 : ((Nat → Nat → Int32) → Nat → Int32 → Int32 → Int32 → Int32 → Int32 → Option (Int32 × (Nat → Nat → Int32)))) : Nat → (Nat → Nat → Int32) → Nat → Int32 → Int32 → Int32 → Int32 → Int32 → Int32 → Option (Int32 × (Nat → Nat → Int32))
  | 0, _, _, _, _, _, _, _, _ => none
  | m + 1, I, b0, y1, y2, y3, y4, y5, y6 => (if y6 < 0 then k24 I b0 y1 y2 y3 y4 (y5 + (-1)) else (if y5 = y3 then f12_changesOf_c56 n O k24 (f12_changesOf_c33 n O k24 m) I b0 y1 y2 y3 y4 y5 y6 (y4 - y6) else f12_changesOf_c56 n O k24 (f12_changesOf_c33 n O k24 m) I b0 y1 y2 y3 y4 y5 y6 (y3 - y5)))
set_option maxHeartbeats 4000000 in
set_option maxRecDepth 20000 in
theorem o12_changesOf_c33 {g : pG} {Qx : Option Value → pW → Prop} {Z : pZ} {L : (Nat → Nat → Int64)} {O : (Nat → Nat → Option Nat)} {n : Nat} {k24 : ((Nat → Nat → Int32) → Nat → Int32 → Int32 → Int32 → Int32 → Int32 → Option (Int32 × (Nat → Nat → Int32)))} {res : Int32 × (Nat → Nat → Int32)} (d : Nat) (hW : WT Z O) (hQ : Qx (some (.int res.1)) (Z, res.2, L, O)) (hk24 : ∀ (I : (Nat → Nat → Int32)) (b0 : Nat) (y1 : Int32) (y2 : Int32) (y3 : Int32) (y4 : Int32) (y5 : Int32), (Z[b0]? = some (12, 34)) → k24 I b0 y1 y2 y3 y4 y5 = some res → Ok g (d + 4, RX12, cX12_changesOf, 11, false, 0, 0, Z.length, pSl Z) Qx 24 [(0, .ref b0), (1, .int y1), (2, .int y2), (3, .int y3), (4, .int y4), (5, .int y5)] [] (Z, I, L, O)) : ∀ (m : Nat) (I : (Nat → Nat → Int32)) (b0 : Nat) (y1 : Int32) (y2 : Int32) (y3 : Int32) (y4 : Int32) (y5 : Int32) (y6 : Int32), (Z[b0]? = some (12, 34)) → f12_changesOf_c33 n O k24 m I b0 y1 y2 y3 y4 y5 y6 = some res → Ok g (d + 4, RX12, cX12_changesOf, 11, false, 0, 0, Z.length, pSl Z) Qx 33 [(0, .ref b0), (1, .int y1), (2, .int y2), (3, .int y3), (4, .int y4), (5, .int y5), (6, .int y6)] [] (Z, I, L, O) := by
  intro m
  induction m with
  | zero => intro I b0 y1 y2 y3 y4 y5 y6 hZ_b0 h; rw [f12_changesOf_c33] at h; cases h
  | succ m ih =>
    intro I b0 y1 y2 y3 y4 y5 y6 hZ_b0 h
    rw [f12_changesOf_c33] at h
    refine ok_iload dX12_changesOf_33 6 rfl ?_
    refine ok_if_lt (t := 224) dX12_changesOf_35 (by decide) (fun hc1 => ?_) (fun hc1 => ?_)
    · have h := (if_pos hc1).symm.trans h
      refine ok_iinc (u := (y5 + (-1))) (l' := [(5, .int (y5 + (-1))), (0, .ref b0), (1, .int y1), (2, .int y2), (3, .int y3), (4, .int y4), (6, .int y6)]) dX12_changesOf_224 5 rfl rfl (Nat.le_of_ble_eq_true rfl) rfl ?_
      refine ok_goto (t := 24) dX12_changesOf_227 (by decide) ?_
      refine ok_sub [1, 2, 3, 4, 5, 0] rfl ?_
      exact hk24 I b0 y1 y2 y3 y4 (y5 + (-1)) hZ_b0 h
    · have h := (if_neg hc1).symm.trans h
      refine ok_iload dX12_changesOf_38 5 rfl ?_
      refine ok_iload_n dX12_changesOf_40 3 rfl ?_
      refine ok_icmp_ne (t := 52) dX12_changesOf_41 (by decide) (fun hc2 => ?_) (fun hc2 => ?_)
      · have h := (if_neg hc2).symm.trans h
        refine ok_iload_n dX12_changesOf_52 3 rfl ?_
        refine ok_iload dX12_changesOf_53 5 rfl ?_
        refine ok_isub dX12_changesOf_55 ?_
        refine ok_sub [0, 1, 2, 3, 4, 5, 6] rfl ?_
        exact o12_changesOf_c56 d hW hQ hk24 ih I b0 y1 y2 y3 y4 y5 y6 (y3 - y5) hZ_b0 h
      · have h := (if_pos hc2).symm.trans h
        refine ok_iload dX12_changesOf_44 4 rfl ?_
        refine ok_iload dX12_changesOf_46 6 rfl ?_
        refine ok_isub dX12_changesOf_48 ?_
        refine ok_goto (t := 56) dX12_changesOf_49 (by decide) ?_
        refine ok_sub [0, 1, 2, 3, 4, 5, 6] rfl ?_
        exact o12_changesOf_c56 d hW hQ hk24 ih I b0 y1 y2 y3 y4 y5 y6 (y4 - y6) hZ_b0 h
def f12_changesOf_c24 (n : Nat) (O : (Nat → Nat → Option Nat)) : Nat → (Nat → Nat → Int32) → Nat → Int32 → Int32 → Int32 → Int32 → Int32 → Option (Int32 × (Nat → Nat → Int32))
  | 0, _, _, _, _, _, _, _ => none
  | m + 1, I, b0, y1, y2, y3, y4, y5 => (if y5 < 0 then some ((I (rO O b0 26) 0), I) else f12_changesOf_c33 n O (f12_changesOf_c24 n O m) n I b0 y1 y2 y3 y4 y5 y4)
set_option maxHeartbeats 4000000 in
set_option maxRecDepth 20000 in
theorem o12_changesOf_c24 {g : pG} {Qx : Option Value → pW → Prop} {Z : pZ} {L : (Nat → Nat → Int64)} {O : (Nat → Nat → Option Nat)} {n : Nat} {res : Int32 × (Nat → Nat → Int32)} (d : Nat) (hW : WT Z O) (hQ : Qx (some (.int res.1)) (Z, res.2, L, O)) : ∀ (m : Nat) (I : (Nat → Nat → Int32)) (b0 : Nat) (y1 : Int32) (y2 : Int32) (y3 : Int32) (y4 : Int32) (y5 : Int32), (Z[b0]? = some (12, 34)) → f12_changesOf_c24 n O m I b0 y1 y2 y3 y4 y5 = some res → Ok g (d + 4, RX12, cX12_changesOf, 11, false, 0, 0, Z.length, pSl Z) Qx 24 [(0, .ref b0), (1, .int y1), (2, .int y2), (3, .int y3), (4, .int y4), (5, .int y5)] [] (Z, I, L, O) := by
  intro m
  induction m with
  | zero => intro I b0 y1 y2 y3 y4 y5 hZ_b0 h; rw [f12_changesOf_c24] at h; cases h
  | succ m ih =>
    intro I b0 y1 y2 y3 y4 y5 hZ_b0 h
    rw [f12_changesOf_c24] at h
    refine ok_iload dX12_changesOf_24 5 rfl ?_
    refine ok_if_lt (t := 230) dX12_changesOf_26 (by decide) (fun hc1 => ?_) (fun hc1 => ?_)
    · have h := (if_pos hc1).symm.trans h
      refine ok_aload_n dX12_changesOf_230 0 rfl ?_
      have hT2 : Z[(rO O b0 26)]? = some (13, 289) := (wt_f (ci := 12) (k := 26) hW hZ_b0 rfl).2
      refine ok_getR (ci := 12) (k := 26) dX12_changesOf_231 flRX12_50 rfl hW hZ_b0 (by decide) ?_
      refine ok_iconst (v := 0) dX12_changesOf_234 (by decide) ?_
      refine ok_iald2 (N := 0) dX12_changesOf_235 hT2 (by unfold vp_in; decide) (by decide) ?_
      cases h
      exact ok_iret dX12_changesOf_236 hQ
    · have h := (if_neg hc1).symm.trans h
      refine ok_iload dX12_changesOf_29 4 rfl ?_
      refine ok_istore (l' := [(6, .int y4), (0, .ref b0), (1, .int y1), (2, .int y2), (3, .int y3), (4, .int y4), (5, .int y5)]) dX12_changesOf_31 (Nat.le_of_ble_eq_true rfl) rfl ?_
      refine ok_sub [1, 2, 3, 4, 5, 6, 0] rfl ?_
      exact o12_changesOf_c33 d hW hQ ih n I b0 y1 y2 y3 y4 y5 y4 hZ_b0 h
def f12_changesOf (n : Nat) (I : (Nat → Nat → Int32)) (O : (Nat → Nat → Option Nat)) (a0 : Nat) (x1 : Int32) (x2 : Int32) : Option (Int32 × (Nat → Nat → Int32)) := (if ((114 : Int32) + x1) < 0 ∨ 4371 ≤ ((114 : Int32) + x1).toNatClampNeg then none else bl ((I (rO O a0 0) ((114 : Int32) + x1).toNatClampNeg) : Int32) fun z3 => (if ((114 : Int32) + x2) < 0 ∨ 4371 ≤ ((114 : Int32) + x2).toNatClampNeg then none else bl ((I (rO O a0 0) ((114 : Int32) + x2).toNatClampNeg) : Int32) fun z5 => f12_changesOf_c24 n O n I a0 x1 x2 z3 z5 z3))
set_option maxHeartbeats 4000000 in
set_option maxRecDepth 20000 in
theorem o12_changesOf {g : pG} {Qx : Option Value → pW → Prop} {Z : pZ} {I : (Nat → Nat → Int32)} {L : (Nat → Nat → Int64)} {O : (Nat → Nat → Option Nat)} {n : Nat} {a0 : Nat} {x1 : Int32} {x2 : Int32} {res : Int32 × (Nat → Nat → Int32)} (d : Nat) (hW : WT Z O) (hZ0 : Z[a0]? = some (12, 34)) (h : f12_changesOf n I O a0 x1 x2 = some res) (hQ : Qx (some (.int res.1)) (Z, res.2, L, O)) : Ok g (d + 4, RX12, cX12_changesOf, 11, false, 0, 0, Z.length, pSl Z) Qx 0 [(0, .ref a0), (1, .int x1), (2, .int x2)] [] (Z, I, L, O) := by
  unfold f12_changesOf at h
  refine ok_aload_n dX12_changesOf_0 0 rfl ?_
  have hT1 : Z[(rO O a0 0)]? = some (13, 4371) := (wt_f (ci := 12) (k := 0) hW hZ0 rfl).2
  refine ok_getR (ci := 12) (k := 0) dX12_changesOf_1 flRX12_7 rfl hW hZ0 (by decide) ?_
  refine ok_bipush (v := 114) dX12_changesOf_4 (by decide) ?_
  refine ok_iload_n dX12_changesOf_6 1 rfl ?_
  refine ok_iadd dX12_changesOf_7 ?_
  obtain ⟨hg2, h⟩ := gd h
  refine ok_iald2 (N := ((114 : Int32) + x1).toNatClampNeg) dX12_changesOf_8 hT1 hg2 rfl ?_
  obtain ⟨z3, ez3, h⟩ := blE h
  refine ok_nm ez3 ?_
  refine ok_istore_n (l' := [(3, .int z3), (0, .ref a0), (1, .int x1), (2, .int x2)]) dX12_changesOf_9 rfl (Nat.le_of_ble_eq_true rfl) rfl ?_
  refine ok_aload_n dX12_changesOf_10 1 rfl ?_
  refine ok_getR (ci := 12) (k := 0) dX12_changesOf_11 flRX12_7 rfl hW hZ0 (by decide) ?_
  refine ok_bipush (v := 114) dX12_changesOf_14 (by decide) ?_
  refine ok_iload_n dX12_changesOf_16 3 rfl ?_
  refine ok_iadd dX12_changesOf_17 ?_
  obtain ⟨hg4, h⟩ := gd h
  refine ok_iald2 (N := ((114 : Int32) + x2).toNatClampNeg) dX12_changesOf_18 hT1 hg4 rfl ?_
  obtain ⟨z5, ez5, h⟩ := blE h
  refine ok_nm ez5 ?_
  refine ok_istore (l' := [(4, .int z5), (3, .int z3), (0, .ref a0), (1, .int x1), (2, .int x2)]) dX12_changesOf_19 (Nat.le_of_ble_eq_true rfl) rfl ?_
  refine ok_iload_n dX12_changesOf_21 1 rfl ?_
  refine ok_istore (l' := [(5, .int z3), (4, .int z5), (3, .int z3), (0, .ref a0), (1, .int x1), (2, .int x2)]) dX12_changesOf_22 (Nat.le_of_ble_eq_true rfl) rfl ?_
  refine ok_sub [3, 4, 5, 2, 1, 0] rfl ?_
  exact o12_changesOf_c24 d hW hQ  n I a0 x1 x2 z3 z5 z3 hZ0 h
theorem k12_changesOf {g : pG} {Q : Option Value → pW → Prop} {Z : pZ} {I : (Nat → Nat → Int32)} {L : (Nat → Nat → Int64)} {O : (Nat → Nat → Option Nat)} {n : Nat} {a0 : Nat} {x1 : Int32} {x2 : Int32} {res : Int32 × (Nat → Nat → Int32)} (d : Nat) (hW : WT Z O) (hZ0 : Z[a0]? = some (12, 34)) (h : f12_changesOf n I O a0 x1 x2 = some res) (hQ : Q (some (.int res.1)) (Z, res.2, L, O)) : CT g (d + 4) m12_changesOf 0 0 [.ref a0, .int x1, .int x2] (Z, I, L, O) Q :=
  ct_of_ok (mt := m12_changesOf) (ini := false) mo12_changesOf.2.2.2.2 (fun h => by cases h) (Nat.le_of_ble_eq_true rfl) (o12_changesOf d hW hZ0 h ⟨trivial, hQ, rfl, rfl⟩)
theorem dX12_edit_0 : decode cX12_edit 0 = .ok (.aload_n 0, 1) := by decide +kernel
theorem dX12_edit_1 : decode cX12_edit 1 = .ok (.iload_n 1, 1) := by decide +kernel
theorem dX12_edit_2 : decode cX12_edit 2 = .ok (.invokevirtual 79, 3) := by decide +kernel
theorem dX12_edit_5 : decode cX12_edit 5 = .ok (.ifCond .eq 20, 3) := by decide +kernel
theorem dX12_edit_8 : decode cX12_edit 8 = .ok (.aload_n 0, 1) := by decide +kernel
theorem dX12_edit_9 : decode cX12_edit 9 = .ok (.iload_n 2, 1) := by decide +kernel
theorem dX12_edit_10 : decode cX12_edit 10 = .ok (.invokevirtual 79, 3) := by decide +kernel
theorem dX12_edit_13 : decode cX12_edit 13 = .ok (.ifCond .eq 12, 3) := by decide +kernel
theorem dX12_edit_16 : decode cX12_edit 16 = .ok (.aload_n 0, 1) := by decide +kernel
theorem dX12_edit_17 : decode cX12_edit 17 = .ok (.iload_n 1, 1) := by decide +kernel
theorem dX12_edit_18 : decode cX12_edit 18 = .ok (.iload_n 2, 1) := by decide +kernel
theorem dX12_edit_19 : decode cX12_edit 19 = .ok (.invokevirtual 419, 3) := by decide +kernel
theorem dX12_edit_22 : decode cX12_edit 22 = .ok (.goto 4, 3) := by decide +kernel
theorem dX12_edit_25 : decode cX12_edit 25 = .ok (.iconst (-1), 1) := by decide +kernel
theorem dX12_edit_26 : decode cX12_edit 26 = .ok (.ireturn, 1) := by decide +kernel
def m12_edit : pMT := (yX12_edit, cX12_edit, 3, some .int)
theorem mo12_edit : mOK m12_edit 2 := ⟨tb_i 1847 (by decide +kernel), wi_RX12, ⟨wn_RX12.1, wn_RX12.2, by decide +kernel⟩, by decide, plainFor_of_name wp_RX12⟩
theorem mv12_edit : mV m12_edit := ⟨tb_i 1845 (by decide +kernel), tb_i 1846 (by decide +kernel)⟩
def f12_edit (n : Nat) (I : (Nat → Nat → Int32)) (O : (Nat → Nat → Option Nat)) (a0 : Nat) (x1 : Int32) (x2 : Int32) : Option (Int32 × (Nat → Nat → Int32)) := (f12_isRoll I O a0 x1).bind fun r1 => (if r1 = 0 then some (((-1) : Int32), I) else (f12_isRoll I O a0 x2).bind fun r4 => (if r4 = 0 then some (((-1) : Int32), I) else (f12_changesOf n I O a0 x1 x2).bind fun r7 => some (r7.1, r7.2)))
set_option maxHeartbeats 4000000 in
set_option maxRecDepth 20000 in
theorem o12_edit {g : pG} {Qx : Option Value → pW → Prop} {Z : pZ} {I : (Nat → Nat → Int32)} {L : (Nat → Nat → Int64)} {O : (Nat → Nat → Option Nat)} {n : Nat} {a0 : Nat} {x1 : Int32} {x2 : Int32} {res : Int32 × (Nat → Nat → Int32)} (d : Nat) (hW : WT Z O) (hZ0 : Z[a0]? = some (12, 34)) (h : f12_edit n I O a0 x1 x2 = some res) (hQ : Qx (some (.int res.1)) (Z, res.2, L, O)) : Ok g (d + 5, RX12, cX12_edit, 3, false, 0, 0, Z.length, pSl Z) Qx 0 [(0, .ref a0), (1, .int x1), (2, .int x2)] [] (Z, I, L, O) := by
  unfold f12_edit at h
  refine ok_aload_n dX12_edit_0 0 rfl ?_
  refine ok_iload_n dX12_edit_1 1 rfl ?_
  obtain ⟨r1, hr2, h⟩ := bd h
  refine ok_callV (d := ((d + 1) + 3)) (mt := m12_isRoll) (mc := 0) (ms := 0) (As := [.int x1]) (r := []) dX12_edit_2 mo12_isRoll mv12_isRoll lkRX12_79 rfl hZ0 (q := (RX12, TX12, 34)) rfl rfl rfl (Nat.le_of_ble_eq_true rfl) (by show _ + 1 ≤ d + _; omega) (Nat.le_refl _) (Nat.le_refl _) (pRt_mono ?_)
  refine k12_isRoll (d + 1) hW hZ0 hr2 ?_
  intro hbr1
  show Ok g _ Qx 5 [(0, .ref a0), (1, .int x1), (2, .int x2)] [.int r1] (Z, I, L, O)
  refine ok_if_eq (t := 25) dX12_edit_5 (by decide) (fun hc3 => ?_) (fun hc3 => ?_)
  · have h := (if_pos hc3).symm.trans h
    refine ok_iconst (v := (-1)) dX12_edit_25 (by decide) ?_
    cases h
    exact ok_iret dX12_edit_26 hQ
  · have h := (if_neg hc3).symm.trans h
    refine ok_aload_n dX12_edit_8 0 rfl ?_
    refine ok_iload_n dX12_edit_9 2 rfl ?_
    obtain ⟨r4, hr5, h⟩ := bd h
    refine ok_callV (d := ((d + 1) + 3)) (mt := m12_isRoll) (mc := 0) (ms := 0) (As := [.int x2]) (r := []) dX12_edit_10 mo12_isRoll mv12_isRoll lkRX12_79 rfl hZ0 (q := (RX12, TX12, 34)) rfl rfl rfl (Nat.le_of_ble_eq_true rfl) (by show _ + 1 ≤ d + _; omega) (Nat.le_refl _) (Nat.le_refl _) (pRt_mono ?_)
    refine k12_isRoll (d + 1) hW hZ0 hr5 ?_
    intro hbr4
    show Ok g _ Qx 13 [(0, .ref a0), (1, .int x1), (2, .int x2)] [.int r4] (Z, I, L, O)
    refine ok_if_eq (t := 25) dX12_edit_13 (by decide) (fun hc6 => ?_) (fun hc6 => ?_)
    · have h := (if_pos hc6).symm.trans h
      refine ok_iconst (v := (-1)) dX12_edit_25 (by decide) ?_
      cases h
      exact ok_iret dX12_edit_26 hQ
    · have h := (if_neg hc6).symm.trans h
      refine ok_aload_n dX12_edit_16 0 rfl ?_
      refine ok_iload_n dX12_edit_17 1 rfl ?_
      refine ok_iload_n dX12_edit_18 2 rfl ?_
      obtain ⟨r7, hr8, h⟩ := bd h
      refine ok_callV (d := ((d + 0) + 4)) (mt := m12_changesOf) (mc := 0) (ms := 0) (As := [.int x1, .int x2]) (r := []) dX12_edit_19 mo12_changesOf mv12_changesOf lkRX12_419 rfl hZ0 (q := (RX12, TX12, 34)) rfl rfl rfl (Nat.le_of_ble_eq_true rfl) (by show _ + 1 ≤ d + _; omega) (Nat.le_refl _) (Nat.le_refl _) (pRt_mono ?_)
      refine k12_changesOf (d + 0) hW hZ0 hr8 ?_
      intro _
      show Ok g _ Qx 22 [(0, .ref a0), (1, .int x1), (2, .int x2)] [.int r7.1] (Z, r7.2, L, O)
      refine ok_goto (t := 26) dX12_edit_22 (by decide) ?_
      cases h
      exact ok_iret dX12_edit_26 hQ
theorem k12_edit {g : pG} {Q : Option Value → pW → Prop} {Z : pZ} {I : (Nat → Nat → Int32)} {L : (Nat → Nat → Int64)} {O : (Nat → Nat → Option Nat)} {n : Nat} {a0 : Nat} {x1 : Int32} {x2 : Int32} {res : Int32 × (Nat → Nat → Int32)} (d : Nat) (hW : WT Z O) (hZ0 : Z[a0]? = some (12, 34)) (h : f12_edit n I O a0 x1 x2 = some res) (hQ : Q (some (.int res.1)) (Z, res.2, L, O)) : CT g (d + 5) m12_edit 0 0 [.ref a0, .int x1, .int x2] (Z, I, L, O) Q :=
  ct_of_ok (mt := m12_edit) (ini := false) mo12_edit.2.2.2.2 (fun h => by cases h) (Nat.le_of_ble_eq_true rfl) (o12_edit d hW hZ0 h ⟨trivial, hQ, rfl, rfl⟩)
theorem dX12_areOne_0 : decode cX12_areOne 0 = .ok (.aload_n 0, 1) := by decide +kernel
theorem dX12_areOne_1 : decode cX12_areOne 1 = .ok (.iload_n 1, 1) := by decide +kernel
theorem dX12_areOne_2 : decode cX12_areOne 2 = .ok (.iload_n 2, 1) := by decide +kernel
theorem dX12_areOne_3 : decode cX12_areOne 3 = .ok (.invokevirtual 331, 3) := by decide +kernel
theorem dX12_areOne_6 : decode cX12_areOne 6 = .ok (.ifCond .eq 33, 3) := by decide +kernel
theorem dX12_areOne_9 : decode cX12_areOne 9 = .ok (.aload_n 0, 1) := by decide +kernel
theorem dX12_areOne_10 : decode cX12_areOne 10 = .ok (.iload_n 3, 1) := by decide +kernel
theorem dX12_areOne_11 : decode cX12_areOne 11 = .ok (.iload 4, 2) := by decide +kernel
theorem dX12_areOne_13 : decode cX12_areOne 13 = .ok (.invokevirtual 331, 3) := by decide +kernel
theorem dX12_areOne_16 : decode cX12_areOne 16 = .ok (.ifCond .eq 23, 3) := by decide +kernel
theorem dX12_areOne_19 : decode cX12_areOne 19 = .ok (.aload_n 0, 1) := by decide +kernel
theorem dX12_areOne_20 : decode cX12_areOne 20 = .ok (.iload_n 1, 1) := by decide +kernel
theorem dX12_areOne_21 : decode cX12_areOne 21 = .ok (.iload_n 2, 1) := by decide +kernel
theorem dX12_areOne_22 : decode cX12_areOne 22 = .ok (.invokevirtual 87, 3) := by decide +kernel
theorem dX12_areOne_25 : decode cX12_areOne 25 = .ok (.aload_n 0, 1) := by decide +kernel
theorem dX12_areOne_26 : decode cX12_areOne 26 = .ok (.iload_n 3, 1) := by decide +kernel
theorem dX12_areOne_27 : decode cX12_areOne 27 = .ok (.iload 4, 2) := by decide +kernel
theorem dX12_areOne_29 : decode cX12_areOne 29 = .ok (.invokevirtual 87, 3) := by decide +kernel
theorem dX12_areOne_32 : decode cX12_areOne 32 = .ok (.if_icmp .ne 7, 3) := by decide +kernel
theorem dX12_areOne_35 : decode cX12_areOne 35 = .ok (.iconst 1, 1) := by decide +kernel
theorem dX12_areOne_36 : decode cX12_areOne 36 = .ok (.goto 4, 3) := by decide +kernel
theorem dX12_areOne_39 : decode cX12_areOne 39 = .ok (.iconst 0, 1) := by decide +kernel
theorem dX12_areOne_40 : decode cX12_areOne 40 = .ok (.ireturn, 1) := by decide +kernel
def m12_areOne : pMT := (yX12_areOne, cX12_areOne, 5, some .boolean)
theorem mo12_areOne : mOK m12_areOne 4 := ⟨tb_i 1863 (by decide +kernel), wi_RX12, ⟨wn_RX12.1, wn_RX12.2, by decide +kernel⟩, by decide, plainFor_of_name wp_RX12⟩
theorem mv12_areOne : mV m12_areOne := ⟨tb_i 1862 (by decide +kernel), tb_p 124 (by decide +kernel)⟩
def f12_areOne (I : (Nat → Nat → Int32)) (O : (Nat → Nat → Option Nat)) (a0 : Nat) (x1 : Int32) (x2 : Int32) (x3 : Int32) (x4 : Int32) : Option (Int32) := (f12_isHole I O a0 x1 x2).bind fun r1 => (if r1 = 0 then some ((0 : Int32)) else (f12_isHole I O a0 x3 x4).bind fun r4 => (if r4 = 0 then some ((0 : Int32)) else (f12_keyOf I O a0 x1 x2).bind fun r7 => (f12_keyOf I O a0 x3 x4).bind fun r9 => (if r7 = r9 then some ((1 : Int32)) else some ((0 : Int32)))))
set_option maxHeartbeats 4000000 in
set_option maxRecDepth 20000 in
theorem o12_areOne {g : pG} {Qx : Option Value → pW → Prop} {Z : pZ} {I : (Nat → Nat → Int32)} {L : (Nat → Nat → Int64)} {O : (Nat → Nat → Option Nat)} {a0 : Nat} {x1 : Int32} {x2 : Int32} {x3 : Int32} {x4 : Int32} {res : Int32} (d : Nat) (hW : WT Z O) (hZ0 : Z[a0]? = some (12, 34)) (h : f12_areOne I O a0 x1 x2 x3 x4 = some res) (hQ : (res = 0 ∨ res = 1) → Qx (some (.int res)) (Z, I, L, O)) : Ok g (d + 5, RX12, cX12_areOne, 5, false, 0, 0, Z.length, pSl Z) Qx 0 [(0, .ref a0), (1, .int x1), (2, .int x2), (3, .int x3), (4, .int x4)] [] (Z, I, L, O) := by
  unfold f12_areOne at h
  refine ok_aload_n dX12_areOne_0 0 rfl ?_
  refine ok_iload_n dX12_areOne_1 1 rfl ?_
  refine ok_iload_n dX12_areOne_2 2 rfl ?_
  obtain ⟨r1, hr2, h⟩ := bd h
  refine ok_callV (d := ((d + 0) + 4)) (mt := m12_isHole) (mc := 0) (ms := 0) (As := [.int x1, .int x2]) (r := []) dX12_areOne_3 mo12_isHole mv12_isHole lkRX12_331 rfl hZ0 (q := (RX12, TX12, 34)) rfl rfl rfl (Nat.le_of_ble_eq_true rfl) (by show _ + 1 ≤ d + _; omega) (Nat.le_refl _) (Nat.le_refl _) (pRt_mono ?_)
  refine k12_isHole (d + 0) hW hZ0 hr2 ?_
  intro hbr1
  show Ok g _ Qx 6 [(0, .ref a0), (1, .int x1), (2, .int x2), (3, .int x3), (4, .int x4)] [.int r1] (Z, I, L, O)
  refine ok_if_eq (t := 39) dX12_areOne_6 (by decide) (fun hc3 => ?_) (fun hc3 => ?_)
  · have h := (if_pos hc3).symm.trans h
    refine ok_iconst (v := 0) dX12_areOne_39 (by decide) ?_
    cases h
    exact ok_iret dX12_areOne_40 (hQ (Or.inl rfl))
  · have h := (if_neg hc3).symm.trans h
    refine ok_aload_n dX12_areOne_9 0 rfl ?_
    refine ok_iload_n dX12_areOne_10 3 rfl ?_
    refine ok_iload dX12_areOne_11 4 rfl ?_
    obtain ⟨r4, hr5, h⟩ := bd h
    refine ok_callV (d := ((d + 0) + 4)) (mt := m12_isHole) (mc := 0) (ms := 0) (As := [.int x3, .int x4]) (r := []) dX12_areOne_13 mo12_isHole mv12_isHole lkRX12_331 rfl hZ0 (q := (RX12, TX12, 34)) rfl rfl rfl (Nat.le_of_ble_eq_true rfl) (by show _ + 1 ≤ d + _; omega) (Nat.le_refl _) (Nat.le_refl _) (pRt_mono ?_)
    refine k12_isHole (d + 0) hW hZ0 hr5 ?_
    intro hbr4
    show Ok g _ Qx 16 [(0, .ref a0), (1, .int x1), (2, .int x2), (3, .int x3), (4, .int x4)] [.int r4] (Z, I, L, O)
    refine ok_if_eq (t := 39) dX12_areOne_16 (by decide) (fun hc6 => ?_) (fun hc6 => ?_)
    · have h := (if_pos hc6).symm.trans h
      refine ok_iconst (v := 0) dX12_areOne_39 (by decide) ?_
      cases h
      exact ok_iret dX12_areOne_40 (hQ (Or.inl rfl))
    · have h := (if_neg hc6).symm.trans h
      refine ok_aload_n dX12_areOne_19 0 rfl ?_
      refine ok_iload_n dX12_areOne_20 1 rfl ?_
      refine ok_iload_n dX12_areOne_21 2 rfl ?_
      obtain ⟨r7, hr8, h⟩ := bd h
      refine ok_callV (d := ((d + 2) + 2)) (mt := m12_keyOf) (mc := 0) (ms := 0) (As := [.int x1, .int x2]) (r := []) dX12_areOne_22 mo12_keyOf mv12_keyOf lkRX12_87 rfl hZ0 (q := (RX12, TX12, 34)) rfl rfl rfl (Nat.le_of_ble_eq_true rfl) (by show _ + 1 ≤ d + _; omega) (Nat.le_refl _) (Nat.le_refl _) (pRt_mono ?_)
      refine k12_keyOf (d + 2) hW hZ0 hr8 ?_
      intro _
      show Ok g _ Qx 25 [(0, .ref a0), (1, .int x1), (2, .int x2), (3, .int x3), (4, .int x4)] [.int r7] (Z, I, L, O)
      refine ok_aload_n dX12_areOne_25 0 rfl ?_
      refine ok_iload_n dX12_areOne_26 3 rfl ?_
      refine ok_iload dX12_areOne_27 4 rfl ?_
      obtain ⟨r9, hr10, h⟩ := bd h
      refine ok_callV (d := ((d + 2) + 2)) (mt := m12_keyOf) (mc := 0) (ms := 0) (As := [.int x3, .int x4]) (r := [.int r7]) dX12_areOne_29 mo12_keyOf mv12_keyOf lkRX12_87 rfl hZ0 (q := (RX12, TX12, 34)) rfl rfl rfl (Nat.le_of_ble_eq_true rfl) (by show _ + 1 ≤ d + _; omega) (Nat.le_refl _) (Nat.le_refl _) (pRt_mono ?_)
      refine k12_keyOf (d + 2) hW hZ0 hr10 ?_
      intro _
      show Ok g _ Qx 32 [(0, .ref a0), (1, .int x1), (2, .int x2), (3, .int x3), (4, .int x4)] [.int r9, .int r7] (Z, I, L, O)
      refine ok_icmp_ne (t := 39) dX12_areOne_32 (by decide) (fun hc11 => ?_) (fun hc11 => ?_)
      · have h := (if_neg hc11).symm.trans h
        refine ok_iconst (v := 0) dX12_areOne_39 (by decide) ?_
        cases h
        exact ok_iret dX12_areOne_40 (hQ (Or.inl rfl))
      · have h := (if_pos hc11).symm.trans h
        refine ok_iconst (v := 1) dX12_areOne_35 (by decide) ?_
        refine ok_goto (t := 40) dX12_areOne_36 (by decide) ?_
        cases h
        exact ok_iret dX12_areOne_40 (hQ (Or.inr rfl))
theorem k12_areOne {g : pG} {Q : Option Value → pW → Prop} {Z : pZ} {I : (Nat → Nat → Int32)} {L : (Nat → Nat → Int64)} {O : (Nat → Nat → Option Nat)} {a0 : Nat} {x1 : Int32} {x2 : Int32} {x3 : Int32} {x4 : Int32} {res : Int32} (d : Nat) (hW : WT Z O) (hZ0 : Z[a0]? = some (12, 34)) (h : f12_areOne I O a0 x1 x2 x3 x4 = some res) (hQ : Q (some (.int res)) (Z, I, L, O)) : CT g (d + 5) m12_areOne 0 0 [.ref a0, .int x1, .int x2, .int x3, .int x4] (Z, I, L, O) Q :=
  ct_of_ok (mt := m12_areOne) (ini := false) mo12_areOne.2.2.2.2 (fun h => by cases h) (Nat.le_of_ble_eq_true rfl) (o12_areOne d hW hZ0 h (fun hb => ⟨hb, hQ, rfl, rfl⟩))
theorem dX12_layCommon_0 : decode cX12_layCommon 0 = .ok (.aload_n 0, 1) := by decide +kernel
theorem dX12_layCommon_1 : decode cX12_layCommon 1 = .ok (.getfield 7, 3) := by decide +kernel
theorem dX12_layCommon_4 : decode cX12_layCommon 4 = .ok (.bipush 114, 2) := by decide +kernel
theorem dX12_layCommon_6 : decode cX12_layCommon 6 = .ok (.iload_n 1, 1) := by decide +kernel
theorem dX12_layCommon_7 : decode cX12_layCommon 7 = .ok (.iadd, 1) := by decide +kernel
theorem dX12_layCommon_8 : decode cX12_layCommon 8 = .ok (.iaload, 1) := by decide +kernel
theorem dX12_layCommon_9 : decode cX12_layCommon 9 = .ok (.istore_n 3, 1) := by decide +kernel
theorem dX12_layCommon_10 : decode cX12_layCommon 10 = .ok (.iload_n 3, 1) := by decide +kernel
theorem dX12_layCommon_11 : decode cX12_layCommon 11 = .ok (.ifCond .lt 192, 3) := by decide +kernel
theorem dX12_layCommon_14 : decode cX12_layCommon 14 = .ok (.aload_n 0, 1) := by decide +kernel
theorem dX12_layCommon_15 : decode cX12_layCommon 15 = .ok (.getfield 7, 3) := by decide +kernel
theorem dX12_layCommon_18 : decode cX12_layCommon 18 = .ok (.bipush 114, 2) := by decide +kernel
theorem dX12_layCommon_20 : decode cX12_layCommon 20 = .ok (.iload_n 2, 1) := by decide +kernel
theorem dX12_layCommon_21 : decode cX12_layCommon 21 = .ok (.iadd, 1) := by decide +kernel
theorem dX12_layCommon_22 : decode cX12_layCommon 22 = .ok (.iaload, 1) := by decide +kernel
theorem dX12_layCommon_23 : decode cX12_layCommon 23 = .ok (.istore 4, 2) := by decide +kernel
theorem dX12_layCommon_25 : decode cX12_layCommon 25 = .ok (.iload 4, 2) := by decide +kernel
theorem dX12_layCommon_27 : decode cX12_layCommon 27 = .ok (.ifCond .lt 170, 3) := by decide +kernel
theorem dX12_layCommon_30 : decode cX12_layCommon 30 = .ok (.iconst 0, 1) := by decide +kernel
theorem dX12_layCommon_31 : decode cX12_layCommon 31 = .ok (.istore 5, 2) := by decide +kernel
theorem dX12_layCommon_33 : decode cX12_layCommon 33 = .ok (.iload_n 3, 1) := by decide +kernel
theorem dX12_layCommon_34 : decode cX12_layCommon 34 = .ok (.aload_n 0, 1) := by decide +kernel
theorem dX12_layCommon_35 : decode cX12_layCommon 35 = .ok (.getfield 7, 3) := by decide +kernel
theorem dX12_layCommon_38 : decode cX12_layCommon 38 = .ok (.bipush 114, 2) := by decide +kernel
theorem dX12_layCommon_40 : decode cX12_layCommon 40 = .ok (.iload_n 1, 1) := by decide +kernel
theorem dX12_layCommon_41 : decode cX12_layCommon 41 = .ok (.iadd, 1) := by decide +kernel
theorem dX12_layCommon_42 : decode cX12_layCommon 42 = .ok (.iaload, 1) := by decide +kernel
theorem dX12_layCommon_43 : decode cX12_layCommon 43 = .ok (.if_icmp .ge 134, 3) := by decide +kernel
theorem dX12_layCommon_46 : decode cX12_layCommon 46 = .ok (.iload 4, 2) := by decide +kernel
theorem dX12_layCommon_48 : decode cX12_layCommon 48 = .ok (.aload_n 0, 1) := by decide +kernel
theorem dX12_layCommon_49 : decode cX12_layCommon 49 = .ok (.getfield 7, 3) := by decide +kernel
theorem dX12_layCommon_52 : decode cX12_layCommon 52 = .ok (.bipush 114, 2) := by decide +kernel
theorem dX12_layCommon_54 : decode cX12_layCommon 54 = .ok (.iload_n 2, 1) := by decide +kernel
theorem dX12_layCommon_55 : decode cX12_layCommon 55 = .ok (.iadd, 1) := by decide +kernel
theorem dX12_layCommon_56 : decode cX12_layCommon 56 = .ok (.iaload, 1) := by decide +kernel
theorem dX12_layCommon_57 : decode cX12_layCommon 57 = .ok (.if_icmp .ge 120, 3) := by decide +kernel
theorem dX12_layCommon_60 : decode cX12_layCommon 60 = .ok (.aload_n 0, 1) := by decide +kernel
theorem dX12_layCommon_61 : decode cX12_layCommon 61 = .ok (.getfield 50, 3) := by decide +kernel
theorem dX12_layCommon_64 : decode cX12_layCommon 64 = .ok (.bipush 17, 2) := by decide +kernel
theorem dX12_layCommon_66 : decode cX12_layCommon 66 = .ok (.iload_n 3, 1) := by decide +kernel
theorem dX12_layCommon_67 : decode cX12_layCommon 67 = .ok (.iconst 1, 1) := by decide +kernel
theorem dX12_layCommon_68 : decode cX12_layCommon 68 = .ok (.iadd, 1) := by decide +kernel
theorem dX12_layCommon_69 : decode cX12_layCommon 69 = .ok (.imul, 1) := by decide +kernel
theorem dX12_layCommon_70 : decode cX12_layCommon 70 = .ok (.iload 4, 2) := by decide +kernel
theorem dX12_layCommon_72 : decode cX12_layCommon 72 = .ok (.iadd, 1) := by decide +kernel
theorem dX12_layCommon_73 : decode cX12_layCommon 73 = .ok (.iaload, 1) := by decide +kernel
theorem dX12_layCommon_74 : decode cX12_layCommon 74 = .ok (.aload_n 0, 1) := by decide +kernel
theorem dX12_layCommon_75 : decode cX12_layCommon 75 = .ok (.getfield 50, 3) := by decide +kernel
theorem dX12_layCommon_78 : decode cX12_layCommon 78 = .ok (.bipush 17, 2) := by decide +kernel
theorem dX12_layCommon_80 : decode cX12_layCommon 80 = .ok (.iload_n 3, 1) := by decide +kernel
theorem dX12_layCommon_81 : decode cX12_layCommon 81 = .ok (.imul, 1) := by decide +kernel
theorem dX12_layCommon_82 : decode cX12_layCommon 82 = .ok (.iload 4, 2) := by decide +kernel
theorem dX12_layCommon_84 : decode cX12_layCommon 84 = .ok (.iadd, 1) := by decide +kernel
theorem dX12_layCommon_85 : decode cX12_layCommon 85 = .ok (.iconst 1, 1) := by decide +kernel
theorem dX12_layCommon_86 : decode cX12_layCommon 86 = .ok (.iadd, 1) := by decide +kernel
theorem dX12_layCommon_87 : decode cX12_layCommon 87 = .ok (.iaload, 1) := by decide +kernel
theorem dX12_layCommon_88 : decode cX12_layCommon 88 = .ok (.if_icmp .le 20, 3) := by decide +kernel
theorem dX12_layCommon_91 : decode cX12_layCommon 91 = .ok (.aload_n 0, 1) := by decide +kernel
theorem dX12_layCommon_92 : decode cX12_layCommon 92 = .ok (.getfield 50, 3) := by decide +kernel
theorem dX12_layCommon_95 : decode cX12_layCommon 95 = .ok (.bipush 17, 2) := by decide +kernel
theorem dX12_layCommon_97 : decode cX12_layCommon 97 = .ok (.iload_n 3, 1) := by decide +kernel
theorem dX12_layCommon_98 : decode cX12_layCommon 98 = .ok (.iconst 1, 1) := by decide +kernel
theorem dX12_layCommon_99 : decode cX12_layCommon 99 = .ok (.iadd, 1) := by decide +kernel
theorem dX12_layCommon_100 : decode cX12_layCommon 100 = .ok (.imul, 1) := by decide +kernel
theorem dX12_layCommon_101 : decode cX12_layCommon 101 = .ok (.iload 4, 2) := by decide +kernel
theorem dX12_layCommon_103 : decode cX12_layCommon 103 = .ok (.iadd, 1) := by decide +kernel
theorem dX12_layCommon_104 : decode cX12_layCommon 104 = .ok (.iaload, 1) := by decide +kernel
theorem dX12_layCommon_105 : decode cX12_layCommon 105 = .ok (.goto 17, 3) := by decide +kernel
theorem dX12_layCommon_108 : decode cX12_layCommon 108 = .ok (.aload_n 0, 1) := by decide +kernel
theorem dX12_layCommon_109 : decode cX12_layCommon 109 = .ok (.getfield 50, 3) := by decide +kernel
theorem dX12_layCommon_112 : decode cX12_layCommon 112 = .ok (.bipush 17, 2) := by decide +kernel
theorem dX12_layCommon_114 : decode cX12_layCommon 114 = .ok (.iload_n 3, 1) := by decide +kernel
theorem dX12_layCommon_115 : decode cX12_layCommon 115 = .ok (.imul, 1) := by decide +kernel
theorem dX12_layCommon_116 : decode cX12_layCommon 116 = .ok (.iload 4, 2) := by decide +kernel
theorem dX12_layCommon_118 : decode cX12_layCommon 118 = .ok (.iadd, 1) := by decide +kernel
theorem dX12_layCommon_119 : decode cX12_layCommon 119 = .ok (.iconst 1, 1) := by decide +kernel
theorem dX12_layCommon_120 : decode cX12_layCommon 120 = .ok (.iadd, 1) := by decide +kernel
theorem dX12_layCommon_121 : decode cX12_layCommon 121 = .ok (.iaload, 1) := by decide +kernel
theorem dX12_layCommon_122 : decode cX12_layCommon 122 = .ok (.istore 5, 2) := by decide +kernel
theorem dX12_layCommon_124 : decode cX12_layCommon 124 = .ok (.aload_n 0, 1) := by decide +kernel
theorem dX12_layCommon_125 : decode cX12_layCommon 125 = .ok (.iload_n 1, 1) := by decide +kernel
theorem dX12_layCommon_126 : decode cX12_layCommon 126 = .ok (.iload_n 3, 1) := by decide +kernel
theorem dX12_layCommon_127 : decode cX12_layCommon 127 = .ok (.iload_n 2, 1) := by decide +kernel
theorem dX12_layCommon_128 : decode cX12_layCommon 128 = .ok (.iload 4, 2) := by decide +kernel
theorem dX12_layCommon_130 : decode cX12_layCommon 130 = .ok (.invokevirtual 422, 3) := by decide +kernel
theorem dX12_layCommon_133 : decode cX12_layCommon 133 = .ok (.ifCond .eq 44, 3) := by decide +kernel
theorem dX12_layCommon_136 : decode cX12_layCommon 136 = .ok (.aload_n 0, 1) := by decide +kernel
theorem dX12_layCommon_137 : decode cX12_layCommon 137 = .ok (.getfield 50, 3) := by decide +kernel
theorem dX12_layCommon_140 : decode cX12_layCommon 140 = .ok (.bipush 17, 2) := by decide +kernel
theorem dX12_layCommon_142 : decode cX12_layCommon 142 = .ok (.iload_n 3, 1) := by decide +kernel
theorem dX12_layCommon_143 : decode cX12_layCommon 143 = .ok (.iconst 1, 1) := by decide +kernel
theorem dX12_layCommon_144 : decode cX12_layCommon 144 = .ok (.iadd, 1) := by decide +kernel
theorem dX12_layCommon_145 : decode cX12_layCommon 145 = .ok (.imul, 1) := by decide +kernel
theorem dX12_layCommon_146 : decode cX12_layCommon 146 = .ok (.iload 4, 2) := by decide +kernel
theorem dX12_layCommon_148 : decode cX12_layCommon 148 = .ok (.iadd, 1) := by decide +kernel
theorem dX12_layCommon_149 : decode cX12_layCommon 149 = .ok (.iconst 1, 1) := by decide +kernel
theorem dX12_layCommon_150 : decode cX12_layCommon 150 = .ok (.iadd, 1) := by decide +kernel
theorem dX12_layCommon_151 : decode cX12_layCommon 151 = .ok (.iaload, 1) := by decide +kernel
theorem dX12_layCommon_152 : decode cX12_layCommon 152 = .ok (.iload 5, 2) := by decide +kernel
theorem dX12_layCommon_154 : decode cX12_layCommon 154 = .ok (.if_icmp .lt 23, 3) := by decide +kernel
theorem dX12_layCommon_157 : decode cX12_layCommon 157 = .ok (.aload_n 0, 1) := by decide +kernel
theorem dX12_layCommon_158 : decode cX12_layCommon 158 = .ok (.getfield 50, 3) := by decide +kernel
theorem dX12_layCommon_161 : decode cX12_layCommon 161 = .ok (.bipush 17, 2) := by decide +kernel
theorem dX12_layCommon_163 : decode cX12_layCommon 163 = .ok (.iload_n 3, 1) := by decide +kernel
theorem dX12_layCommon_164 : decode cX12_layCommon 164 = .ok (.iconst 1, 1) := by decide +kernel
theorem dX12_layCommon_165 : decode cX12_layCommon 165 = .ok (.iadd, 1) := by decide +kernel
theorem dX12_layCommon_166 : decode cX12_layCommon 166 = .ok (.imul, 1) := by decide +kernel
theorem dX12_layCommon_167 : decode cX12_layCommon 167 = .ok (.iload 4, 2) := by decide +kernel
theorem dX12_layCommon_169 : decode cX12_layCommon 169 = .ok (.iadd, 1) := by decide +kernel
theorem dX12_layCommon_170 : decode cX12_layCommon 170 = .ok (.iconst 1, 1) := by decide +kernel
theorem dX12_layCommon_171 : decode cX12_layCommon 171 = .ok (.iadd, 1) := by decide +kernel
theorem dX12_layCommon_172 : decode cX12_layCommon 172 = .ok (.iaload, 1) := by decide +kernel
theorem dX12_layCommon_173 : decode cX12_layCommon 173 = .ok (.iconst 1, 1) := by decide +kernel
theorem dX12_layCommon_174 : decode cX12_layCommon 174 = .ok (.iadd, 1) := by decide +kernel
theorem dX12_layCommon_175 : decode cX12_layCommon 175 = .ok (.istore 5, 2) := by decide +kernel
theorem dX12_layCommon_177 : decode cX12_layCommon 177 = .ok (.aload_n 0, 1) := by decide +kernel
theorem dX12_layCommon_178 : decode cX12_layCommon 178 = .ok (.getfield 50, 3) := by decide +kernel
theorem dX12_layCommon_181 : decode cX12_layCommon 181 = .ok (.bipush 17, 2) := by decide +kernel
theorem dX12_layCommon_183 : decode cX12_layCommon 183 = .ok (.iload_n 3, 1) := by decide +kernel
theorem dX12_layCommon_184 : decode cX12_layCommon 184 = .ok (.imul, 1) := by decide +kernel
theorem dX12_layCommon_185 : decode cX12_layCommon 185 = .ok (.iload 4, 2) := by decide +kernel
theorem dX12_layCommon_187 : decode cX12_layCommon 187 = .ok (.iadd, 1) := by decide +kernel
theorem dX12_layCommon_188 : decode cX12_layCommon 188 = .ok (.iload 5, 2) := by decide +kernel
theorem dX12_layCommon_190 : decode cX12_layCommon 190 = .ok (.iastore, 1) := by decide +kernel
theorem dX12_layCommon_191 : decode cX12_layCommon 191 = .ok (.iinc 4 (-1), 3) := by decide +kernel
theorem dX12_layCommon_194 : decode cX12_layCommon 194 = .ok (.goto (-169), 3) := by decide +kernel
theorem dX12_layCommon_197 : decode cX12_layCommon 197 = .ok (.iinc 3 (-1), 3) := by decide +kernel
theorem dX12_layCommon_200 : decode cX12_layCommon 200 = .ok (.goto (-190), 3) := by decide +kernel
theorem dX12_layCommon_203 : decode cX12_layCommon 203 = .ok (.return_, 1) := by decide +kernel
def m12_layCommon : pMT := (yX12_layCommon, cX12_layCommon, 6, none)
theorem mo12_layCommon : mOK m12_layCommon 2 := ⟨tb_i 1859 (by decide +kernel), wi_RX12, ⟨wn_RX12.1, wn_RX12.2, by decide +kernel⟩, by decide, plainFor_of_name wp_RX12⟩
theorem mv12_layCommon : mV m12_layCommon := ⟨tb_i 1858 (by decide +kernel), tb_p 123 (by decide +kernel)⟩
def f12_layCommon_c177 (n : Nat) (O : (Nat → Nat → Option Nat)) (k10 : ((Nat → Nat → Int32) → Nat → Int32 → Int32 → Int32 → Option ((Nat → Nat → Int32)))) (k25 : ((Nat → Nat → Int32) → Nat → Int32 → Int32 → Int32 → Int32 → Option ((Nat → Nat → Int32)))) (I : (Nat → Nat → Int32)) (b0 : Nat) (y1 : Int32) (y2 : Int32) (y3 : Int32) (y4 : Int32) (y5 : Int32) : Option ((Nat → Nat → Int32)) := (if (((17 : Int32) * y3) + y4) < 0 ∨ 289 ≤ (((17 : Int32) * y3) + y4).toNatClampNeg then none else bl (sI I (rO O b0 26) (((17 : Int32) * y3) + y4).toNatClampNeg y5) fun I3 => k25 I3 b0 y1 y2 y3 (y4 + (-1)))
set_option maxHeartbeats 4000000 in
set_option maxRecDepth 20000 in
theorem o12_layCommon_c177 {g : pG} {Qx : Option Value → pW → Prop} {Z : pZ} {L : (Nat → Nat → Int64)} {O : (Nat → Nat → Option Nat)} {n : Nat} {k10 : ((Nat → Nat → Int32) → Nat → Int32 → Int32 → Int32 → Option ((Nat → Nat → Int32)))} {k25 : ((Nat → Nat → Int32) → Nat → Int32 → Int32 → Int32 → Int32 → Option ((Nat → Nat → Int32)))} {res : (Nat → Nat → Int32)} (d : Nat) (hW : WT Z O) (hQ : Qx none (Z, res, L, O)) (hk10 : ∀ (I : (Nat → Nat → Int32)) (b0 : Nat) (y1 : Int32) (y2 : Int32) (y3 : Int32), (Z[b0]? = some (12, 34)) → k10 I b0 y1 y2 y3 = some res → Ok g (d + 6, RX12, cX12_layCommon, 6, false, 0, 0, Z.length, pSl Z) Qx 10 [(0, .ref b0), (1, .int y1), (2, .int y2), (3, .int y3)] [] (Z, I, L, O)) (hk25 : ∀ (I : (Nat → Nat → Int32)) (b0 : Nat) (y1 : Int32) (y2 : Int32) (y3 : Int32) (y4 : Int32), (Z[b0]? = some (12, 34)) → k25 I b0 y1 y2 y3 y4 = some res → Ok g (d + 6, RX12, cX12_layCommon, 6, false, 0, 0, Z.length, pSl Z) Qx 25 [(0, .ref b0), (1, .int y1), (2, .int y2), (3, .int y3), (4, .int y4)] [] (Z, I, L, O)) (I : (Nat → Nat → Int32)) (b0 : Nat) (y1 : Int32) (y2 : Int32) (y3 : Int32) (y4 : Int32) (y5 : Int32) (hZ_b0 : Z[b0]? = some (12, 34)) (h : f12_layCommon_c177 n O k10 k25 I b0 y1 y2 y3 y4 y5 = some res) : Ok g (d + 6, RX12, cX12_layCommon, 6, false, 0, 0, Z.length, pSl Z) Qx 177 [(0, .ref b0), (1, .int y1), (2, .int y2), (3, .int y3), (4, .int y4), (5, .int y5)] [] (Z, I, L, O) := by
  unfold f12_layCommon_c177 at h
  refine ok_aload_n dX12_layCommon_177 0 rfl ?_
  have hT1 : Z[(rO O b0 26)]? = some (13, 289) := (wt_f (ci := 12) (k := 26) hW hZ_b0 rfl).2
  refine ok_getR (ci := 12) (k := 26) dX12_layCommon_178 flRX12_50 rfl hW hZ_b0 (by decide) ?_
  refine ok_bipush (v := 17) dX12_layCommon_181 (by decide) ?_
  refine ok_iload_n dX12_layCommon_183 3 rfl ?_
  refine ok_imul dX12_layCommon_184 ?_
  refine ok_iload dX12_layCommon_185 4 rfl ?_
  refine ok_iadd dX12_layCommon_187 ?_
  refine ok_iload dX12_layCommon_188 5 rfl ?_
  obtain ⟨hg2, h⟩ := gd h
  obtain ⟨I3, eI3, h⟩ := blE h
  refine ok_iast3 dX12_layCommon_190 hT1 hg2 rfl eI3 ?_
  refine ok_iinc (u := (y4 + (-1))) (l' := [(4, .int (y4 + (-1))), (0, .ref b0), (1, .int y1), (2, .int y2), (3, .int y3), (5, .int y5)]) dX12_layCommon_191 4 rfl rfl (Nat.le_of_ble_eq_true rfl) rfl ?_
  refine ok_goto (t := 25) dX12_layCommon_194 (by decide) ?_
  refine ok_sub [1, 2, 3, 4, 0] rfl ?_
  exact hk25 I3 b0 y1 y2 y3 (y4 + (-1)) hZ_b0 h
def f12_layCommon_c122 (n : Nat) (O : (Nat → Nat → Option Nat)) (k10 : ((Nat → Nat → Int32) → Nat → Int32 → Int32 → Int32 → Option ((Nat → Nat → Int32)))) (k25 : ((Nat → Nat → Int32) → Nat → Int32 → Int32 → Int32 → Int32 → Option ((Nat → Nat → Int32)))) (I : (Nat → Nat → Int32)) (b0 : Nat) (y1 : Int32) (y2 : Int32) (y3 : Int32) (y4 : Int32) (t0 : Int32) : Option ((Nat → Nat → Int32)) := (f12_areOne I O b0 y1 y3 y2 y4).bind fun r1 => (if r1 = 0 then f12_layCommon_c177 n O k10 k25 I b0 y1 y2 y3 y4 t0 else (if ((((17 : Int32) * (y3 + 1)) + y4) + 1) < 0 ∨ 289 ≤ ((((17 : Int32) * (y3 + 1)) + y4) + 1).toNatClampNeg then none else (if (I (rO O b0 26) ((((17 : Int32) * (y3 + 1)) + y4) + 1).toNatClampNeg) < t0 then f12_layCommon_c177 n O k10 k25 I b0 y1 y2 y3 y4 t0 else (if ((((17 : Int32) * (y3 + 1)) + y4) + 1) < 0 ∨ 289 ≤ ((((17 : Int32) * (y3 + 1)) + y4) + 1).toNatClampNeg then none else bl (((I (rO O b0 26) ((((17 : Int32) * (y3 + 1)) + y4) + 1).toNatClampNeg) + 1) : Int32) fun z8 => f12_layCommon_c177 n O k10 k25 I b0 y1 y2 y3 y4 z8))))
set_option maxHeartbeats 4000000 in
set_option maxRecDepth 20000 in
theorem o12_layCommon_c122 {g : pG} {Qx : Option Value → pW → Prop} {Z : pZ} {L : (Nat → Nat → Int64)} {O : (Nat → Nat → Option Nat)} {n : Nat} {k10 : ((Nat → Nat → Int32) → Nat → Int32 → Int32 → Int32 → Option ((Nat → Nat → Int32)))} {k25 : ((Nat → Nat → Int32) → Nat → Int32 → Int32 → Int32 → Int32 → Option ((Nat → Nat → Int32)))} {res : (Nat → Nat → Int32)} (d : Nat) (hW : WT Z O) (hQ : Qx none (Z, res, L, O)) (hk10 : ∀ (I : (Nat → Nat → Int32)) (b0 : Nat) (y1 : Int32) (y2 : Int32) (y3 : Int32), (Z[b0]? = some (12, 34)) → k10 I b0 y1 y2 y3 = some res → Ok g (d + 6, RX12, cX12_layCommon, 6, false, 0, 0, Z.length, pSl Z) Qx 10 [(0, .ref b0), (1, .int y1), (2, .int y2), (3, .int y3)] [] (Z, I, L, O)) (hk25 : ∀ (I : (Nat → Nat → Int32)) (b0 : Nat) (y1 : Int32) (y2 : Int32) (y3 : Int32) (y4 : Int32), (Z[b0]? = some (12, 34)) → k25 I b0 y1 y2 y3 y4 = some res → Ok g (d + 6, RX12, cX12_layCommon, 6, false, 0, 0, Z.length, pSl Z) Qx 25 [(0, .ref b0), (1, .int y1), (2, .int y2), (3, .int y3), (4, .int y4)] [] (Z, I, L, O)) (I : (Nat → Nat → Int32)) (b0 : Nat) (y1 : Int32) (y2 : Int32) (y3 : Int32) (y4 : Int32) (t0 : Int32) (hZ_b0 : Z[b0]? = some (12, 34)) (h : f12_layCommon_c122 n O k10 k25 I b0 y1 y2 y3 y4 t0 = some res) : Ok g (d + 6, RX12, cX12_layCommon, 6, false, 0, 0, Z.length, pSl Z) Qx 122 [(0, .ref b0), (1, .int y1), (2, .int y2), (3, .int y3), (4, .int y4)] [.int t0] (Z, I, L, O) := by
  unfold f12_layCommon_c122 at h
  refine ok_istore (l' := [(5, .int t0), (0, .ref b0), (1, .int y1), (2, .int y2), (3, .int y3), (4, .int y4)]) dX12_layCommon_122 (Nat.le_of_ble_eq_true rfl) rfl ?_
  refine ok_aload_n dX12_layCommon_124 1 rfl ?_
  refine ok_iload_n dX12_layCommon_125 2 rfl ?_
  refine ok_iload_n dX12_layCommon_126 4 rfl ?_
  refine ok_iload_n dX12_layCommon_127 3 rfl ?_
  refine ok_iload dX12_layCommon_128 5 rfl ?_
  obtain ⟨r1, hr2, h⟩ := bd h
  refine ok_callV (d := ((d + 0) + 5)) (mt := m12_areOne) (mc := 0) (ms := 0) (As := [.int y1, .int y3, .int y2, .int y4]) (r := []) dX12_layCommon_130 mo12_areOne mv12_areOne lkRX12_422 rfl hZ_b0 (q := (RX12, TX12, 34)) rfl rfl rfl (Nat.le_of_ble_eq_true rfl) (by show _ + 1 ≤ d + _; omega) (Nat.le_refl _) (Nat.le_refl _) (pRt_mono ?_)
  refine k12_areOne (d + 0) hW hZ_b0 hr2 ?_
  intro hbr1
  show Ok g _ Qx 133 [(5, .int t0), (0, .ref b0), (1, .int y1), (2, .int y2), (3, .int y3), (4, .int y4)] [.int r1] (Z, I, L, O)
  refine ok_if_eq (t := 177) dX12_layCommon_133 (by decide) (fun hc3 => ?_) (fun hc3 => ?_)
  · have h := (if_pos hc3).symm.trans h
    refine ok_sub [1, 2, 3, 4, 5, 0] rfl ?_
    exact o12_layCommon_c177 d hW hQ hk10 hk25 I b0 y1 y2 y3 y4 t0 hZ_b0 h
  · have h := (if_neg hc3).symm.trans h
    refine ok_aload_n dX12_layCommon_136 1 rfl ?_
    have hT4 : Z[(rO O b0 26)]? = some (13, 289) := (wt_f (ci := 12) (k := 26) hW hZ_b0 rfl).2
    refine ok_getR (ci := 12) (k := 26) dX12_layCommon_137 flRX12_50 rfl hW hZ_b0 (by decide) ?_
    refine ok_bipush (v := 17) dX12_layCommon_140 (by decide) ?_
    refine ok_iload_n dX12_layCommon_142 4 rfl ?_
    refine ok_iconst (v := 1) dX12_layCommon_143 (by decide) ?_
    refine ok_iadd dX12_layCommon_144 ?_
    refine ok_imul dX12_layCommon_145 ?_
    refine ok_iload dX12_layCommon_146 5 rfl ?_
    refine ok_iadd dX12_layCommon_148 ?_
    refine ok_iconst (v := 1) dX12_layCommon_149 (by decide) ?_
    refine ok_iadd dX12_layCommon_150 ?_
    obtain ⟨hg5, h⟩ := gd h
    refine ok_iald2 (N := ((((17 : Int32) * (y3 + 1)) + y4) + 1).toNatClampNeg) dX12_layCommon_151 hT4 hg5 rfl ?_
    refine ok_iload dX12_layCommon_152 0 rfl ?_
    refine ok_icmp_lt (t := 177) dX12_layCommon_154 (by decide) (fun hc6 => ?_) (fun hc6 => ?_)
    · have h := (if_pos hc6).symm.trans h
      refine ok_sub [1, 2, 3, 4, 5, 0] rfl ?_
      exact o12_layCommon_c177 d hW hQ hk10 hk25 I b0 y1 y2 y3 y4 t0 hZ_b0 h
    · have h := (if_neg hc6).symm.trans h
      refine ok_aload_n dX12_layCommon_157 1 rfl ?_
      refine ok_getR (ci := 12) (k := 26) dX12_layCommon_158 flRX12_50 rfl hW hZ_b0 (by decide) ?_
      refine ok_bipush (v := 17) dX12_layCommon_161 (by decide) ?_
      refine ok_iload_n dX12_layCommon_163 4 rfl ?_
      refine ok_iconst (v := 1) dX12_layCommon_164 (by decide) ?_
      refine ok_iadd dX12_layCommon_165 ?_
      refine ok_imul dX12_layCommon_166 ?_
      refine ok_iload dX12_layCommon_167 5 rfl ?_
      refine ok_iadd dX12_layCommon_169 ?_
      refine ok_iconst (v := 1) dX12_layCommon_170 (by decide) ?_
      refine ok_iadd dX12_layCommon_171 ?_
      obtain ⟨hg7, h⟩ := gd h
      refine ok_iald2 (N := ((((17 : Int32) * (y3 + 1)) + y4) + 1).toNatClampNeg) dX12_layCommon_172 hT4 hg7 rfl ?_
      refine ok_iconst (v := 1) dX12_layCommon_173 (by decide) ?_
      refine ok_iadd dX12_layCommon_174 ?_
      obtain ⟨z8, ez8, h⟩ := blE h
      refine ok_nm ez8 ?_
      refine ok_istore (l' := [(5, .int z8), (0, .ref b0), (1, .int y1), (2, .int y2), (3, .int y3), (4, .int y4)]) dX12_layCommon_175 (Nat.le_of_ble_eq_true rfl) rfl ?_
      refine ok_sub [1, 2, 3, 4, 5, 0] rfl ?_
      exact o12_layCommon_c177 d hW hQ hk10 hk25 I b0 y1 y2 y3 y4 z8 hZ_b0 h
def f12_layCommon_c25 (n : Nat) (O : (Nat → Nat → Option Nat)) (k10 : ((Nat → Nat → Int32) → Nat → Int32 → Int32 → Int32 → Option ((Nat → Nat → Int32)))) : Nat → (Nat → Nat → Int32) → Nat → Int32 → Int32 → Int32 → Int32 → Option ((Nat → Nat → Int32))
  | 0, _, _, _, _, _, _ => none
  | m + 1, I, b0, y1, y2, y3, y4 => (if y4 < 0 then k10 I b0 y1 y2 (y3 + (-1)) else (if ((114 : Int32) + y1) < 0 ∨ 4371 ≤ ((114 : Int32) + y1).toNatClampNeg then none else (if (I (rO O b0 0) ((114 : Int32) + y1).toNatClampNeg) ≤ y3 then f12_layCommon_c177 n O k10 (f12_layCommon_c25 n O k10 m) I b0 y1 y2 y3 y4 (0 : Int32) else (if ((114 : Int32) + y2) < 0 ∨ 4371 ≤ ((114 : Int32) + y2).toNatClampNeg then none else (if (I (rO O b0 0) ((114 : Int32) + y2).toNatClampNeg) ≤ y4 then f12_layCommon_c177 n O k10 (f12_layCommon_c25 n O k10 m) I b0 y1 y2 y3 y4 (0 : Int32) else (if (((17 : Int32) * (y3 + 1)) + y4) < 0 ∨ 289 ≤ (((17 : Int32) * (y3 + 1)) + y4).toNatClampNeg then none else (if ((((17 : Int32) * y3) + y4) + 1) < 0 ∨ 289 ≤ ((((17 : Int32) * y3) + y4) + 1).toNatClampNeg then none else (if (I (rO O b0 26) (((17 : Int32) * (y3 + 1)) + y4).toNatClampNeg) ≤ (I (rO O b0 26) ((((17 : Int32) * y3) + y4) + 1).toNatClampNeg) then (if ((((17 : Int32) * y3) + y4) + 1) < 0 ∨ 289 ≤ ((((17 : Int32) * y3) + y4) + 1).toNatClampNeg then none else f12_layCommon_c122 n O k10 (f12_layCommon_c25 n O k10 m) I b0 y1 y2 y3 y4 (I (rO O b0 26) ((((17 : Int32) * y3) + y4) + 1).toNatClampNeg)) else (if (((17 : Int32) * (y3 + 1)) + y4) < 0 ∨ 289 ≤ (((17 : Int32) * (y3 + 1)) + y4).toNatClampNeg then none else f12_layCommon_c122 n O k10 (f12_layCommon_c25 n O k10 m) I b0 y1 y2 y3 y4 (I (rO O b0 26) (((17 : Int32) * (y3 + 1)) + y4).toNatClampNeg))))))))))
set_option maxHeartbeats 4000000 in
set_option maxRecDepth 20000 in
theorem o12_layCommon_c25 {g : pG} {Qx : Option Value → pW → Prop} {Z : pZ} {L : (Nat → Nat → Int64)} {O : (Nat → Nat → Option Nat)} {n : Nat} {k10 : ((Nat → Nat → Int32) → Nat → Int32 → Int32 → Int32 → Option ((Nat → Nat → Int32)))} {res : (Nat → Nat → Int32)} (d : Nat) (hW : WT Z O) (hQ : Qx none (Z, res, L, O)) (hk10 : ∀ (I : (Nat → Nat → Int32)) (b0 : Nat) (y1 : Int32) (y2 : Int32) (y3 : Int32), (Z[b0]? = some (12, 34)) → k10 I b0 y1 y2 y3 = some res → Ok g (d + 6, RX12, cX12_layCommon, 6, false, 0, 0, Z.length, pSl Z) Qx 10 [(0, .ref b0), (1, .int y1), (2, .int y2), (3, .int y3)] [] (Z, I, L, O)) : ∀ (m : Nat) (I : (Nat → Nat → Int32)) (b0 : Nat) (y1 : Int32) (y2 : Int32) (y3 : Int32) (y4 : Int32), (Z[b0]? = some (12, 34)) → f12_layCommon_c25 n O k10 m I b0 y1 y2 y3 y4 = some res → Ok g (d + 6, RX12, cX12_layCommon, 6, false, 0, 0, Z.length, pSl Z) Qx 25 [(0, .ref b0), (1, .int y1), (2, .int y2), (3, .int y3), (4, .int y4)] [] (Z, I, L, O) := by
  intro m
  induction m with
  | zero => intro I b0 y1 y2 y3 y4 hZ_b0 h; rw [f12_layCommon_c25] at h; cases h
  | succ m ih =>
    intro I b0 y1 y2 y3 y4 hZ_b0 h
    rw [f12_layCommon_c25] at h
    refine ok_iload dX12_layCommon_25 4 rfl ?_
    refine ok_if_lt (t := 197) dX12_layCommon_27 (by decide) (fun hc1 => ?_) (fun hc1 => ?_)
    · have h := (if_pos hc1).symm.trans h
      refine ok_iinc (u := (y3 + (-1))) (l' := [(3, .int (y3 + (-1))), (0, .ref b0), (1, .int y1), (2, .int y2), (4, .int y4)]) dX12_layCommon_197 3 rfl rfl (Nat.le_of_ble_eq_true rfl) rfl ?_
      refine ok_goto (t := 10) dX12_layCommon_200 (by decide) ?_
      refine ok_sub [1, 2, 3, 0] rfl ?_
      exact hk10 I b0 y1 y2 (y3 + (-1)) hZ_b0 h
    · have h := (if_neg hc1).symm.trans h
      refine ok_iconst (v := 0) dX12_layCommon_30 (by decide) ?_
      refine ok_istore (l' := [(5, .int 0), (0, .ref b0), (1, .int y1), (2, .int y2), (3, .int y3), (4, .int y4)]) dX12_layCommon_31 (Nat.le_of_ble_eq_true rfl) rfl ?_
      refine ok_iload_n dX12_layCommon_33 4 rfl ?_
      refine ok_aload_n dX12_layCommon_34 1 rfl ?_
      have hT2 : Z[(rO O b0 0)]? = some (13, 4371) := (wt_f (ci := 12) (k := 0) hW hZ_b0 rfl).2
      refine ok_getR (ci := 12) (k := 0) dX12_layCommon_35 flRX12_7 rfl hW hZ_b0 (by decide) ?_
      refine ok_bipush (v := 114) dX12_layCommon_38 (by decide) ?_
      refine ok_iload_n dX12_layCommon_40 2 rfl ?_
      refine ok_iadd dX12_layCommon_41 ?_
      obtain ⟨hg3, h⟩ := gd h
      refine ok_iald2 (N := ((114 : Int32) + y1).toNatClampNeg) dX12_layCommon_42 hT2 hg3 rfl ?_
      refine ok_icmp_ge (t := 177) dX12_layCommon_43 (by decide) (fun hc4 => ?_) (fun hc4 => ?_)
      · have h := (if_pos hc4).symm.trans h
        refine ok_sub [1, 2, 3, 4, 5, 0] rfl ?_
        exact o12_layCommon_c177 d hW hQ hk10 ih I b0 y1 y2 y3 y4 (0 : Int32) hZ_b0 h
      · have h := (if_neg hc4).symm.trans h
        refine ok_iload dX12_layCommon_46 5 rfl ?_
        refine ok_aload_n dX12_layCommon_48 1 rfl ?_
        refine ok_getR (ci := 12) (k := 0) dX12_layCommon_49 flRX12_7 rfl hW hZ_b0 (by decide) ?_
        refine ok_bipush (v := 114) dX12_layCommon_52 (by decide) ?_
        refine ok_iload_n dX12_layCommon_54 3 rfl ?_
        refine ok_iadd dX12_layCommon_55 ?_
        obtain ⟨hg5, h⟩ := gd h
        refine ok_iald2 (N := ((114 : Int32) + y2).toNatClampNeg) dX12_layCommon_56 hT2 hg5 rfl ?_
        refine ok_icmp_ge (t := 177) dX12_layCommon_57 (by decide) (fun hc6 => ?_) (fun hc6 => ?_)
        · have h := (if_pos hc6).symm.trans h
          refine ok_sub [1, 2, 3, 4, 5, 0] rfl ?_
          exact o12_layCommon_c177 d hW hQ hk10 ih I b0 y1 y2 y3 y4 (0 : Int32) hZ_b0 h
        · have h := (if_neg hc6).symm.trans h
          refine ok_aload_n dX12_layCommon_60 1 rfl ?_
          have hT7 : Z[(rO O b0 26)]? = some (13, 289) := (wt_f (ci := 12) (k := 26) hW hZ_b0 rfl).2
          refine ok_getR (ci := 12) (k := 26) dX12_layCommon_61 flRX12_50 rfl hW hZ_b0 (by decide) ?_
          refine ok_bipush (v := 17) dX12_layCommon_64 (by decide) ?_
          refine ok_iload_n dX12_layCommon_66 4 rfl ?_
          refine ok_iconst (v := 1) dX12_layCommon_67 (by decide) ?_
          refine ok_iadd dX12_layCommon_68 ?_
          refine ok_imul dX12_layCommon_69 ?_
          refine ok_iload dX12_layCommon_70 5 rfl ?_
          refine ok_iadd dX12_layCommon_72 ?_
          obtain ⟨hg8, h⟩ := gd h
          refine ok_iald2 (N := (((17 : Int32) * (y3 + 1)) + y4).toNatClampNeg) dX12_layCommon_73 hT7 hg8 rfl ?_
          refine ok_aload_n dX12_layCommon_74 1 rfl ?_
          refine ok_getR (ci := 12) (k := 26) dX12_layCommon_75 flRX12_50 rfl hW hZ_b0 (by decide) ?_
          refine ok_bipush (v := 17) dX12_layCommon_78 (by decide) ?_
          refine ok_iload_n dX12_layCommon_80 4 rfl ?_
          refine ok_imul dX12_layCommon_81 ?_
          refine ok_iload dX12_layCommon_82 5 rfl ?_
          refine ok_iadd dX12_layCommon_84 ?_
          refine ok_iconst (v := 1) dX12_layCommon_85 (by decide) ?_
          refine ok_iadd dX12_layCommon_86 ?_
          obtain ⟨hg9, h⟩ := gd h
          refine ok_iald2 (N := ((((17 : Int32) * y3) + y4) + 1).toNatClampNeg) dX12_layCommon_87 hT7 hg9 rfl ?_
          refine ok_icmp_le (t := 108) dX12_layCommon_88 (by decide) (fun hc10 => ?_) (fun hc10 => ?_)
          · have h := (if_pos hc10).symm.trans h
            refine ok_aload_n dX12_layCommon_108 1 rfl ?_
            refine ok_getR (ci := 12) (k := 26) dX12_layCommon_109 flRX12_50 rfl hW hZ_b0 (by decide) ?_
            refine ok_bipush (v := 17) dX12_layCommon_112 (by decide) ?_
            refine ok_iload_n dX12_layCommon_114 4 rfl ?_
            refine ok_imul dX12_layCommon_115 ?_
            refine ok_iload dX12_layCommon_116 5 rfl ?_
            refine ok_iadd dX12_layCommon_118 ?_
            refine ok_iconst (v := 1) dX12_layCommon_119 (by decide) ?_
            refine ok_iadd dX12_layCommon_120 ?_
            obtain ⟨hg11, h⟩ := gd h
            refine ok_iald2 (N := ((((17 : Int32) * y3) + y4) + 1).toNatClampNeg) dX12_layCommon_121 hT7 hg11 rfl ?_
            refine ok_sub [1, 2, 3, 4, 5] rfl ?_
            exact o12_layCommon_c122 d hW hQ hk10 ih I b0 y1 y2 y3 y4 (I (rO O b0 26) ((((17 : Int32) * y3) + y4) + 1).toNatClampNeg) hZ_b0 h
          · have h := (if_neg hc10).symm.trans h
            refine ok_aload_n dX12_layCommon_91 1 rfl ?_
            refine ok_getR (ci := 12) (k := 26) dX12_layCommon_92 flRX12_50 rfl hW hZ_b0 (by decide) ?_
            refine ok_bipush (v := 17) dX12_layCommon_95 (by decide) ?_
            refine ok_iload_n dX12_layCommon_97 4 rfl ?_
            refine ok_iconst (v := 1) dX12_layCommon_98 (by decide) ?_
            refine ok_iadd dX12_layCommon_99 ?_
            refine ok_imul dX12_layCommon_100 ?_
            refine ok_iload dX12_layCommon_101 5 rfl ?_
            refine ok_iadd dX12_layCommon_103 ?_
            obtain ⟨hg12, h⟩ := gd h
            refine ok_iald2 (N := (((17 : Int32) * (y3 + 1)) + y4).toNatClampNeg) dX12_layCommon_104 hT7 hg12 rfl ?_
            refine ok_goto (t := 122) dX12_layCommon_105 (by decide) ?_
            refine ok_sub [1, 2, 3, 4, 5] rfl ?_
            exact o12_layCommon_c122 d hW hQ hk10 ih I b0 y1 y2 y3 y4 (I (rO O b0 26) (((17 : Int32) * (y3 + 1)) + y4).toNatClampNeg) hZ_b0 h
def f12_layCommon_c10 (n : Nat) (O : (Nat → Nat → Option Nat)) : Nat → (Nat → Nat → Int32) → Nat → Int32 → Int32 → Int32 → Option ((Nat → Nat → Int32))
  | 0, _, _, _, _, _ => none
  | m + 1, I, b0, y1, y2, y3 => (if y3 < 0 then some (I) else (if ((114 : Int32) + y2) < 0 ∨ 4371 ≤ ((114 : Int32) + y2).toNatClampNeg then none else bl ((I (rO O b0 0) ((114 : Int32) + y2).toNatClampNeg) : Int32) fun z4 => f12_layCommon_c25 n O (f12_layCommon_c10 n O m) n I b0 y1 y2 y3 z4))
set_option maxHeartbeats 4000000 in
set_option maxRecDepth 20000 in
theorem o12_layCommon_c10 {g : pG} {Qx : Option Value → pW → Prop} {Z : pZ} {L : (Nat → Nat → Int64)} {O : (Nat → Nat → Option Nat)} {n : Nat} {res : (Nat → Nat → Int32)} (d : Nat) (hW : WT Z O) (hQ : Qx none (Z, res, L, O)) : ∀ (m : Nat) (I : (Nat → Nat → Int32)) (b0 : Nat) (y1 : Int32) (y2 : Int32) (y3 : Int32), (Z[b0]? = some (12, 34)) → f12_layCommon_c10 n O m I b0 y1 y2 y3 = some res → Ok g (d + 6, RX12, cX12_layCommon, 6, false, 0, 0, Z.length, pSl Z) Qx 10 [(0, .ref b0), (1, .int y1), (2, .int y2), (3, .int y3)] [] (Z, I, L, O) := by
  intro m
  induction m with
  | zero => intro I b0 y1 y2 y3 hZ_b0 h; rw [f12_layCommon_c10] at h; cases h
  | succ m ih =>
    intro I b0 y1 y2 y3 hZ_b0 h
    rw [f12_layCommon_c10] at h
    refine ok_iload_n dX12_layCommon_10 3 rfl ?_
    refine ok_if_lt (t := 203) dX12_layCommon_11 (by decide) (fun hc1 => ?_) (fun hc1 => ?_)
    · have h := (if_pos hc1).symm.trans h
      cases h
      exact ok_vret dX12_layCommon_203 hQ
    · have h := (if_neg hc1).symm.trans h
      refine ok_aload_n dX12_layCommon_14 0 rfl ?_
      have hT2 : Z[(rO O b0 0)]? = some (13, 4371) := (wt_f (ci := 12) (k := 0) hW hZ_b0 rfl).2
      refine ok_getR (ci := 12) (k := 0) dX12_layCommon_15 flRX12_7 rfl hW hZ_b0 (by decide) ?_
      refine ok_bipush (v := 114) dX12_layCommon_18 (by decide) ?_
      refine ok_iload_n dX12_layCommon_20 2 rfl ?_
      refine ok_iadd dX12_layCommon_21 ?_
      obtain ⟨hg3, h⟩ := gd h
      refine ok_iald2 (N := ((114 : Int32) + y2).toNatClampNeg) dX12_layCommon_22 hT2 hg3 rfl ?_
      obtain ⟨z4, ez4, h⟩ := blE h
      refine ok_nm ez4 ?_
      refine ok_istore (l' := [(4, .int z4), (0, .ref b0), (1, .int y1), (2, .int y2), (3, .int y3)]) dX12_layCommon_23 (Nat.le_of_ble_eq_true rfl) rfl ?_
      refine ok_sub [1, 2, 3, 4, 0] rfl ?_
      exact o12_layCommon_c25 d hW hQ ih n I b0 y1 y2 y3 z4 hZ_b0 h
def f12_layCommon (n : Nat) (I : (Nat → Nat → Int32)) (O : (Nat → Nat → Option Nat)) (a0 : Nat) (x1 : Int32) (x2 : Int32) : Option ((Nat → Nat → Int32)) := (if ((114 : Int32) + x1) < 0 ∨ 4371 ≤ ((114 : Int32) + x1).toNatClampNeg then none else bl ((I (rO O a0 0) ((114 : Int32) + x1).toNatClampNeg) : Int32) fun z3 => f12_layCommon_c10 n O n I a0 x1 x2 z3)
set_option maxHeartbeats 4000000 in
set_option maxRecDepth 20000 in
theorem o12_layCommon {g : pG} {Qx : Option Value → pW → Prop} {Z : pZ} {I : (Nat → Nat → Int32)} {L : (Nat → Nat → Int64)} {O : (Nat → Nat → Option Nat)} {n : Nat} {a0 : Nat} {x1 : Int32} {x2 : Int32} {res : (Nat → Nat → Int32)} (d : Nat) (hW : WT Z O) (hZ0 : Z[a0]? = some (12, 34)) (h : f12_layCommon n I O a0 x1 x2 = some res) (hQ : Qx none (Z, res, L, O)) : Ok g (d + 6, RX12, cX12_layCommon, 6, false, 0, 0, Z.length, pSl Z) Qx 0 [(0, .ref a0), (1, .int x1), (2, .int x2)] [] (Z, I, L, O) := by
  unfold f12_layCommon at h
  refine ok_aload_n dX12_layCommon_0 0 rfl ?_
  have hT1 : Z[(rO O a0 0)]? = some (13, 4371) := (wt_f (ci := 12) (k := 0) hW hZ0 rfl).2
  refine ok_getR (ci := 12) (k := 0) dX12_layCommon_1 flRX12_7 rfl hW hZ0 (by decide) ?_
  refine ok_bipush (v := 114) dX12_layCommon_4 (by decide) ?_
  refine ok_iload_n dX12_layCommon_6 1 rfl ?_
  refine ok_iadd dX12_layCommon_7 ?_
  obtain ⟨hg2, h⟩ := gd h
  refine ok_iald2 (N := ((114 : Int32) + x1).toNatClampNeg) dX12_layCommon_8 hT1 hg2 rfl ?_
  obtain ⟨z3, ez3, h⟩ := blE h
  refine ok_nm ez3 ?_
  refine ok_istore_n (l' := [(3, .int z3), (0, .ref a0), (1, .int x1), (2, .int x2)]) dX12_layCommon_9 rfl (Nat.le_of_ble_eq_true rfl) rfl ?_
  refine ok_sub [1, 2, 3, 0] rfl ?_
  exact o12_layCommon_c10 d hW hQ  n I a0 x1 x2 z3 hZ0 h
theorem k12_layCommon {g : pG} {Q : Option Value → pW → Prop} {Z : pZ} {I : (Nat → Nat → Int32)} {L : (Nat → Nat → Int64)} {O : (Nat → Nat → Option Nat)} {n : Nat} {a0 : Nat} {x1 : Int32} {x2 : Int32} {res : (Nat → Nat → Int32)} (d : Nat) (hW : WT Z O) (hZ0 : Z[a0]? = some (12, 34)) (h : f12_layCommon n I O a0 x1 x2 = some res) (hQ : Q none (Z, res, L, O)) : CT g (d + 6) m12_layCommon 0 0 [.ref a0, .int x1, .int x2] (Z, I, L, O) Q :=
  ct_of_ok (mt := m12_layCommon) (ini := false) mo12_layCommon.2.2.2.2 (fun h => by cases h) (Nat.le_of_ble_eq_true rfl) (o12_layCommon d hW hZ0 h ⟨trivial, hQ, rfl, rfl⟩)
theorem dX12_firstLike_0 : decode cX12_firstLike 0 = .ok (.iload 4, 2) := by decide +kernel
theorem dX12_firstLike_2 : decode cX12_firstLike 2 = .ok (.istore 5, 2) := by decide +kernel
theorem dX12_firstLike_4 : decode cX12_firstLike 4 = .ok (.iload 5, 2) := by decide +kernel
theorem dX12_firstLike_6 : decode cX12_firstLike 6 = .ok (.aload_n 0, 1) := by decide +kernel
theorem dX12_firstLike_7 : decode cX12_firstLike 7 = .ok (.getfield 7, 3) := by decide +kernel
theorem dX12_firstLike_10 : decode cX12_firstLike 10 = .ok (.bipush 114, 2) := by decide +kernel
theorem dX12_firstLike_12 : decode cX12_firstLike 12 = .ok (.iload_n 3, 1) := by decide +kernel
theorem dX12_firstLike_13 : decode cX12_firstLike 13 = .ok (.iadd, 1) := by decide +kernel
theorem dX12_firstLike_14 : decode cX12_firstLike 14 = .ok (.iaload, 1) := by decide +kernel
theorem dX12_firstLike_15 : decode cX12_firstLike 15 = .ok (.if_icmp .ge 21, 3) := by decide +kernel
theorem dX12_firstLike_18 : decode cX12_firstLike 18 = .ok (.aload_n 0, 1) := by decide +kernel
theorem dX12_firstLike_19 : decode cX12_firstLike 19 = .ok (.iload_n 1, 1) := by decide +kernel
theorem dX12_firstLike_20 : decode cX12_firstLike 20 = .ok (.iload_n 2, 1) := by decide +kernel
theorem dX12_firstLike_21 : decode cX12_firstLike 21 = .ok (.iload_n 3, 1) := by decide +kernel
theorem dX12_firstLike_22 : decode cX12_firstLike 22 = .ok (.iload 5, 2) := by decide +kernel
theorem dX12_firstLike_24 : decode cX12_firstLike 24 = .ok (.invokevirtual 422, 3) := by decide +kernel
theorem dX12_firstLike_27 : decode cX12_firstLike 27 = .ok (.ifCond .ne 9, 3) := by decide +kernel
theorem dX12_firstLike_30 : decode cX12_firstLike 30 = .ok (.iinc 5 1, 3) := by decide +kernel
theorem dX12_firstLike_33 : decode cX12_firstLike 33 = .ok (.goto (-29), 3) := by decide +kernel
theorem dX12_firstLike_36 : decode cX12_firstLike 36 = .ok (.iload 5, 2) := by decide +kernel
theorem dX12_firstLike_38 : decode cX12_firstLike 38 = .ok (.ireturn, 1) := by decide +kernel
def m12_firstLike : pMT := (yX12_firstLike, cX12_firstLike, 6, some .int)
theorem mo12_firstLike : mOK m12_firstLike 4 := ⟨tb_i 1867 (by decide +kernel), wi_RX12, ⟨wn_RX12.1, wn_RX12.2, by decide +kernel⟩, by decide, plainFor_of_name wp_RX12⟩
theorem mv12_firstLike : mV m12_firstLike := ⟨tb_i 1866 (by decide +kernel), tb_p 125 (by decide +kernel)⟩
def f12_firstLike_c4 (n : Nat) (I : (Nat → Nat → Int32)) (O : (Nat → Nat → Option Nat)) : Nat → Nat → Int32 → Int32 → Int32 → Int32 → Option (Int32)
  | 0, _, _, _, _, _ => none
  | m + 1, b0, y1, y2, y3, y5 => (if ((114 : Int32) + y3) < 0 ∨ 4371 ≤ ((114 : Int32) + y3).toNatClampNeg then none else (if (I (rO O b0 0) ((114 : Int32) + y3).toNatClampNeg) ≤ y5 then some (y5) else (f12_areOne I O b0 y1 y2 y3 y5).bind fun r4 => (if r4 = 0 then f12_firstLike_c4 n I O m b0 y1 y2 y3 (y5 + 1) else some (y5))))
set_option maxHeartbeats 4000000 in
set_option maxRecDepth 20000 in
theorem o12_firstLike_c4 {g : pG} {Qx : Option Value → pW → Prop} {Z : pZ} {I : (Nat → Nat → Int32)} {L : (Nat → Nat → Int64)} {O : (Nat → Nat → Option Nat)} {n : Nat} {res : Int32} (d : Nat) (hW : WT Z O) (hQ : Qx (some (.int res)) (Z, I, L, O)) : ∀ (m : Nat) (b0 : Nat) (y1 : Int32) (y2 : Int32) (y3 : Int32) (y5 : Int32), (Z[b0]? = some (12, 34)) → f12_firstLike_c4 n I O m b0 y1 y2 y3 y5 = some res → Ok g (d + 6, RX12, cX12_firstLike, 6, false, 0, 0, Z.length, pSl Z) Qx 4 [(0, .ref b0), (1, .int y1), (2, .int y2), (3, .int y3), (5, .int y5)] [] (Z, I, L, O) := by
  intro m
  induction m with
  | zero => intro b0 y1 y2 y3 y5 hZ_b0 h; rw [f12_firstLike_c4] at h; cases h
  | succ m ih =>
    intro b0 y1 y2 y3 y5 hZ_b0 h
    rw [f12_firstLike_c4] at h
    refine ok_iload dX12_firstLike_4 4 rfl ?_
    refine ok_aload_n dX12_firstLike_6 0 rfl ?_
    have hT1 : Z[(rO O b0 0)]? = some (13, 4371) := (wt_f (ci := 12) (k := 0) hW hZ_b0 rfl).2
    refine ok_getR (ci := 12) (k := 0) dX12_firstLike_7 flRX12_7 rfl hW hZ_b0 (by decide) ?_
    refine ok_bipush (v := 114) dX12_firstLike_10 (by decide) ?_
    refine ok_iload_n dX12_firstLike_12 3 rfl ?_
    refine ok_iadd dX12_firstLike_13 ?_
    obtain ⟨hg2, h⟩ := gd h
    refine ok_iald2 (N := ((114 : Int32) + y3).toNatClampNeg) dX12_firstLike_14 hT1 hg2 rfl ?_
    refine ok_icmp_ge (t := 36) dX12_firstLike_15 (by decide) (fun hc3 => ?_) (fun hc3 => ?_)
    · have h := (if_pos hc3).symm.trans h
      refine ok_iload dX12_firstLike_36 4 rfl ?_
      cases h
      exact ok_iret dX12_firstLike_38 hQ
    · have h := (if_neg hc3).symm.trans h
      refine ok_aload_n dX12_firstLike_18 0 rfl ?_
      refine ok_iload_n dX12_firstLike_19 1 rfl ?_
      refine ok_iload_n dX12_firstLike_20 2 rfl ?_
      refine ok_iload_n dX12_firstLike_21 3 rfl ?_
      refine ok_iload dX12_firstLike_22 4 rfl ?_
      obtain ⟨r4, hr5, h⟩ := bd h
      refine ok_callV (d := ((d + 0) + 5)) (mt := m12_areOne) (mc := 0) (ms := 0) (As := [.int y1, .int y2, .int y3, .int y5]) (r := []) dX12_firstLike_24 mo12_areOne mv12_areOne lkRX12_422 rfl hZ_b0 (q := (RX12, TX12, 34)) rfl rfl rfl (Nat.le_of_ble_eq_true rfl) (by show _ + 1 ≤ d + _; omega) (Nat.le_refl _) (Nat.le_refl _) (pRt_mono ?_)
      refine k12_areOne (d + 0) hW hZ_b0 hr5 ?_
      intro hbr4
      show Ok g _ Qx 27 [(0, .ref b0), (1, .int y1), (2, .int y2), (3, .int y3), (5, .int y5)] [.int r4] (Z, I, L, O)
      refine ok_if_ne (t := 36) dX12_firstLike_27 (by decide) (fun hc6 => ?_) (fun hc6 => ?_)
      · have h := (if_neg hc6).symm.trans h
        refine ok_iload dX12_firstLike_36 4 rfl ?_
        cases h
        exact ok_iret dX12_firstLike_38 hQ
      · have h := (if_pos hc6).symm.trans h
        refine ok_iinc (u := (y5 + 1)) (l' := [(5, .int (y5 + 1)), (0, .ref b0), (1, .int y1), (2, .int y2), (3, .int y3)]) dX12_firstLike_30 4 rfl rfl (Nat.le_of_ble_eq_true rfl) rfl ?_
        refine ok_goto (t := 4) dX12_firstLike_33 (by decide) ?_
        refine ok_sub [1, 2, 3, 4, 0] rfl ?_
        exact ih b0 y1 y2 y3 (y5 + 1) hZ_b0 h
def f12_firstLike (n : Nat) (I : (Nat → Nat → Int32)) (O : (Nat → Nat → Option Nat)) (a0 : Nat) (x1 : Int32) (x2 : Int32) (x3 : Int32) (x4 : Int32) : Option (Int32) := f12_firstLike_c4 n I O n a0 x1 x2 x3 x4
set_option maxHeartbeats 4000000 in
set_option maxRecDepth 20000 in
theorem o12_firstLike {g : pG} {Qx : Option Value → pW → Prop} {Z : pZ} {I : (Nat → Nat → Int32)} {L : (Nat → Nat → Int64)} {O : (Nat → Nat → Option Nat)} {n : Nat} {a0 : Nat} {x1 : Int32} {x2 : Int32} {x3 : Int32} {x4 : Int32} {res : Int32} (d : Nat) (hW : WT Z O) (hZ0 : Z[a0]? = some (12, 34)) (h : f12_firstLike n I O a0 x1 x2 x3 x4 = some res) (hQ : Qx (some (.int res)) (Z, I, L, O)) : Ok g (d + 6, RX12, cX12_firstLike, 6, false, 0, 0, Z.length, pSl Z) Qx 0 [(0, .ref a0), (1, .int x1), (2, .int x2), (3, .int x3), (4, .int x4)] [] (Z, I, L, O) := by
  unfold f12_firstLike at h
  refine ok_iload dX12_firstLike_0 4 rfl ?_
  refine ok_istore (l' := [(5, .int x4), (0, .ref a0), (1, .int x1), (2, .int x2), (3, .int x3), (4, .int x4)]) dX12_firstLike_2 (Nat.le_of_ble_eq_true rfl) rfl ?_
  refine ok_sub [1, 2, 3, 4, 0] rfl ?_
  exact o12_firstLike_c4 d hW hQ  n a0 x1 x2 x3 x4 hZ0 h
theorem k12_firstLike {g : pG} {Q : Option Value → pW → Prop} {Z : pZ} {I : (Nat → Nat → Int32)} {L : (Nat → Nat → Int64)} {O : (Nat → Nat → Option Nat)} {n : Nat} {a0 : Nat} {x1 : Int32} {x2 : Int32} {x3 : Int32} {x4 : Int32} {res : Int32} (d : Nat) (hW : WT Z O) (hZ0 : Z[a0]? = some (12, 34)) (h : f12_firstLike n I O a0 x1 x2 x3 x4 = some res) (hQ : Q (some (.int res)) (Z, I, L, O)) : CT g (d + 6) m12_firstLike 0 0 [.ref a0, .int x1, .int x2, .int x3, .int x4] (Z, I, L, O) Q :=
  ct_of_ok (mt := m12_firstLike) (ini := false) mo12_firstLike.2.2.2.2 (fun h => by cases h) (Nat.le_of_ble_eq_true rfl) (o12_firstLike d hW hZ0 h ⟨trivial, hQ, rfl, rfl⟩)
theorem dX12_common_0 : decode cX12_common 0 = .ok (.aload_n 0, 1) := by decide +kernel
theorem dX12_common_1 : decode cX12_common 1 = .ok (.iload_n 1, 1) := by decide +kernel
theorem dX12_common_2 : decode cX12_common 2 = .ok (.invokevirtual 79, 3) := by decide +kernel
theorem dX12_common_5 : decode cX12_common 5 = .ok (.ifCond .eq 11, 3) := by decide +kernel
theorem dX12_common_8 : decode cX12_common 8 = .ok (.aload_n 0, 1) := by decide +kernel
theorem dX12_common_9 : decode cX12_common 9 = .ok (.iload_n 2, 1) := by decide +kernel
theorem dX12_common_10 : decode cX12_common 10 = .ok (.invokevirtual 79, 3) := by decide +kernel
theorem dX12_common_13 : decode cX12_common 13 = .ok (.ifCond .ne 6, 3) := by decide +kernel
theorem dX12_common_16 : decode cX12_common 16 = .ok (.bipush (-2), 2) := by decide +kernel
theorem dX12_common_18 : decode cX12_common 18 = .ok (.ireturn, 1) := by decide +kernel
theorem dX12_common_19 : decode cX12_common 19 = .ok (.aload_n 0, 1) := by decide +kernel
theorem dX12_common_20 : decode cX12_common 20 = .ok (.iload_n 1, 1) := by decide +kernel
theorem dX12_common_21 : decode cX12_common 21 = .ok (.iload_n 2, 1) := by decide +kernel
theorem dX12_common_22 : decode cX12_common 22 = .ok (.invokevirtual 426, 3) := by decide +kernel
theorem dX12_common_25 : decode cX12_common 25 = .ok (.iload_n 3, 1) := by decide +kernel
theorem dX12_common_26 : decode cX12_common 26 = .ok (.iconst (-1), 1) := by decide +kernel
theorem dX12_common_27 : decode cX12_common 27 = .ok (.aload_n 0, 1) := by decide +kernel
theorem dX12_common_28 : decode cX12_common 28 = .ok (.getfield 50, 3) := by decide +kernel
theorem dX12_common_31 : decode cX12_common 31 = .ok (.iconst 0, 1) := by decide +kernel
theorem dX12_common_32 : decode cX12_common 32 = .ok (.iaload, 1) := by decide +kernel
theorem dX12_common_33 : decode cX12_common 33 = .ok (.iconst 1, 1) := by decide +kernel
theorem dX12_common_34 : decode cX12_common 34 = .ok (.isub, 1) := by decide +kernel
theorem dX12_common_35 : decode cX12_common 35 = .ok (.invokestatic 75, 3) := by decide +kernel
theorem dX12_common_38 : decode cX12_common 38 = .ok (.ifCond .ne 6, 3) := by decide +kernel
theorem dX12_common_41 : decode cX12_common 41 = .ok (.bipush (-2), 2) := by decide +kernel
theorem dX12_common_43 : decode cX12_common 43 = .ok (.ireturn, 1) := by decide +kernel
theorem dX12_common_44 : decode cX12_common 44 = .ok (.iload_n 3, 1) := by decide +kernel
theorem dX12_common_45 : decode cX12_common 45 = .ok (.iconst (-1), 1) := by decide +kernel
theorem dX12_common_46 : decode cX12_common 46 = .ok (.if_icmp .ne 10, 3) := by decide +kernel
theorem dX12_common_49 : decode cX12_common 49 = .ok (.aload_n 0, 1) := by decide +kernel
theorem dX12_common_50 : decode cX12_common 50 = .ok (.getfield 50, 3) := by decide +kernel
theorem dX12_common_53 : decode cX12_common 53 = .ok (.iconst 0, 1) := by decide +kernel
theorem dX12_common_54 : decode cX12_common 54 = .ok (.iaload, 1) := by decide +kernel
theorem dX12_common_55 : decode cX12_common 55 = .ok (.ireturn, 1) := by decide +kernel
theorem dX12_common_56 : decode cX12_common 56 = .ok (.iconst 0, 1) := by decide +kernel
theorem dX12_common_57 : decode cX12_common 57 = .ok (.istore 4, 2) := by decide +kernel
theorem dX12_common_59 : decode cX12_common 59 = .ok (.iconst 0, 1) := by decide +kernel
theorem dX12_common_60 : decode cX12_common 60 = .ok (.istore 5, 2) := by decide +kernel
theorem dX12_common_62 : decode cX12_common 62 = .ok (.aload_n 0, 1) := by decide +kernel
theorem dX12_common_63 : decode cX12_common 63 = .ok (.getfield 50, 3) := by decide +kernel
theorem dX12_common_66 : decode cX12_common 66 = .ok (.iconst 0, 1) := by decide +kernel
theorem dX12_common_67 : decode cX12_common 67 = .ok (.iaload, 1) := by decide +kernel
theorem dX12_common_68 : decode cX12_common 68 = .ok (.istore 6, 2) := by decide +kernel
theorem dX12_common_70 : decode cX12_common 70 = .ok (.iload 6, 2) := by decide +kernel
theorem dX12_common_72 : decode cX12_common 72 = .ok (.aload_n 0, 1) := by decide +kernel
theorem dX12_common_73 : decode cX12_common 73 = .ok (.getfield 50, 3) := by decide +kernel
theorem dX12_common_76 : decode cX12_common 76 = .ok (.iconst 0, 1) := by decide +kernel
theorem dX12_common_77 : decode cX12_common 77 = .ok (.iaload, 1) := by decide +kernel
theorem dX12_common_78 : decode cX12_common 78 = .ok (.iload_n 3, 1) := by decide +kernel
theorem dX12_common_79 : decode cX12_common 79 = .ok (.isub, 1) := by decide +kernel
theorem dX12_common_80 : decode cX12_common 80 = .ok (.if_icmp .lt 86, 3) := by decide +kernel
theorem dX12_common_83 : decode cX12_common 83 = .ok (.aload_n 0, 1) := by decide +kernel
theorem dX12_common_84 : decode cX12_common 84 = .ok (.iload_n 1, 1) := by decide +kernel
theorem dX12_common_85 : decode cX12_common 85 = .ok (.iload 4, 2) := by decide +kernel
theorem dX12_common_87 : decode cX12_common 87 = .ok (.iload_n 2, 1) := by decide +kernel
theorem dX12_common_88 : decode cX12_common 88 = .ok (.iload 5, 2) := by decide +kernel
theorem dX12_common_90 : decode cX12_common 90 = .ok (.invokevirtual 429, 3) := by decide +kernel
theorem dX12_common_93 : decode cX12_common 93 = .ok (.aload_n 0, 1) := by decide +kernel
theorem dX12_common_94 : decode cX12_common 94 = .ok (.getfield 7, 3) := by decide +kernel
theorem dX12_common_97 : decode cX12_common 97 = .ok (.bipush 114, 2) := by decide +kernel
theorem dX12_common_99 : decode cX12_common 99 = .ok (.iload_n 2, 1) := by decide +kernel
theorem dX12_common_100 : decode cX12_common 100 = .ok (.iadd, 1) := by decide +kernel
theorem dX12_common_101 : decode cX12_common 101 = .ok (.iaload, 1) := by decide +kernel
theorem dX12_common_102 : decode cX12_common 102 = .ok (.if_icmp .eq 35, 3) := by decide +kernel
theorem dX12_common_105 : decode cX12_common 105 = .ok (.aload_n 0, 1) := by decide +kernel
theorem dX12_common_106 : decode cX12_common 106 = .ok (.getfield 50, 3) := by decide +kernel
theorem dX12_common_109 : decode cX12_common 109 = .ok (.bipush 17, 2) := by decide +kernel
theorem dX12_common_111 : decode cX12_common 111 = .ok (.iload 4, 2) := by decide +kernel
theorem dX12_common_113 : decode cX12_common 113 = .ok (.iconst 1, 1) := by decide +kernel
theorem dX12_common_114 : decode cX12_common 114 = .ok (.iadd, 1) := by decide +kernel
theorem dX12_common_115 : decode cX12_common 115 = .ok (.imul, 1) := by decide +kernel
theorem dX12_common_116 : decode cX12_common 116 = .ok (.aload_n 0, 1) := by decide +kernel
theorem dX12_common_117 : decode cX12_common 117 = .ok (.iload_n 1, 1) := by decide +kernel
theorem dX12_common_118 : decode cX12_common 118 = .ok (.iload 4, 2) := by decide +kernel
theorem dX12_common_120 : decode cX12_common 120 = .ok (.iload_n 2, 1) := by decide +kernel
theorem dX12_common_121 : decode cX12_common 121 = .ok (.iload 5, 2) := by decide +kernel
theorem dX12_common_123 : decode cX12_common 123 = .ok (.invokevirtual 429, 3) := by decide +kernel
theorem dX12_common_126 : decode cX12_common 126 = .ok (.iadd, 1) := by decide +kernel
theorem dX12_common_127 : decode cX12_common 127 = .ok (.iconst 1, 1) := by decide +kernel
theorem dX12_common_128 : decode cX12_common 128 = .ok (.iadd, 1) := by decide +kernel
theorem dX12_common_129 : decode cX12_common 129 = .ok (.iaload, 1) := by decide +kernel
theorem dX12_common_130 : decode cX12_common 130 = .ok (.iload 6, 2) := by decide +kernel
theorem dX12_common_132 : decode cX12_common 132 = .ok (.iconst 1, 1) := by decide +kernel
theorem dX12_common_133 : decode cX12_common 133 = .ok (.isub, 1) := by decide +kernel
theorem dX12_common_134 : decode cX12_common 134 = .ok (.if_icmp .eq 9, 3) := by decide +kernel
theorem dX12_common_137 : decode cX12_common 137 = .ok (.iinc 4 1, 3) := by decide +kernel
theorem dX12_common_140 : decode cX12_common 140 = .ok (.goto (-57), 3) := by decide +kernel
theorem dX12_common_143 : decode cX12_common 143 = .ok (.aload_n 0, 1) := by decide +kernel
theorem dX12_common_144 : decode cX12_common 144 = .ok (.iload_n 1, 1) := by decide +kernel
theorem dX12_common_145 : decode cX12_common 145 = .ok (.iload 4, 2) := by decide +kernel
theorem dX12_common_147 : decode cX12_common 147 = .ok (.iload_n 2, 1) := by decide +kernel
theorem dX12_common_148 : decode cX12_common 148 = .ok (.iload 5, 2) := by decide +kernel
theorem dX12_common_150 : decode cX12_common 150 = .ok (.invokevirtual 429, 3) := by decide +kernel
theorem dX12_common_153 : decode cX12_common 153 = .ok (.iconst 1, 1) := by decide +kernel
theorem dX12_common_154 : decode cX12_common 154 = .ok (.iadd, 1) := by decide +kernel
theorem dX12_common_155 : decode cX12_common 155 = .ok (.istore 5, 2) := by decide +kernel
theorem dX12_common_157 : decode cX12_common 157 = .ok (.iinc 4 1, 3) := by decide +kernel
theorem dX12_common_160 : decode cX12_common 160 = .ok (.iinc 6 (-1), 3) := by decide +kernel
theorem dX12_common_163 : decode cX12_common 163 = .ok (.goto (-93), 3) := by decide +kernel
theorem dX12_common_166 : decode cX12_common 166 = .ok (.iload 4, 2) := by decide +kernel
theorem dX12_common_168 : decode cX12_common 168 = .ok (.iconst 1, 1) := by decide +kernel
theorem dX12_common_169 : decode cX12_common 169 = .ok (.isub, 1) := by decide +kernel
theorem dX12_common_170 : decode cX12_common 170 = .ok (.ireturn, 1) := by decide +kernel
def m12_common : pMT := (yX12_common, cX12_common, 7, some .int)
theorem mo12_common : mOK m12_common 3 := ⟨tb_i 1855 (by decide +kernel), wi_RX12, ⟨wn_RX12.1, wn_RX12.2, by decide +kernel⟩, by decide, plainFor_of_name wp_RX12⟩
theorem mv12_common : mV m12_common := ⟨tb_i 1853 (by decide +kernel), tb_i 1854 (by decide +kernel)⟩
def f12_common_c83 (n : Nat) (O : (Nat → Nat → Option Nat)) (k70 : ((Nat → Nat → Int32) → Nat → Int32 → Int32 → Int32 → Int32 → Int32 → Int32 → Option (Int32 × (Nat → Nat → Int32)))) : Nat → (Nat → Nat → Int32) → Nat → Int32 → Int32 → Int32 → Int32 → Int32 → Int32 → Option (Int32 × (Nat → Nat → Int32))
  | 0, _, _, _, _, _, _, _, _ => none
  | m + 1, I, b0, y1, y2, y3, y4, y5, y6 => (f12_firstLike n I O b0 y1 y4 y2 y5).bind fun r1 => (if ((114 : Int32) + y2) < 0 ∨ 4371 ≤ ((114 : Int32) + y2).toNatClampNeg then none else (if r1 = (I (rO O b0 0) ((114 : Int32) + y2).toNatClampNeg) then f12_common_c83 n O k70 m I b0 y1 y2 y3 (y4 + 1) y5 y6 else (f12_firstLike n I O b0 y1 y4 y2 y5).bind fun r7 => (if ((((17 : Int32) * (y4 + 1)) + r7) + 1) < 0 ∨ 289 ≤ ((((17 : Int32) * (y4 + 1)) + r7) + 1).toNatClampNeg then none else (if (I (rO O b0 26) ((((17 : Int32) * (y4 + 1)) + r7) + 1).toNatClampNeg) = (y6 - 1) then (f12_firstLike n I O b0 y1 y4 y2 y5).bind fun r11 => k70 I b0 y1 y2 y3 (y4 + 1) (r11 + 1) (y6 + (-1)) else f12_common_c83 n O k70 m I b0 y1 y2 y3 (y4 + 1) y5 y6))))
set_option maxHeartbeats 4000000 in
set_option maxRecDepth 20000 in
theorem o12_common_c83 {g : pG} {Qx : Option Value → pW → Prop} {Z : pZ} {L : (Nat → Nat → Int64)} {O : (Nat → Nat → Option Nat)} {n : Nat} {k70 : ((Nat → Nat → Int32) → Nat → Int32 → Int32 → Int32 → Int32 → Int32 → Int32 → Option (Int32 × (Nat → Nat → Int32)))} {res : Int32 × (Nat → Nat → Int32)} (d : Nat) (hW : WT Z O) (hQ : Qx (some (.int res.1)) (Z, res.2, L, O)) (hk70 : ∀ (I : (Nat → Nat → Int32)) (b0 : Nat) (y1 : Int32) (y2 : Int32) (y3 : Int32) (y4 : Int32) (y5 : Int32) (y6 : Int32), (Z[b0]? = some (12, 34)) → k70 I b0 y1 y2 y3 y4 y5 y6 = some res → Ok g (d + 7, RX12, cX12_common, 7, false, 0, 0, Z.length, pSl Z) Qx 70 [(0, .ref b0), (1, .int y1), (2, .int y2), (3, .int y3), (4, .int y4), (5, .int y5), (6, .int y6)] [] (Z, I, L, O)) : ∀ (m : Nat) (I : (Nat → Nat → Int32)) (b0 : Nat) (y1 : Int32) (y2 : Int32) (y3 : Int32) (y4 : Int32) (y5 : Int32) (y6 : Int32), (Z[b0]? = some (12, 34)) → f12_common_c83 n O k70 m I b0 y1 y2 y3 y4 y5 y6 = some res → Ok g (d + 7, RX12, cX12_common, 7, false, 0, 0, Z.length, pSl Z) Qx 83 [(0, .ref b0), (1, .int y1), (2, .int y2), (3, .int y3), (4, .int y4), (5, .int y5), (6, .int y6)] [] (Z, I, L, O) := by
  intro m
  induction m with
  | zero => intro I b0 y1 y2 y3 y4 y5 y6 hZ_b0 h; rw [f12_common_c83] at h; cases h
  | succ m ih =>
    intro I b0 y1 y2 y3 y4 y5 y6 hZ_b0 h
    rw [f12_common_c83] at h
    refine ok_aload_n dX12_common_83 0 rfl ?_
    refine ok_iload_n dX12_common_84 1 rfl ?_
    refine ok_iload dX12_common_85 4 rfl ?_
    refine ok_iload_n dX12_common_87 2 rfl ?_
    refine ok_iload dX12_common_88 5 rfl ?_
    obtain ⟨r1, hr2, h⟩ := bd h
    refine ok_callV (d := ((d + 0) + 6)) (mt := m12_firstLike) (mc := 0) (ms := 0) (As := [.int y1, .int y4, .int y2, .int y5]) (r := []) dX12_common_90 mo12_firstLike mv12_firstLike lkRX12_429 rfl hZ_b0 (q := (RX12, TX12, 34)) rfl rfl rfl (Nat.le_of_ble_eq_true rfl) (by show _ + 1 ≤ d + _; omega) (Nat.le_refl _) (Nat.le_refl _) (pRt_mono ?_)
    refine k12_firstLike (d + 0) hW hZ_b0 hr2 ?_
    intro _
    show Ok g _ Qx 93 [(0, .ref b0), (1, .int y1), (2, .int y2), (3, .int y3), (4, .int y4), (5, .int y5), (6, .int y6)] [.int r1] (Z, I, L, O)
    refine ok_aload_n dX12_common_93 0 rfl ?_
    have hT3 : Z[(rO O b0 0)]? = some (13, 4371) := (wt_f (ci := 12) (k := 0) hW hZ_b0 rfl).2
    refine ok_getR (ci := 12) (k := 0) dX12_common_94 flRX12_7 rfl hW hZ_b0 (by decide) ?_
    refine ok_bipush (v := 114) dX12_common_97 (by decide) ?_
    refine ok_iload_n dX12_common_99 2 rfl ?_
    refine ok_iadd dX12_common_100 ?_
    obtain ⟨hg4, h⟩ := gd h
    refine ok_iald2 (N := ((114 : Int32) + y2).toNatClampNeg) dX12_common_101 hT3 hg4 rfl ?_
    refine ok_icmp_eq (t := 137) dX12_common_102 (by decide) (fun hc5 => ?_) (fun hc5 => ?_)
    · have h := (if_pos hc5).symm.trans h
      refine ok_iinc (u := (y4 + 1)) (l' := [(4, .int (y4 + 1)), (0, .ref b0), (1, .int y1), (2, .int y2), (3, .int y3), (5, .int y5), (6, .int y6)]) dX12_common_137 4 rfl rfl (Nat.le_of_ble_eq_true rfl) rfl ?_
      refine ok_goto (t := 83) dX12_common_140 (by decide) ?_
      refine ok_sub [1, 2, 3, 4, 0, 5, 6] rfl ?_
      exact ih I b0 y1 y2 y3 (y4 + 1) y5 y6 hZ_b0 h
    · have h := (if_neg hc5).symm.trans h
      refine ok_aload_n dX12_common_105 0 rfl ?_
      have hT6 : Z[(rO O b0 26)]? = some (13, 289) := (wt_f (ci := 12) (k := 26) hW hZ_b0 rfl).2
      refine ok_getR (ci := 12) (k := 26) dX12_common_106 flRX12_50 rfl hW hZ_b0 (by decide) ?_
      refine ok_bipush (v := 17) dX12_common_109 (by decide) ?_
      refine ok_iload dX12_common_111 4 rfl ?_
      refine ok_iconst (v := 1) dX12_common_113 (by decide) ?_
      refine ok_iadd dX12_common_114 ?_
      refine ok_imul dX12_common_115 ?_
      refine ok_aload_n dX12_common_116 0 rfl ?_
      refine ok_iload_n dX12_common_117 1 rfl ?_
      refine ok_iload dX12_common_118 4 rfl ?_
      refine ok_iload_n dX12_common_120 2 rfl ?_
      refine ok_iload dX12_common_121 5 rfl ?_
      obtain ⟨r7, hr8, h⟩ := bd h
      refine ok_callV (d := ((d + 0) + 6)) (mt := m12_firstLike) (mc := 0) (ms := 0) (As := [.int y1, .int y4, .int y2, .int y5]) (r := [.int ((17 : Int32) * (y4 + 1)), .ref (rO O b0 26)]) dX12_common_123 mo12_firstLike mv12_firstLike lkRX12_429 rfl hZ_b0 (q := (RX12, TX12, 34)) rfl rfl rfl (Nat.le_of_ble_eq_true rfl) (by show _ + 1 ≤ d + _; omega) (Nat.le_refl _) (Nat.le_refl _) (pRt_mono ?_)
      refine k12_firstLike (d + 0) hW hZ_b0 hr8 ?_
      intro _
      show Ok g _ Qx 126 [(0, .ref b0), (1, .int y1), (2, .int y2), (3, .int y3), (4, .int y4), (5, .int y5), (6, .int y6)] [.int r7, .int ((17 : Int32) * (y4 + 1)), .ref (rO O b0 26)] (Z, I, L, O)
      refine ok_iadd dX12_common_126 ?_
      refine ok_iconst (v := 1) dX12_common_127 (by decide) ?_
      refine ok_iadd dX12_common_128 ?_
      obtain ⟨hg9, h⟩ := gd h
      refine ok_iald2 (N := ((((17 : Int32) * (y4 + 1)) + r7) + 1).toNatClampNeg) dX12_common_129 hT6 hg9 rfl ?_
      refine ok_iload dX12_common_130 6 rfl ?_
      refine ok_iconst (v := 1) dX12_common_132 (by decide) ?_
      refine ok_isub dX12_common_133 ?_
      refine ok_icmp_eq (t := 143) dX12_common_134 (by decide) (fun hc10 => ?_) (fun hc10 => ?_)
      · have h := (if_pos hc10).symm.trans h
        refine ok_aload_n dX12_common_143 0 rfl ?_
        refine ok_iload_n dX12_common_144 1 rfl ?_
        refine ok_iload dX12_common_145 4 rfl ?_
        refine ok_iload_n dX12_common_147 2 rfl ?_
        refine ok_iload dX12_common_148 5 rfl ?_
        obtain ⟨r11, hr12, h⟩ := bd h
        refine ok_callV (d := ((d + 0) + 6)) (mt := m12_firstLike) (mc := 0) (ms := 0) (As := [.int y1, .int y4, .int y2, .int y5]) (r := []) dX12_common_150 mo12_firstLike mv12_firstLike lkRX12_429 rfl hZ_b0 (q := (RX12, TX12, 34)) rfl rfl rfl (Nat.le_of_ble_eq_true rfl) (by show _ + 1 ≤ d + _; omega) (Nat.le_refl _) (Nat.le_refl _) (pRt_mono ?_)
        refine k12_firstLike (d + 0) hW hZ_b0 hr12 ?_
        intro _
        show Ok g _ Qx 153 [(0, .ref b0), (1, .int y1), (2, .int y2), (3, .int y3), (4, .int y4), (5, .int y5), (6, .int y6)] [.int r11] (Z, I, L, O)
        refine ok_iconst (v := 1) dX12_common_153 (by decide) ?_
        refine ok_iadd dX12_common_154 ?_
        refine ok_istore (l' := [(5, .int (r11 + 1)), (0, .ref b0), (1, .int y1), (2, .int y2), (3, .int y3), (4, .int y4), (6, .int y6)]) dX12_common_155 (Nat.le_of_ble_eq_true rfl) rfl ?_
        refine ok_iinc (u := (y4 + 1)) (l' := [(4, .int (y4 + 1)), (5, .int (r11 + 1)), (0, .ref b0), (1, .int y1), (2, .int y2), (3, .int y3), (6, .int y6)]) dX12_common_157 5 rfl rfl (Nat.le_of_ble_eq_true rfl) rfl ?_
        refine ok_iinc (u := (y6 + (-1))) (l' := [(6, .int (y6 + (-1))), (4, .int (y4 + 1)), (5, .int (r11 + 1)), (0, .ref b0), (1, .int y1), (2, .int y2), (3, .int y3)]) dX12_common_160 6 rfl rfl (Nat.le_of_ble_eq_true rfl) rfl ?_
        refine ok_goto (t := 70) dX12_common_163 (by decide) ?_
        refine ok_sub [3, 4, 5, 6, 1, 2, 0] rfl ?_
        exact hk70 I b0 y1 y2 y3 (y4 + 1) (r11 + 1) (y6 + (-1)) hZ_b0 h
      · have h := (if_neg hc10).symm.trans h
        refine ok_iinc (u := (y4 + 1)) (l' := [(4, .int (y4 + 1)), (0, .ref b0), (1, .int y1), (2, .int y2), (3, .int y3), (5, .int y5), (6, .int y6)]) dX12_common_137 4 rfl rfl (Nat.le_of_ble_eq_true rfl) rfl ?_
        refine ok_goto (t := 83) dX12_common_140 (by decide) ?_
        refine ok_sub [1, 2, 3, 4, 0, 5, 6] rfl ?_
        exact ih I b0 y1 y2 y3 (y4 + 1) y5 y6 hZ_b0 h
def f12_common_c70 (n : Nat) (O : (Nat → Nat → Option Nat)) : Nat → (Nat → Nat → Int32) → Nat → Int32 → Int32 → Int32 → Int32 → Int32 → Int32 → Option (Int32 × (Nat → Nat → Int32))
  | 0, _, _, _, _, _, _, _, _ => none
  | m + 1, I, b0, y1, y2, y3, y4, y5, y6 => (if y6 < ((I (rO O b0 26) 0) - y3) then some ((y4 - 1), I) else f12_common_c83 n O (f12_common_c70 n O m) n I b0 y1 y2 y3 y4 y5 y6)
set_option maxHeartbeats 4000000 in
set_option maxRecDepth 20000 in
theorem o12_common_c70 {g : pG} {Qx : Option Value → pW → Prop} {Z : pZ} {L : (Nat → Nat → Int64)} {O : (Nat → Nat → Option Nat)} {n : Nat} {res : Int32 × (Nat → Nat → Int32)} (d : Nat) (hW : WT Z O) (hQ : Qx (some (.int res.1)) (Z, res.2, L, O)) : ∀ (m : Nat) (I : (Nat → Nat → Int32)) (b0 : Nat) (y1 : Int32) (y2 : Int32) (y3 : Int32) (y4 : Int32) (y5 : Int32) (y6 : Int32), (Z[b0]? = some (12, 34)) → f12_common_c70 n O m I b0 y1 y2 y3 y4 y5 y6 = some res → Ok g (d + 7, RX12, cX12_common, 7, false, 0, 0, Z.length, pSl Z) Qx 70 [(0, .ref b0), (1, .int y1), (2, .int y2), (3, .int y3), (4, .int y4), (5, .int y5), (6, .int y6)] [] (Z, I, L, O) := by
  intro m
  induction m with
  | zero => intro I b0 y1 y2 y3 y4 y5 y6 hZ_b0 h; rw [f12_common_c70] at h; cases h
  | succ m ih =>
    intro I b0 y1 y2 y3 y4 y5 y6 hZ_b0 h
    rw [f12_common_c70] at h
    refine ok_iload dX12_common_70 6 rfl ?_
    refine ok_aload_n dX12_common_72 0 rfl ?_
    have hT1 : Z[(rO O b0 26)]? = some (13, 289) := (wt_f (ci := 12) (k := 26) hW hZ_b0 rfl).2
    refine ok_getR (ci := 12) (k := 26) dX12_common_73 flRX12_50 rfl hW hZ_b0 (by decide) ?_
    refine ok_iconst (v := 0) dX12_common_76 (by decide) ?_
    refine ok_iald2 (N := 0) dX12_common_77 hT1 (by unfold vp_in; decide) (by decide) ?_
    refine ok_iload_n dX12_common_78 3 rfl ?_
    refine ok_isub dX12_common_79 ?_
    refine ok_icmp_lt (t := 166) dX12_common_80 (by decide) (fun hc2 => ?_) (fun hc2 => ?_)
    · have h := (if_pos hc2).symm.trans h
      refine ok_iload dX12_common_166 4 rfl ?_
      refine ok_iconst (v := 1) dX12_common_168 (by decide) ?_
      refine ok_isub dX12_common_169 ?_
      cases h
      exact ok_iret dX12_common_170 hQ
    · have h := (if_neg hc2).symm.trans h
      refine ok_sub [0, 1, 2, 3, 4, 5, 6] rfl ?_
      exact o12_common_c83 d hW hQ ih n I b0 y1 y2 y3 y4 y5 y6 hZ_b0 h
def f12_common (n : Nat) (I : (Nat → Nat → Int32)) (O : (Nat → Nat → Option Nat)) (a0 : Nat) (x1 : Int32) (x2 : Int32) (x3 : Int32) : Option (Int32 × (Nat → Nat → Int32)) := (f12_isRoll I O a0 x1).bind fun r1 => (if r1 = 0 then some (((-2) : Int32), I) else (f12_isRoll I O a0 x2).bind fun r4 => (if r4 = 0 then some (((-2) : Int32), I) else (f12_layCommon n I O a0 x1 x2).bind fun r7 => (f12_isIn x3 (-1 : Int32) ((r7 (rO O a0 26) 0) - 1)).bind fun r10 => (if r10 = 0 then some (((-2) : Int32), r7) else (if x3 = (-1 : Int32) then some ((r7 (rO O a0 26) 0), r7) else f12_common_c70 n O n r7 a0 x1 x2 x3 (0 : Int32) (0 : Int32) (r7 (rO O a0 26) 0)))))
set_option maxHeartbeats 4000000 in
set_option maxRecDepth 20000 in
theorem o12_common {g : pG} {Qx : Option Value → pW → Prop} {Z : pZ} {I : (Nat → Nat → Int32)} {L : (Nat → Nat → Int64)} {O : (Nat → Nat → Option Nat)} {n : Nat} {a0 : Nat} {x1 : Int32} {x2 : Int32} {x3 : Int32} {res : Int32 × (Nat → Nat → Int32)} (d : Nat) (hW : WT Z O) (hZ0 : Z[a0]? = some (12, 34)) (h : f12_common n I O a0 x1 x2 x3 = some res) (hQ : Qx (some (.int res.1)) (Z, res.2, L, O)) : Ok g (d + 7, RX12, cX12_common, 7, false, 0, 0, Z.length, pSl Z) Qx 0 [(0, .ref a0), (1, .int x1), (2, .int x2), (3, .int x3)] [] (Z, I, L, O) := by
  unfold f12_common at h
  refine ok_aload_n dX12_common_0 0 rfl ?_
  refine ok_iload_n dX12_common_1 1 rfl ?_
  obtain ⟨r1, hr2, h⟩ := bd h
  refine ok_callV (d := ((d + 3) + 3)) (mt := m12_isRoll) (mc := 0) (ms := 0) (As := [.int x1]) (r := []) dX12_common_2 mo12_isRoll mv12_isRoll lkRX12_79 rfl hZ0 (q := (RX12, TX12, 34)) rfl rfl rfl (Nat.le_of_ble_eq_true rfl) (by show _ + 1 ≤ d + _; omega) (Nat.le_refl _) (Nat.le_refl _) (pRt_mono ?_)
  refine k12_isRoll (d + 3) hW hZ0 hr2 ?_
  intro hbr1
  show Ok g _ Qx 5 [(0, .ref a0), (1, .int x1), (2, .int x2), (3, .int x3)] [.int r1] (Z, I, L, O)
  refine ok_if_eq (t := 16) dX12_common_5 (by decide) (fun hc3 => ?_) (fun hc3 => ?_)
  · have h := (if_pos hc3).symm.trans h
    refine ok_bipush (v := (-2)) dX12_common_16 (by decide) ?_
    cases h
    exact ok_iret dX12_common_18 hQ
  · have h := (if_neg hc3).symm.trans h
    refine ok_aload_n dX12_common_8 0 rfl ?_
    refine ok_iload_n dX12_common_9 2 rfl ?_
    obtain ⟨r4, hr5, h⟩ := bd h
    refine ok_callV (d := ((d + 3) + 3)) (mt := m12_isRoll) (mc := 0) (ms := 0) (As := [.int x2]) (r := []) dX12_common_10 mo12_isRoll mv12_isRoll lkRX12_79 rfl hZ0 (q := (RX12, TX12, 34)) rfl rfl rfl (Nat.le_of_ble_eq_true rfl) (by show _ + 1 ≤ d + _; omega) (Nat.le_refl _) (Nat.le_refl _) (pRt_mono ?_)
    refine k12_isRoll (d + 3) hW hZ0 hr5 ?_
    intro hbr4
    show Ok g _ Qx 13 [(0, .ref a0), (1, .int x1), (2, .int x2), (3, .int x3)] [.int r4] (Z, I, L, O)
    refine ok_if_ne (t := 19) dX12_common_13 (by decide) (fun hc6 => ?_) (fun hc6 => ?_)
    · have h := (if_neg hc6).symm.trans h
      refine ok_aload_n dX12_common_19 0 rfl ?_
      refine ok_iload_n dX12_common_20 1 rfl ?_
      refine ok_iload_n dX12_common_21 2 rfl ?_
      obtain ⟨r7, hr8, h⟩ := bd h
      refine ok_callV (d := ((d + 0) + 6)) (mt := m12_layCommon) (mc := 0) (ms := 0) (As := [.int x1, .int x2]) (r := []) dX12_common_22 mo12_layCommon mv12_layCommon lkRX12_426 rfl hZ0 (q := (RX12, TX12, 34)) rfl rfl rfl (Nat.le_of_ble_eq_true rfl) (by show _ + 1 ≤ d + _; omega) (Nat.le_refl _) (Nat.le_refl _) (pRt_mono ?_)
      refine k12_layCommon (d + 0) hW hZ0 hr8 ?_
      intro _
      show Ok g _ Qx 25 [(0, .ref a0), (1, .int x1), (2, .int x2), (3, .int x3)] [] (Z, r7, L, O)
      refine ok_iload_n dX12_common_25 3 rfl ?_
      refine ok_iconst (v := (-1)) dX12_common_26 (by decide) ?_
      refine ok_aload_n dX12_common_27 0 rfl ?_
      have hT9 : Z[(rO O a0 26)]? = some (13, 289) := (wt_f (ci := 12) (k := 26) hW hZ0 rfl).2
      refine ok_getR (ci := 12) (k := 26) dX12_common_28 flRX12_50 rfl hW hZ0 (by decide) ?_
      refine ok_iconst (v := 0) dX12_common_31 (by decide) ?_
      refine ok_iald2 (N := 0) dX12_common_32 hT9 (by unfold vp_in; decide) (by decide) ?_
      refine ok_iconst (v := 1) dX12_common_33 (by decide) ?_
      refine ok_isub dX12_common_34 ?_
      obtain ⟨r10, hr11, h⟩ := bd h
      refine ok_callS (d := ((d + 4) + 2)) (mt := m12_isIn) (mc := 0) (ms := 0) (As := [.int x3, .int (-1), .int ((r7 (rO O a0 26) 0) - 1)]) (r := []) dX12_common_35 mo12_isIn mv12_isIn lkRX12_75 rfl rfl (Nat.le_of_ble_eq_true rfl) (by show _ + 1 ≤ d + _; omega) (Nat.le_refl _) (Nat.le_refl _) (pRt_mono ?_)
      refine k12_isIn (d + 4) hW  hr11 ?_
      intro hbr10
      show Ok g _ Qx 38 [(0, .ref a0), (1, .int x1), (2, .int x2), (3, .int x3)] [.int r10] (Z, r7, L, O)
      refine ok_if_ne (t := 44) dX12_common_38 (by decide) (fun hc12 => ?_) (fun hc12 => ?_)
      · have h := (if_neg hc12).symm.trans h
        refine ok_iload_n dX12_common_44 3 rfl ?_
        refine ok_iconst (v := (-1)) dX12_common_45 (by decide) ?_
        refine ok_icmp_ne (t := 56) dX12_common_46 (by decide) (fun hc13 => ?_) (fun hc13 => ?_)
        · have h := (if_neg hc13).symm.trans h
          refine ok_iconst (v := 0) dX12_common_56 (by decide) ?_
          refine ok_istore (l' := [(4, .int 0), (0, .ref a0), (1, .int x1), (2, .int x2), (3, .int x3)]) dX12_common_57 (Nat.le_of_ble_eq_true rfl) rfl ?_
          refine ok_iconst (v := 0) dX12_common_59 (by decide) ?_
          refine ok_istore (l' := [(5, .int 0), (4, .int 0), (0, .ref a0), (1, .int x1), (2, .int x2), (3, .int x3)]) dX12_common_60 (Nat.le_of_ble_eq_true rfl) rfl ?_
          refine ok_aload_n dX12_common_62 2 rfl ?_
          refine ok_getR (ci := 12) (k := 26) dX12_common_63 flRX12_50 rfl hW hZ0 (by decide) ?_
          refine ok_iconst (v := 0) dX12_common_66 (by decide) ?_
          refine ok_iald2 (N := 0) dX12_common_67 hT9 (by unfold vp_in; decide) (by decide) ?_
          refine ok_istore (l' := [(6, .int (r7 (rO O a0 26) 0)), (5, .int 0), (4, .int 0), (0, .ref a0), (1, .int x1), (2, .int x2), (3, .int x3)]) dX12_common_68 (Nat.le_of_ble_eq_true rfl) rfl ?_
          refine ok_sub [3, 4, 5, 6, 2, 1, 0] rfl ?_
          exact o12_common_c70 d hW hQ  n r7 a0 x1 x2 x3 (0 : Int32) (0 : Int32) (r7 (rO O a0 26) 0) hZ0 h
        · have h := (if_pos hc13).symm.trans h
          refine ok_aload_n dX12_common_49 0 rfl ?_
          refine ok_getR (ci := 12) (k := 26) dX12_common_50 flRX12_50 rfl hW hZ0 (by decide) ?_
          refine ok_iconst (v := 0) dX12_common_53 (by decide) ?_
          refine ok_iald2 (N := 0) dX12_common_54 hT9 (by unfold vp_in; decide) (by decide) ?_
          cases h
          exact ok_iret dX12_common_55 hQ
      · have h := (if_pos hc12).symm.trans h
        refine ok_bipush (v := (-2)) dX12_common_41 (by decide) ?_
        cases h
        exact ok_iret dX12_common_43 hQ
    · have h := (if_pos hc6).symm.trans h
      refine ok_bipush (v := (-2)) dX12_common_16 (by decide) ?_
      cases h
      exact ok_iret dX12_common_18 hQ
theorem k12_common {g : pG} {Q : Option Value → pW → Prop} {Z : pZ} {I : (Nat → Nat → Int32)} {L : (Nat → Nat → Int64)} {O : (Nat → Nat → Option Nat)} {n : Nat} {a0 : Nat} {x1 : Int32} {x2 : Int32} {x3 : Int32} {res : Int32 × (Nat → Nat → Int32)} (d : Nat) (hW : WT Z O) (hZ0 : Z[a0]? = some (12, 34)) (h : f12_common n I O a0 x1 x2 x3 = some res) (hQ : Q (some (.int res.1)) (Z, res.2, L, O)) : CT g (d + 7) m12_common 0 0 [.ref a0, .int x1, .int x2, .int x3] (Z, I, L, O) Q :=
  ct_of_ok (mt := m12_common) (ini := false) mo12_common.2.2.2.2 (fun h => by cases h) (Nat.le_of_ble_eq_true rfl) (o12_common d hW hZ0 h ⟨trivial, hQ, rfl, rfl⟩)
theorem dX12_phrase_0 : decode cX12_phrase 0 = .ok (.iload_n 1, 1) := by decide +kernel
theorem dX12_phrase_1 : decode cX12_phrase 1 = .ok (.iconst (-1), 1) := by decide +kernel
theorem dX12_phrase_2 : decode cX12_phrase 2 = .ok (.if_icmp .ne 12, 3) := by decide +kernel
theorem dX12_phrase_5 : decode cX12_phrase 5 = .ok (.aload_n 0, 1) := by decide +kernel
theorem dX12_phrase_6 : decode cX12_phrase 6 = .ok (.getfield 7, 3) := by decide +kernel
theorem dX12_phrase_9 : decode cX12_phrase 9 = .ok (.iconst 5, 1) := by decide +kernel
theorem dX12_phrase_10 : decode cX12_phrase 10 = .ok (.iconst 0, 1) := by decide +kernel
theorem dX12_phrase_11 : decode cX12_phrase 11 = .ok (.iastore, 1) := by decide +kernel
theorem dX12_phrase_12 : decode cX12_phrase 12 = .ok (.iconst 0, 1) := by decide +kernel
theorem dX12_phrase_13 : decode cX12_phrase 13 = .ok (.ireturn, 1) := by decide +kernel
theorem dX12_phrase_14 : decode cX12_phrase 14 = .ok (.iload_n 1, 1) := by decide +kernel
theorem dX12_phrase_15 : decode cX12_phrase 15 = .ok (.iconst 0, 1) := by decide +kernel
theorem dX12_phrase_16 : decode cX12_phrase 16 = .ok (.iconst 5, 1) := by decide +kernel
theorem dX12_phrase_17 : decode cX12_phrase 17 = .ok (.invokestatic 75, 3) := by decide +kernel
theorem dX12_phrase_20 : decode cX12_phrase 20 = .ok (.ifCond .eq 14, 3) := by decide +kernel
theorem dX12_phrase_23 : decode cX12_phrase 23 = .ok (.aload_n 0, 1) := by decide +kernel
theorem dX12_phrase_24 : decode cX12_phrase 24 = .ok (.getfield 7, 3) := by decide +kernel
theorem dX12_phrase_27 : decode cX12_phrase 27 = .ok (.iconst 5, 1) := by decide +kernel
theorem dX12_phrase_28 : decode cX12_phrase 28 = .ok (.iaload, 1) := by decide +kernel
theorem dX12_phrase_29 : decode cX12_phrase 29 = .ok (.bipush 8, 2) := by decide +kernel
theorem dX12_phrase_31 : decode cX12_phrase 31 = .ok (.if_icmp .ne 6, 3) := by decide +kernel
theorem dX12_phrase_34 : decode cX12_phrase 34 = .ok (.bipush (-2), 2) := by decide +kernel
theorem dX12_phrase_36 : decode cX12_phrase 36 = .ok (.ireturn, 1) := by decide +kernel
theorem dX12_phrase_37 : decode cX12_phrase 37 = .ok (.aload_n 0, 1) := by decide +kernel
theorem dX12_phrase_38 : decode cX12_phrase 38 = .ok (.getfield 7, 3) := by decide +kernel
theorem dX12_phrase_41 : decode cX12_phrase 41 = .ok (.sipush 199, 3) := by decide +kernel
theorem dX12_phrase_44 : decode cX12_phrase 44 = .ok (.aload_n 0, 1) := by decide +kernel
theorem dX12_phrase_45 : decode cX12_phrase 45 = .ok (.getfield 7, 3) := by decide +kernel
theorem dX12_phrase_48 : decode cX12_phrase 48 = .ok (.iconst 5, 1) := by decide +kernel
theorem dX12_phrase_49 : decode cX12_phrase 49 = .ok (.iaload, 1) := by decide +kernel
theorem dX12_phrase_50 : decode cX12_phrase 50 = .ok (.iadd, 1) := by decide +kernel
theorem dX12_phrase_51 : decode cX12_phrase 51 = .ok (.iload_n 1, 1) := by decide +kernel
theorem dX12_phrase_52 : decode cX12_phrase 52 = .ok (.iastore, 1) := by decide +kernel
theorem dX12_phrase_53 : decode cX12_phrase 53 = .ok (.aload_n 0, 1) := by decide +kernel
theorem dX12_phrase_54 : decode cX12_phrase 54 = .ok (.getfield 7, 3) := by decide +kernel
theorem dX12_phrase_57 : decode cX12_phrase 57 = .ok (.iconst 5, 1) := by decide +kernel
theorem dX12_phrase_58 : decode cX12_phrase 58 = .ok (.dup2, 1) := by decide +kernel
theorem dX12_phrase_59 : decode cX12_phrase 59 = .ok (.iaload, 1) := by decide +kernel
theorem dX12_phrase_60 : decode cX12_phrase 60 = .ok (.iconst 1, 1) := by decide +kernel
theorem dX12_phrase_61 : decode cX12_phrase 61 = .ok (.iadd, 1) := by decide +kernel
theorem dX12_phrase_62 : decode cX12_phrase 62 = .ok (.iastore, 1) := by decide +kernel
theorem dX12_phrase_63 : decode cX12_phrase 63 = .ok (.aload_n 0, 1) := by decide +kernel
theorem dX12_phrase_64 : decode cX12_phrase 64 = .ok (.getfield 7, 3) := by decide +kernel
theorem dX12_phrase_67 : decode cX12_phrase 67 = .ok (.iconst 5, 1) := by decide +kernel
theorem dX12_phrase_68 : decode cX12_phrase 68 = .ok (.iaload, 1) := by decide +kernel
theorem dX12_phrase_69 : decode cX12_phrase 69 = .ok (.ireturn, 1) := by decide +kernel
def m12_phrase : pMT := (yX12_phrase, cX12_phrase, 2, some .int)
theorem mo12_phrase : mOK m12_phrase 1 := ⟨tb_i 1871 (by decide +kernel), wi_RX12, ⟨wn_RX12.1, wn_RX12.2, by decide +kernel⟩, by decide, plainFor_of_name wp_RX12⟩
theorem mv12_phrase : mV m12_phrase := ⟨tb_i 1869 (by decide +kernel), tb_i 1870 (by decide +kernel)⟩
def f12_phrase (I : (Nat → Nat → Int32)) (O : (Nat → Nat → Option Nat)) (a0 : Nat) (x1 : Int32) : Option (Int32 × (Nat → Nat → Int32)) := (if x1 = (-1 : Int32) then bl (sI I (rO O a0 0) 5 (0 : Int32)) fun I11 => some ((0 : Int32), I11) else (f12_isIn x1 (0 : Int32) (5 : Int32)).bind fun r2 => (if r2 = 0 then some (((-2) : Int32), I) else (if (I (rO O a0 0) 5) = (8 : Int32) then some (((-2) : Int32), I) else (if ((199 : Int32) + (I (rO O a0 0) 5)) < 0 ∨ 4371 ≤ ((199 : Int32) + (I (rO O a0 0) 5)).toNatClampNeg then none else bl (sI I (rO O a0 0) ((199 : Int32) + (I (rO O a0 0) 5)).toNatClampNeg x1) fun I8 => bl (sI I8 (rO O a0 0) 5 ((I8 (rO O a0 0) 5) + 1)) fun I9 => some ((I9 (rO O a0 0) 5), I9)))))
set_option maxHeartbeats 4000000 in
set_option maxRecDepth 20000 in
theorem o12_phrase {g : pG} {Qx : Option Value → pW → Prop} {Z : pZ} {I : (Nat → Nat → Int32)} {L : (Nat → Nat → Int64)} {O : (Nat → Nat → Option Nat)} {a0 : Nat} {x1 : Int32} {res : Int32 × (Nat → Nat → Int32)} (d : Nat) (hW : WT Z O) (hZ0 : Z[a0]? = some (12, 34)) (h : f12_phrase I O a0 x1 = some res) (hQ : Qx (some (.int res.1)) (Z, res.2, L, O)) : Ok g (d + 3, RX12, cX12_phrase, 2, false, 0, 0, Z.length, pSl Z) Qx 0 [(0, .ref a0), (1, .int x1)] [] (Z, I, L, O) := by
  unfold f12_phrase at h
  refine ok_iload_n dX12_phrase_0 1 rfl ?_
  refine ok_iconst (v := (-1)) dX12_phrase_1 (by decide) ?_
  refine ok_icmp_ne (t := 14) dX12_phrase_2 (by decide) (fun hc1 => ?_) (fun hc1 => ?_)
  · have h := (if_neg hc1).symm.trans h
    refine ok_iload_n dX12_phrase_14 1 rfl ?_
    refine ok_iconst (v := 0) dX12_phrase_15 (by decide) ?_
    refine ok_iconst (v := 5) dX12_phrase_16 (by decide) ?_
    obtain ⟨r2, hr3, h⟩ := bd h
    refine ok_callS (d := ((d + 0) + 2)) (mt := m12_isIn) (mc := 0) (ms := 0) (As := [.int x1, .int 0, .int 5]) (r := []) dX12_phrase_17 mo12_isIn mv12_isIn lkRX12_75 rfl rfl (Nat.le_of_ble_eq_true rfl) (by show _ + 1 ≤ d + _; omega) (Nat.le_refl _) (Nat.le_refl _) (pRt_mono ?_)
    refine k12_isIn (d + 0) hW  hr3 ?_
    intro hbr2
    show Ok g _ Qx 20 [(0, .ref a0), (1, .int x1)] [.int r2] (Z, I, L, O)
    refine ok_if_eq (t := 34) dX12_phrase_20 (by decide) (fun hc4 => ?_) (fun hc4 => ?_)
    · have h := (if_pos hc4).symm.trans h
      refine ok_bipush (v := (-2)) dX12_phrase_34 (by decide) ?_
      cases h
      exact ok_iret dX12_phrase_36 hQ
    · have h := (if_neg hc4).symm.trans h
      refine ok_aload_n dX12_phrase_23 0 rfl ?_
      have hT5 : Z[(rO O a0 0)]? = some (13, 4371) := (wt_f (ci := 12) (k := 0) hW hZ0 rfl).2
      refine ok_getR (ci := 12) (k := 0) dX12_phrase_24 flRX12_7 rfl hW hZ0 (by decide) ?_
      refine ok_iconst (v := 5) dX12_phrase_27 (by decide) ?_
      refine ok_iald2 (N := 5) dX12_phrase_28 hT5 (by unfold vp_in; decide) (by decide) ?_
      refine ok_bipush (v := 8) dX12_phrase_29 (by decide) ?_
      refine ok_icmp_ne (t := 37) dX12_phrase_31 (by decide) (fun hc6 => ?_) (fun hc6 => ?_)
      · have h := (if_neg hc6).symm.trans h
        refine ok_aload_n dX12_phrase_37 0 rfl ?_
        refine ok_getR (ci := 12) (k := 0) dX12_phrase_38 flRX12_7 rfl hW hZ0 (by decide) ?_
        refine ok_sipush (v := 199) dX12_phrase_41 (by decide) ?_
        refine ok_aload_n dX12_phrase_44 0 rfl ?_
        refine ok_getR (ci := 12) (k := 0) dX12_phrase_45 flRX12_7 rfl hW hZ0 (by decide) ?_
        refine ok_iconst (v := 5) dX12_phrase_48 (by decide) ?_
        refine ok_iald2 (N := 5) dX12_phrase_49 hT5 (by unfold vp_in; decide) (by decide) ?_
        refine ok_iadd dX12_phrase_50 ?_
        refine ok_iload_n dX12_phrase_51 1 rfl ?_
        obtain ⟨hg7, h⟩ := gd h
        obtain ⟨I8, eI8, h⟩ := blE h
        refine ok_iast3 dX12_phrase_52 hT5 hg7 rfl eI8 ?_
        refine ok_aload_n dX12_phrase_53 0 rfl ?_
        refine ok_getR (ci := 12) (k := 0) dX12_phrase_54 flRX12_7 rfl hW hZ0 (by decide) ?_
        refine ok_iconst (v := 5) dX12_phrase_57 (by decide) ?_
        refine ok_dup2 dX12_phrase_58 rfl rfl ?_
        refine ok_iald2 (N := 5) dX12_phrase_59 hT5 (by unfold vp_in; decide) (by decide) ?_
        refine ok_iconst (v := 1) dX12_phrase_60 (by decide) ?_
        refine ok_iadd dX12_phrase_61 ?_
        obtain ⟨I9, eI9, h⟩ := blE h
        refine ok_iast3 dX12_phrase_62 hT5 (by unfold vp_in; decide) (by decide) eI9 ?_
        refine ok_aload_n dX12_phrase_63 0 rfl ?_
        refine ok_getR (ci := 12) (k := 0) dX12_phrase_64 flRX12_7 rfl hW hZ0 (by decide) ?_
        refine ok_iconst (v := 5) dX12_phrase_67 (by decide) ?_
        refine ok_iald2 (N := 5) dX12_phrase_68 hT5 (by unfold vp_in; decide) (by decide) ?_
        cases h
        exact ok_iret dX12_phrase_69 hQ
      · have h := (if_pos hc6).symm.trans h
        refine ok_bipush (v := (-2)) dX12_phrase_34 (by decide) ?_
        cases h
        exact ok_iret dX12_phrase_36 hQ
  · have h := (if_pos hc1).symm.trans h
    refine ok_aload_n dX12_phrase_5 0 rfl ?_
    have hT10 : Z[(rO O a0 0)]? = some (13, 4371) := (wt_f (ci := 12) (k := 0) hW hZ0 rfl).2
    refine ok_getR (ci := 12) (k := 0) dX12_phrase_6 flRX12_7 rfl hW hZ0 (by decide) ?_
    refine ok_iconst (v := 5) dX12_phrase_9 (by decide) ?_
    refine ok_iconst (v := 0) dX12_phrase_10 (by decide) ?_
    obtain ⟨I11, eI11, h⟩ := blE h
    refine ok_iast3 dX12_phrase_11 hT10 (by unfold vp_in; decide) (by decide) eI11 ?_
    refine ok_iconst (v := 0) dX12_phrase_12 (by decide) ?_
    cases h
    exact ok_iret dX12_phrase_13 hQ
theorem k12_phrase {g : pG} {Q : Option Value → pW → Prop} {Z : pZ} {I : (Nat → Nat → Int32)} {L : (Nat → Nat → Int64)} {O : (Nat → Nat → Option Nat)} {a0 : Nat} {x1 : Int32} {res : Int32 × (Nat → Nat → Int32)} (d : Nat) (hW : WT Z O) (hZ0 : Z[a0]? = some (12, 34)) (h : f12_phrase I O a0 x1 = some res) (hQ : Q (some (.int res.1)) (Z, res.2, L, O)) : CT g (d + 3) m12_phrase 0 0 [.ref a0, .int x1] (Z, I, L, O) Q :=
  ct_of_ok (mt := m12_phrase) (ini := false) mo12_phrase.2.2.2.2 (fun h => by cases h) (Nat.le_of_ble_eq_true rfl) (o12_phrase d hW hZ0 h ⟨trivial, hQ, rfl, rfl⟩)
