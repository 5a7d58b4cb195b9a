theorem flRX12_194 : FL RX12 194 12 18 := ⟨(RX12, TX12, 34), rfl, by decide, tb_i 1323 (by decide +kernel)⟩
theorem flRX12_249 : FL RX12 249 12 19 := ⟨(RX12, TX12, 34), rfl, by decide, tb_i 1324 (by decide +kernel)⟩
theorem lkRX12_182 : Cond.methodLink RX12 182 yX12_openNow ∈ lw_tbl := tb_i 1537 (by decide +kernel)
theorem lkRX12_185 : Cond.methodLink RX12 185 yX12_nextToken ∈ lw_tbl := tb_i 1456 (by decide +kernel)
theorem lkRX12_188 : Cond.methodLink RX12 188 yX12_nameOf ∈ lw_tbl := tb_i 1572 (by decide +kernel)
theorem lkRX12_191 : Cond.methodLink RX12 191 yX12_isOf ∈ lw_tbl := tb_i 1576 (by decide +kernel)
theorem lkRX12_197 : Cond.methodLink RX12 197 yX12_settle ∈ lw_tbl := tb_i 1556 (by decide +kernel)
theorem lkRX12_200 : Cond.methodLink RX12 200 yX12_opened ∈ lw_tbl := tb_i 1580 (by decide +kernel)
theorem lkRX12_203 : Cond.methodLink RX12 203 yX12_isWord ∈ lw_tbl := tb_i 1495 (by decide +kernel)
theorem lkRX12_207 : Cond.methodLink RX12 207 yX12_isAskAhead ∈ lw_tbl := tb_i 1584 (by decide +kernel)
theorem lkRX12_211 : Cond.methodLink RX12 211 yX12_isCompared ∈ lw_tbl := tb_i 1545 (by decide +kernel)
theorem lkRX12_214 : Cond.methodLink RX12 214 yX12_compareOf ∈ lw_tbl := tb_i 1552 (by decide +kernel)
theorem lkRX12_217 : Cond.methodLink RX12 217 yX12_betweenOf ∈ lw_tbl := tb_i 1533 (by decide +kernel)
theorem lkRX12_220 : Cond.methodLink RX12 220 yX12_partOf ∈ lw_tbl := tb_i 1564 (by decide +kernel)
theorem lkRX12_223 : Cond.methodLink RX12 223 yX12_behindOne ∈ lw_tbl := tb_i 1529 (by decide +kernel)
theorem lkRX12_226 : Cond.methodLink RX12 226 yX12_beginOne ∈ lw_tbl := tb_i 1568 (by decide +kernel)
theorem lkRX12_229 : Cond.methodLink RX12 229 yX12_summed ∈ lw_tbl := tb_i 1525 (by decide +kernel)
theorem lkRX12_232 : Cond.methodLink RX12 232 yX12_figure ∈ lw_tbl := tb_i 1513 (by decide +kernel)
theorem lkRX12_236 : Cond.methodLink RX12 236 yX12_rollClause ∈ lw_tbl := tb_i 1509 (by decide +kernel)
theorem lkRX12_239 : Cond.methodLink RX12 239 yX12_pair ∈ lw_tbl := tb_i 1517 (by decide +kernel)
theorem lkRX12_243 : Cond.methodLink RX12 243 yX12_lawClause ∈ lw_tbl := tb_i 1521 (by decide +kernel)
theorem lkRX12_246 : Cond.methodLink RX12 246 yX12_sortOf ∈ lw_tbl := tb_i 1479 (by decide +kernel)
theorem lkRX12_252 : Cond.methodLink RX12 252 yX12_has ∈ lw_tbl := tb_i 1502 (by decide +kernel)
theorem lkRX12_255 : Cond.methodLink RX12 255 yX12_body ∈ lw_tbl := tb_i 1505 (by decide +kernel)
theorem lkRX12_258 : Cond.methodLink RX12 258 yX12_clause ∈ lw_tbl := tb_i 1475 (by decide +kernel)
theorem dX12_isCompared_0 : decode cX12_isCompared 0 = .ok (.aload_n 0, 1) := by decide +kernel
theorem dX12_isCompared_1 : decode cX12_isCompared 1 = .ok (.getfield 165, 3) := by decide +kernel
theorem dX12_isCompared_4 : decode cX12_isCompared 4 = .ok (.iconst 1, 1) := by decide +kernel
theorem dX12_isCompared_5 : decode cX12_isCompared 5 = .ok (.isub, 1) := by decide +kernel
theorem dX12_isCompared_6 : decode cX12_isCompared 6 = .ok (.istore_n 1, 1) := by decide +kernel
theorem dX12_isCompared_7 : decode cX12_isCompared 7 = .ok (.iload_n 1, 1) := by decide +kernel
theorem dX12_isCompared_8 : decode cX12_isCompared 8 = .ok (.ifCond .lt 22, 3) := by decide +kernel
theorem dX12_isCompared_11 : decode cX12_isCompared 11 = .ok (.aload_n 0, 1) := by decide +kernel
theorem dX12_isCompared_12 : decode cX12_isCompared 12 = .ok (.getfield 29, 3) := by decide +kernel
theorem dX12_isCompared_15 : decode cX12_isCompared 15 = .ok (.iload_n 1, 1) := by decide +kernel
theorem dX12_isCompared_16 : decode cX12_isCompared 16 = .ok (.iaload, 1) := by decide +kernel
theorem dX12_isCompared_17 : decode cX12_isCompared 17 = .ok (.invokestatic 168, 3) := by decide +kernel
theorem dX12_isCompared_20 : decode cX12_isCompared 20 = .ok (.iconst 4, 1) := by decide +kernel
theorem dX12_isCompared_21 : decode cX12_isCompared 21 = .ok (.if_icmp .le 9, 3) := by decide +kernel
theorem dX12_isCompared_24 : decode cX12_isCompared 24 = .ok (.iinc 1 (-1), 3) := by decide +kernel
theorem dX12_isCompared_27 : decode cX12_isCompared 27 = .ok (.goto (-20), 3) := by decide +kernel
theorem dX12_isCompared_30 : decode cX12_isCompared 30 = .ok (.iload_n 1, 1) := by decide +kernel
theorem dX12_isCompared_31 : decode cX12_isCompared 31 = .ok (.ifCond .lt 20, 3) := by decide +kernel
theorem dX12_isCompared_34 : decode cX12_isCompared 34 = .ok (.aload_n 0, 1) := by decide +kernel
theorem dX12_isCompared_35 : decode cX12_isCompared 35 = .ok (.getfield 29, 3) := by decide +kernel
theorem dX12_isCompared_38 : decode cX12_isCompared 38 = .ok (.iload_n 1, 1) := by decide +kernel
theorem dX12_isCompared_39 : decode cX12_isCompared 39 = .ok (.iaload, 1) := by decide +kernel
theorem dX12_isCompared_40 : decode cX12_isCompared 40 = .ok (.invokestatic 168, 3) := by decide +kernel
theorem dX12_isCompared_43 : decode cX12_isCompared 43 = .ok (.iconst 4, 1) := by decide +kernel
theorem dX12_isCompared_44 : decode cX12_isCompared 44 = .ok (.if_icmp .ne 7, 3) := by decide +kernel
theorem dX12_isCompared_47 : decode cX12_isCompared 47 = .ok (.iconst 1, 1) := by decide +kernel
theorem dX12_isCompared_48 : decode cX12_isCompared 48 = .ok (.goto 4, 3) := by decide +kernel
theorem dX12_isCompared_51 : decode cX12_isCompared 51 = .ok (.iconst 0, 1) := by decide +kernel
theorem dX12_isCompared_52 : decode cX12_isCompared 52 = .ok (.ireturn, 1) := by decide +kernel
def m12_isCompared : pMT := (yX12_isCompared, cX12_isCompared, 2, some .boolean)
theorem mo12_isCompared : mOK m12_isCompared 0 := ⟨tb_i 1548 (by decide +kernel), wi_RX12, ⟨wn_RX12.1, wn_RX12.2, by decide +kernel⟩, by decide, plainFor_of_name wp_RX12⟩
theorem mv12_isCompared : mV m12_isCompared := ⟨tb_i 1547 (by decide +kernel), tb_p 77 (by decide +kernel)⟩
def f12_isCompared_c30 (n : Nat) (I : (Nat → Nat → Int32)) (O : (Nat → Nat → Option Nat)) (b0 : Nat) (y1 : Int32) : Option (Int32) := (if y1 < 0 then some ((0 : Int32)) else (if y1 < 0 ∨ 160 ≤ y1.toNatClampNeg then none else (f12_rank (I (rO O b0 15) y1.toNatClampNeg)).bind fun r4 => (if r4 = (4 : Int32) then some ((1 : Int32)) else some ((0 : Int32)))))
set_option maxHeartbeats 4000000 in
set_option maxRecDepth 20000 in
theorem o12_isCompared_c30 {g : pG} {Qx : Option Value → pW → Prop} {Z : pZ} {I : (Nat → Nat → Int32)} {L : (Nat → Nat → Int64)} {O : (Nat → Nat → Option Nat)} {n : Nat} {res : Int32} (d : Nat) (hW : WT Z O) (hQ : (res = 0 ∨ res = 1) → Qx (some (.int res)) (Z, I, L, O)) (b0 : Nat) (y1 : Int32) (hZ_b0 : Z[b0]? = some (12, 34)) (h : f12_isCompared_c30 n I O b0 y1 = some res) : Ok g (d + 3, RX12, cX12_isCompared, 2, false, 0, 0, Z.length, pSl Z) Qx 30 [(0, .ref b0), (1, .int y1)] [] (Z, I, L, O) := by
  unfold f12_isCompared_c30 at h
  refine ok_iload_n dX12_isCompared_30 1 rfl ?_
  refine ok_if_lt (t := 51) dX12_isCompared_31 (by decide) (fun hc1 => ?_) (fun hc1 => ?_)
  · have h := (if_pos hc1).symm.trans h
    refine ok_iconst (v := 0) dX12_isCompared_51 (by decide) ?_
    cases h
    exact ok_iret dX12_isCompared_52 (hQ (Or.inl rfl))
  · have h := (if_neg hc1).symm.trans h
    refine ok_aload_n dX12_isCompared_34 0 rfl ?_
    have hT2 : Z[(rO O b0 15)]? = some (13, 160) := (wt_f (ci := 12) (k := 15) hW hZ_b0 rfl).2
    refine ok_getR (ci := 12) (k := 15) dX12_isCompared_35 flRX12_29 rfl hW hZ_b0 (by decide) ?_
    refine ok_iload_n dX12_isCompared_38 1 rfl ?_
    obtain ⟨hg3, h⟩ := gd h
    refine ok_iald2 (N := y1.toNatClampNeg) dX12_isCompared_39 hT2 hg3 rfl ?_
    obtain ⟨r4, hr5, h⟩ := bd h
    refine ok_callS (d := ((d + 0) + 2)) (mt := m12_rank) (mc := 0) (ms := 0) (As := [.int (I (rO O b0 15) y1.toNatClampNeg)]) (r := []) dX12_isCompared_40 mo12_rank mv12_rank lkRX12_168 rfl rfl (Nat.le_of_ble_eq_true rfl) (by show _ + 1 ≤ d + _; omega) (Nat.le_refl _) (Nat.le_refl _) (pRt_mono ?_)
    refine k12_rank (d + 0) hW  hr5 ?_
    intro _
    show Ok g _ Qx 43 [(0, .ref b0), (1, .int y1)] [.int r4] (Z, I, L, O)
    refine ok_iconst (v := 4) dX12_isCompared_43 (by decide) ?_
    refine ok_icmp_ne (t := 51) dX12_isCompared_44 (by decide) (fun hc6 => ?_) (fun hc6 => ?_)
    · have h := (if_neg hc6).symm.trans h
      refine ok_iconst (v := 0) dX12_isCompared_51 (by decide) ?_
      cases h
      exact ok_iret dX12_isCompared_52 (hQ (Or.inl rfl))
    · have h := (if_pos hc6).symm.trans h
      refine ok_iconst (v := 1) dX12_isCompared_47 (by decide) ?_
      refine ok_goto (t := 52) dX12_isCompared_48 (by decide) ?_
      cases h
      exact ok_iret dX12_isCompared_52 (hQ (Or.inr rfl))
def f12_isCompared_c7 (n : Nat) (I : (Nat → Nat → Int32)) (O : (Nat → Nat → Option Nat)) : Nat → Nat → Int32 → Option (Int32)
  | 0, _, _ => none
  | m + 1, b0, y1 => (if y1 < 0 then f12_isCompared_c30 n I O b0 y1 else (if y1 < 0 ∨ 160 ≤ y1.toNatClampNeg then none else (f12_rank (I (rO O b0 15) y1.toNatClampNeg)).bind fun r4 => (if r4 ≤ (4 : Int32) then f12_isCompared_c30 n I O b0 y1 else f12_isCompared_c7 n I O m b0 (y1 + (-1)))))
set_option maxHeartbeats 4000000 in
set_option maxRecDepth 20000 in
theorem o12_isCompared_c7 {g : pG} {Qx : Option Value → pW → Prop} {Z : pZ} {I : (Nat → Nat → Int32)} {L : (Nat → Nat → Int64)} {O : (Nat → Nat → Option Nat)} {n : Nat} {res : Int32} (d : Nat) (hW : WT Z O) (hQ : (res = 0 ∨ res = 1) → Qx (some (.int res)) (Z, I, L, O)) : ∀ (m : Nat) (b0 : Nat) (y1 : Int32), (Z[b0]? = some (12, 34)) → f12_isCompared_c7 n I O m b0 y1 = some res → Ok g (d + 3, RX12, cX12_isCompared, 2, false, 0, 0, Z.length, pSl Z) Qx 7 [(0, .ref b0), (1, .int y1)] [] (Z, I, L, O) := by
  intro m
  induction m with
  | zero => intro b0 y1 hZ_b0 h; rw [f12_isCompared_c7] at h; cases h
  | succ m ih =>
    intro b0 y1 hZ_b0 h
    rw [f12_isCompared_c7] at h
    refine ok_iload_n dX12_isCompared_7 1 rfl ?_
    refine ok_if_lt (t := 30) dX12_isCompared_8 (by decide) (fun hc1 => ?_) (fun hc1 => ?_)
    · have h := (if_pos hc1).symm.trans h
      refine ok_sub [0, 1] rfl ?_
      exact o12_isCompared_c30 d hW hQ  b0 y1 hZ_b0 h
    · have h := (if_neg hc1).symm.trans h
      refine ok_aload_n dX12_isCompared_11 0 rfl ?_
      have hT2 : Z[(rO O b0 15)]? = some (13, 160) := (wt_f (ci := 12) (k := 15) hW hZ_b0 rfl).2
      refine ok_getR (ci := 12) (k := 15) dX12_isCompared_12 flRX12_29 rfl hW hZ_b0 (by decide) ?_
      refine ok_iload_n dX12_isCompared_15 1 rfl ?_
      obtain ⟨hg3, h⟩ := gd h
      refine ok_iald2 (N := y1.toNatClampNeg) dX12_isCompared_16 hT2 hg3 rfl ?_
      obtain ⟨r4, hr5, h⟩ := bd h
      refine ok_callS (d := ((d + 0) + 2)) (mt := m12_rank) (mc := 0) (ms := 0) (As := [.int (I (rO O b0 15) y1.toNatClampNeg)]) (r := []) dX12_isCompared_17 mo12_rank mv12_rank lkRX12_168 rfl rfl (Nat.le_of_ble_eq_true rfl) (by show _ + 1 ≤ d + _; omega) (Nat.le_refl _) (Nat.le_refl _) (pRt_mono ?_)
      refine k12_rank (d + 0) hW  hr5 ?_
      intro _
      show Ok g _ Qx 20 [(0, .ref b0), (1, .int y1)] [.int r4] (Z, I, L, O)
      refine ok_iconst (v := 4) dX12_isCompared_20 (by decide) ?_
      refine ok_icmp_le (t := 30) dX12_isCompared_21 (by decide) (fun hc6 => ?_) (fun hc6 => ?_)
      · have h := (if_pos hc6).symm.trans h
        refine ok_sub [0, 1] rfl ?_
        exact o12_isCompared_c30 d hW hQ  b0 y1 hZ_b0 h
      · have h := (if_neg hc6).symm.trans h
        refine ok_iinc (u := (y1 + (-1))) (l' := [(1, .int (y1 + (-1))), (0, .ref b0)]) dX12_isCompared_24 1 rfl rfl (Nat.le_of_ble_eq_true rfl) rfl ?_
        refine ok_goto (t := 7) dX12_isCompared_27 (by decide) ?_
        refine ok_sub [1, 0] rfl ?_
        exact ih b0 (y1 + (-1)) hZ_b0 h
def f12_isCompared (n : Nat) (I : (Nat → Nat → Int32)) (O : (Nat → Nat → Option Nat)) (a0 : Nat) : Option (Int32) := f12_isCompared_c7 n I O n a0 ((I a0 16) - 1)
set_option maxHeartbeats 4000000 in
set_option maxRecDepth 20000 in
theorem o12_isCompared {g : pG} {Qx : Option Value → pW → Prop} {Z : pZ} {I : (Nat → Nat → Int32)} {L : (Nat → Nat → Int64)} {O : (Nat → Nat → Option Nat)} {n : Nat} {a0 : Nat} {res : Int32} (d : Nat) (hW : WT Z O) (hZ0 : Z[a0]? = some (12, 34)) (h : f12_isCompared n I O a0 = some res) (hQ : (res = 0 ∨ res = 1) → Qx (some (.int res)) (Z, I, L, O)) : Ok g (d + 3, RX12, cX12_isCompared, 2, false, 0, 0, Z.length, pSl Z) Qx 0 [(0, .ref a0)] [] (Z, I, L, O) := by
  unfold f12_isCompared at h
  refine ok_aload_n dX12_isCompared_0 0 rfl ?_
  refine ok_getI (ci := 12) (k := 16) dX12_isCompared_1 flRX12_165 rfl hZ0 (by decide) ?_
  refine ok_iconst (v := 1) dX12_isCompared_4 (by decide) ?_
  refine ok_isub dX12_isCompared_5 ?_
  refine ok_istore_n (l' := [(1, .int ((I a0 16) - 1)), (0, .ref a0)]) dX12_isCompared_6 rfl (Nat.le_of_ble_eq_true rfl) rfl ?_
  refine ok_sub [1, 0] rfl ?_
  exact o12_isCompared_c7 d hW hQ  n a0 ((I a0 16) - 1) hZ0 h
theorem k12_isCompared {g : pG} {Q : Option Value → pW → Prop} {Z : pZ} {I : (Nat → Nat → Int32)} {L : (Nat → Nat → Int64)} {O : (Nat → Nat → Option Nat)} {n : Nat} {a0 : Nat} {res : Int32} (d : Nat) (hW : WT Z O) (hZ0 : Z[a0]? = some (12, 34)) (h : f12_isCompared n I O a0 = some res) (hQ : Q (some (.int res)) (Z, I, L, O)) : CT g (d + 3) m12_isCompared 0 0 [.ref a0] (Z, I, L, O) Q :=
  ct_of_ok (mt := m12_isCompared) (ini := false) mo12_isCompared.2.2.2.2 (fun h => by cases h) (Nat.le_of_ble_eq_true rfl) (o12_isCompared d hW hZ0 h (fun hb => ⟨hb, hQ, rfl, rfl⟩))
theorem dX12_isAskAhead_0 : decode cX12_isAskAhead 0 = .ok (.aload_n 0, 1) := by decide +kernel
theorem dX12_isAskAhead_1 : decode cX12_isAskAhead 1 = .ok (.invokevirtual 182, 3) := by decide +kernel
theorem dX12_isAskAhead_4 : decode cX12_isAskAhead 4 = .ok (.bipush 41, 2) := by decide +kernel
theorem dX12_isAskAhead_6 : decode cX12_isAskAhead 6 = .ok (.if_icmp .ne 45, 3) := by decide +kernel
theorem dX12_isAskAhead_9 : decode cX12_isAskAhead 9 = .ok (.aload_n 0, 1) := by decide +kernel
theorem dX12_isAskAhead_10 : decode cX12_isAskAhead 10 = .ok (.getfield 29, 3) := by decide +kernel
theorem dX12_isAskAhead_13 : decode cX12_isAskAhead 13 = .ok (.aload_n 0, 1) := by decide +kernel
theorem dX12_isAskAhead_14 : decode cX12_isAskAhead 14 = .ok (.getfield 165, 3) := by decide +kernel
theorem dX12_isAskAhead_17 : decode cX12_isAskAhead 17 = .ok (.iconst 1, 1) := by decide +kernel
theorem dX12_isAskAhead_18 : decode cX12_isAskAhead 18 = .ok (.isub, 1) := by decide +kernel
theorem dX12_isAskAhead_19 : decode cX12_isAskAhead 19 = .ok (.iaload, 1) := by decide +kernel
theorem dX12_isAskAhead_20 : decode cX12_isAskAhead 20 = .ok (.bipush 40, 2) := by decide +kernel
theorem dX12_isAskAhead_22 : decode cX12_isAskAhead 22 = .ok (.if_icmp .ge 25, 3) := by decide +kernel
theorem dX12_isAskAhead_25 : decode cX12_isAskAhead 25 = .ok (.aload_n 0, 1) := by decide +kernel
theorem dX12_isAskAhead_26 : decode cX12_isAskAhead 26 = .ok (.getfield 29, 3) := by decide +kernel
theorem dX12_isAskAhead_29 : decode cX12_isAskAhead 29 = .ok (.aload_n 0, 1) := by decide +kernel
theorem dX12_isAskAhead_30 : decode cX12_isAskAhead 30 = .ok (.getfield 165, 3) := by decide +kernel
theorem dX12_isAskAhead_33 : decode cX12_isAskAhead 33 = .ok (.iconst 1, 1) := by decide +kernel
theorem dX12_isAskAhead_34 : decode cX12_isAskAhead 34 = .ok (.isub, 1) := by decide +kernel
theorem dX12_isAskAhead_35 : decode cX12_isAskAhead 35 = .ok (.iaload, 1) := by decide +kernel
theorem dX12_isAskAhead_36 : decode cX12_isAskAhead 36 = .ok (.invokestatic 168, 3) := by decide +kernel
theorem dX12_isAskAhead_39 : decode cX12_isAskAhead 39 = .ok (.iconst 1, 1) := by decide +kernel
theorem dX12_isAskAhead_40 : decode cX12_isAskAhead 40 = .ok (.iconst 3, 1) := by decide +kernel
theorem dX12_isAskAhead_41 : decode cX12_isAskAhead 41 = .ok (.invokestatic 75, 3) := by decide +kernel
theorem dX12_isAskAhead_44 : decode cX12_isAskAhead 44 = .ok (.ifCond .eq 7, 3) := by decide +kernel
theorem dX12_isAskAhead_47 : decode cX12_isAskAhead 47 = .ok (.iconst 1, 1) := by decide +kernel
theorem dX12_isAskAhead_48 : decode cX12_isAskAhead 48 = .ok (.goto 4, 3) := by decide +kernel
theorem dX12_isAskAhead_51 : decode cX12_isAskAhead 51 = .ok (.iconst 0, 1) := by decide +kernel
theorem dX12_isAskAhead_52 : decode cX12_isAskAhead 52 = .ok (.ireturn, 1) := by decide +kernel
def m12_isAskAhead : pMT := (yX12_isAskAhead, cX12_isAskAhead, 1, some .boolean)
theorem mo12_isAskAhead : mOK m12_isAskAhead 0 := ⟨tb_i 1587 (by decide +kernel), wi_RX12, ⟨wn_RX12.1, wn_RX12.2, by decide +kernel⟩, by decide, plainFor_of_name wp_RX12⟩
theorem mv12_isAskAhead : mV m12_isAskAhead := ⟨tb_i 1586 (by decide +kernel), tb_p 86 (by decide +kernel)⟩
def f12_isAskAhead (n : Nat) (I : (Nat → Nat → Int32)) (O : (Nat → Nat → Option Nat)) (a0 : Nat) : Option (Int32) := (f12_openNow n I O a0).bind fun r1 => (if r1 = (41 : Int32) then (if ((I a0 16) - 1) < 0 ∨ 160 ≤ ((I a0 16) - 1).toNatClampNeg then none else (if (40 : Int32) ≤ (I (rO O a0 15) ((I a0 16) - 1).toNatClampNeg) then some ((1 : Int32)) else (if ((I a0 16) - 1) < 0 ∨ 160 ≤ ((I a0 16) - 1).toNatClampNeg then none else (f12_rank (I (rO O a0 15) ((I a0 16) - 1).toNatClampNeg)).bind fun r8 => (f12_isIn r8 (1 : Int32) (3 : Int32)).bind fun r10 => (if r10 = 0 then some ((0 : Int32)) else some ((1 : Int32)))))) else some ((0 : Int32)))
set_option maxHeartbeats 4000000 in
set_option maxRecDepth 20000 in
theorem o12_isAskAhead {g : pG} {Qx : Option Value → pW → Prop} {Z : pZ} {I : (Nat → Nat → Int32)} {L : (Nat → Nat → Int64)} {O : (Nat → Nat → Option Nat)} {n : Nat} {a0 : Nat} {res : Int32} (d : Nat) (hW : WT Z O) (hZ0 : Z[a0]? = some (12, 34)) (h : f12_isAskAhead n I O a0 = some res) (hQ : (res = 0 ∨ res = 1) → Qx (some (.int res)) (Z, I, L, O)) : Ok g (d + 4, RX12, cX12_isAskAhead, 1, false, 0, 0, Z.length, pSl Z) Qx 0 [(0, .ref a0)] [] (Z, I, L, O) := by
  unfold f12_isAskAhead at h
  refine ok_aload_n dX12_isAskAhead_0 0 rfl ?_
  obtain ⟨r1, hr2, h⟩ := bd h
  refine ok_callV (d := ((d + 0) + 3)) (mt := m12_openNow) (mc := 0) (ms := 0) (As := []) (r := []) dX12_isAskAhead_1 mo12_openNow mv12_openNow lkRX12_182 rfl hZ0 (q := (RX12, TX12, 34)) rfl rfl rfl (Nat.le_of_ble_eq_true rfl) (by show _ + 1 ≤ d + _; omega) (Nat.le_refl _) (Nat.le_refl _) (pRt_mono ?_)
  refine k12_openNow (d + 0) hW hZ0 hr2 ?_
  intro _
  show Ok g _ Qx 4 [(0, .ref a0)] [.int r1] (Z, I, L, O)
  refine ok_bipush (v := 41) dX12_isAskAhead_4 (by decide) ?_
  refine ok_icmp_ne (t := 51) dX12_isAskAhead_6 (by decide) (fun hc3 => ?_) (fun hc3 => ?_)
  · have h := (if_neg hc3).symm.trans h
    refine ok_iconst (v := 0) dX12_isAskAhead_51 (by decide) ?_
    cases h
    exact ok_iret dX12_isAskAhead_52 (hQ (Or.inl rfl))
  · have h := (if_pos hc3).symm.trans h
    refine ok_aload_n dX12_isAskAhead_9 0 rfl ?_
    have hT4 : Z[(rO O a0 15)]? = some (13, 160) := (wt_f (ci := 12) (k := 15) hW hZ0 rfl).2
    refine ok_getR (ci := 12) (k := 15) dX12_isAskAhead_10 flRX12_29 rfl hW hZ0 (by decide) ?_
    refine ok_aload_n dX12_isAskAhead_13 0 rfl ?_
    refine ok_getI (ci := 12) (k := 16) dX12_isAskAhead_14 flRX12_165 rfl hZ0 (by decide) ?_
    refine ok_iconst (v := 1) dX12_isAskAhead_17 (by decide) ?_
    refine ok_isub dX12_isAskAhead_18 ?_
    obtain ⟨hg5, h⟩ := gd h
    refine ok_iald2 (N := ((I a0 16) - 1).toNatClampNeg) dX12_isAskAhead_19 hT4 hg5 rfl ?_
    refine ok_bipush (v := 40) dX12_isAskAhead_20 (by decide) ?_
    refine ok_icmp_ge (t := 47) dX12_isAskAhead_22 (by decide) (fun hc6 => ?_) (fun hc6 => ?_)
    · have h := (if_pos hc6).symm.trans h
      refine ok_iconst (v := 1) dX12_isAskAhead_47 (by decide) ?_
      refine ok_goto (t := 52) dX12_isAskAhead_48 (by decide) ?_
      cases h
      exact ok_iret dX12_isAskAhead_52 (hQ (Or.inr rfl))
    · have h := (if_neg hc6).symm.trans h
      refine ok_aload_n dX12_isAskAhead_25 0 rfl ?_
      refine ok_getR (ci := 12) (k := 15) dX12_isAskAhead_26 flRX12_29 rfl hW hZ0 (by decide) ?_
      refine ok_aload_n dX12_isAskAhead_29 0 rfl ?_
      refine ok_getI (ci := 12) (k := 16) dX12_isAskAhead_30 flRX12_165 rfl hZ0 (by decide) ?_
      refine ok_iconst (v := 1) dX12_isAskAhead_33 (by decide) ?_
      refine ok_isub dX12_isAskAhead_34 ?_
      obtain ⟨hg7, h⟩ := gd h
      refine ok_iald2 (N := ((I a0 16) - 1).toNatClampNeg) dX12_isAskAhead_35 hT4 hg7 rfl ?_
      obtain ⟨r8, hr9, h⟩ := bd h
      refine ok_callS (d := ((d + 1) + 2)) (mt := m12_rank) (mc := 0) (ms := 0) (As := [.int (I (rO O a0 15) ((I a0 16) - 1).toNatClampNeg)]) (r := []) dX12_isAskAhead_36 mo12_rank mv12_rank lkRX12_168 rfl rfl (Nat.le_of_ble_eq_true rfl) (by show _ + 1 ≤ d + _; omega) (Nat.le_refl _) (Nat.le_refl _) (pRt_mono ?_)
      refine k12_rank (d + 1) hW  hr9 ?_
      intro _
      show Ok g _ Qx 39 [(0, .ref a0)] [.int r8] (Z, I, L, O)
      refine ok_iconst (v := 1) dX12_isAskAhead_39 (by decide) ?_
      refine ok_iconst (v := 3) dX12_isAskAhead_40 (by decide) ?_
      obtain ⟨r10, hr11, h⟩ := bd h
      refine ok_callS (d := ((d + 1) + 2)) (mt := m12_isIn) (mc := 0) (ms := 0) (As := [.int r8, .int 1, .int 3]) (r := []) dX12_isAskAhead_41 mo12_isIn mv12_isIn lkRX12_75 rfl rfl (Nat.le_of_ble_eq_true rfl) (by show _ + 1 ≤ d + _; omega) (Nat.le_refl _) (Nat.le_refl _) (pRt_mono ?_)
      refine k12_isIn (d + 1) hW  hr11 ?_
      intro hbr10
      show Ok g _ Qx 44 [(0, .ref a0)] [.int r10] (Z, I, L, O)
      refine ok_if_eq (t := 51) dX12_isAskAhead_44 (by decide) (fun hc12 => ?_) (fun hc12 => ?_)
      · have h := (if_pos hc12).symm.trans h
        refine ok_iconst (v := 0) dX12_isAskAhead_51 (by decide) ?_
        cases h
        exact ok_iret dX12_isAskAhead_52 (hQ (Or.inl rfl))
      · have h := (if_neg hc12).symm.trans h
        refine ok_iconst (v := 1) dX12_isAskAhead_47 (by decide) ?_
        refine ok_goto (t := 52) dX12_isAskAhead_48 (by decide) ?_
        cases h
        exact ok_iret dX12_isAskAhead_52 (hQ (Or.inr rfl))
theorem k12_isAskAhead {g : pG} {Q : Option Value → pW → Prop} {Z : pZ} {I : (Nat → Nat → Int32)} {L : (Nat → Nat → Int64)} {O : (Nat → Nat → Option Nat)} {n : Nat} {a0 : Nat} {res : Int32} (d : Nat) (hW : WT Z O) (hZ0 : Z[a0]? = some (12, 34)) (h : f12_isAskAhead n I O a0 = some res) (hQ : Q (some (.int res)) (Z, I, L, O)) : CT g (d + 4) m12_isAskAhead 0 0 [.ref a0] (Z, I, L, O) Q :=
  ct_of_ok (mt := m12_isAskAhead) (ini := false) mo12_isAskAhead.2.2.2.2 (fun h => by cases h) (Nat.le_of_ble_eq_true rfl) (o12_isAskAhead d hW hZ0 h (fun hb => ⟨hb, hQ, rfl, rfl⟩))
theorem dX12_opened_0 : decode cX12_opened 0 = .ok (.aload_n 0, 1) := by decide +kernel
theorem dX12_opened_1 : decode cX12_opened 1 = .ok (.getfield 175, 3) := by decide +kernel
theorem dX12_opened_4 : decode cX12_opened 4 = .ok (.bipush 8, 2) := by decide +kernel
theorem dX12_opened_6 : decode cX12_opened 6 = .ok (.if_icmp .ne 5, 3) := by decide +kernel
theorem dX12_opened_9 : decode cX12_opened 9 = .ok (.iconst 3, 1) := by decide +kernel
theorem dX12_opened_10 : decode cX12_opened 10 = .ok (.ireturn, 1) := by decide +kernel
theorem dX12_opened_11 : decode cX12_opened 11 = .ok (.aload_n 0, 1) := by decide +kernel
theorem dX12_opened_12 : decode cX12_opened 12 = .ok (.dup, 1) := by decide +kernel
theorem dX12_opened_13 : decode cX12_opened 13 = .ok (.getfield 175, 3) := by decide +kernel
theorem dX12_opened_16 : decode cX12_opened 16 = .ok (.iconst 1, 1) := by decide +kernel
theorem dX12_opened_17 : decode cX12_opened 17 = .ok (.iadd, 1) := by decide +kernel
theorem dX12_opened_18 : decode cX12_opened 18 = .ok (.putfield 175, 3) := by decide +kernel
theorem dX12_opened_21 : decode cX12_opened 21 = .ok (.aload_n 0, 1) := by decide +kernel
theorem dX12_opened_22 : decode cX12_opened 22 = .ok (.getfield 29, 3) := by decide +kernel
theorem dX12_opened_25 : decode cX12_opened 25 = .ok (.aload_n 0, 1) := by decide +kernel
theorem dX12_opened_26 : decode cX12_opened 26 = .ok (.getfield 165, 3) := by decide +kernel
theorem dX12_opened_29 : decode cX12_opened 29 = .ok (.iload_n 1, 1) := by decide +kernel
theorem dX12_opened_30 : decode cX12_opened 30 = .ok (.iastore, 1) := by decide +kernel
theorem dX12_opened_31 : decode cX12_opened 31 = .ok (.aload_n 0, 1) := by decide +kernel
theorem dX12_opened_32 : decode cX12_opened 32 = .ok (.dup, 1) := by decide +kernel
theorem dX12_opened_33 : decode cX12_opened 33 = .ok (.getfield 165, 3) := by decide +kernel
theorem dX12_opened_36 : decode cX12_opened 36 = .ok (.iconst 1, 1) := by decide +kernel
theorem dX12_opened_37 : decode cX12_opened 37 = .ok (.iadd, 1) := by decide +kernel
theorem dX12_opened_38 : decode cX12_opened 38 = .ok (.putfield 165, 3) := by decide +kernel
theorem dX12_opened_41 : decode cX12_opened 41 = .ok (.aload_n 0, 1) := by decide +kernel
theorem dX12_opened_42 : decode cX12_opened 42 = .ok (.invokevirtual 185, 3) := by decide +kernel
theorem dX12_opened_45 : decode cX12_opened 45 = .ok (.iconst 0, 1) := by decide +kernel
theorem dX12_opened_46 : decode cX12_opened 46 = .ok (.ireturn, 1) := by decide +kernel
def m12_opened : pMT := (yX12_opened, cX12_opened, 2, some .int)
theorem mo12_opened : mOK m12_opened 1 := ⟨tb_i 1583 (by decide +kernel), wi_RX12, ⟨wn_RX12.1, wn_RX12.2, by decide +kernel⟩, by decide, plainFor_of_name wp_RX12⟩
theorem mv12_opened : mV m12_opened := ⟨tb_i 1582 (by decide +kernel), tb_p 85 (by decide +kernel)⟩
def f12_opened (n : Nat) (I : (Nat → Nat → Int32)) (L : (Nat → Nat → Int64)) (O : (Nat → Nat → Option Nat)) (a0 : Nat) (x1 : Int32) : Option (Int32 × (Nat → Nat → Int32) × (Nat → Nat → Int64)) := (if (I a0 17) = (8 : Int32) then some ((3 : Int32), I, L) else bl (sI I a0 17 ((I a0 17) + 1)) fun I2 => (if (I2 a0 16) < 0 ∨ 160 ≤ (I2 a0 16).toNatClampNeg then none else bl (sI I2 (rO O a0 15) (I2 a0 16).toNatClampNeg x1) fun I5 => bl (sI I5 a0 16 ((I5 a0 16) + 1)) fun I6 => (f12_nextToken n I6 L O a0).bind fun r7 => some ((0 : Int32), r7.1, r7.2)))
set_option maxHeartbeats 4000000 in
set_option maxRecDepth 20000 in
theorem o12_opened {g : pG} {Qx : Option Value → pW → Prop} {Z : pZ} {I : (Nat → Nat → Int32)} {L : (Nat → Nat → Int64)} {O : (Nat → Nat → Option Nat)} {n : Nat} {a0 : Nat} {x1 : Int32} {res : Int32 × (Nat → Nat → Int32) × (Nat → Nat → Int64)} (d : Nat) (hW : WT Z O) (hZ0 : Z[a0]? = some (12, 34)) (h : f12_opened n I L O a0 x1 = some res) (hQ : Qx (some (.int res.1)) (Z, res.2.1, res.2.2, O)) : Ok g (d + 4, RX12, cX12_opened, 2, false, 0, 0, Z.length, pSl Z) Qx 0 [(0, .ref a0), (1, .int x1)] [] (Z, I, L, O) := by
  unfold f12_opened at h
  refine ok_aload_n dX12_opened_0 0 rfl ?_
  refine ok_getI (ci := 12) (k := 17) dX12_opened_1 flRX12_175 rfl hZ0 (by decide) ?_
  refine ok_bipush (v := 8) dX12_opened_4 (by decide) ?_
  refine ok_icmp_ne (t := 11) dX12_opened_6 (by decide) (fun hc1 => ?_) (fun hc1 => ?_)
  · have h := (if_neg hc1).symm.trans h
    refine ok_aload_n dX12_opened_11 0 rfl ?_
    refine ok_dup dX12_opened_12 rfl ?_
    refine ok_getI (ci := 12) (k := 17) dX12_opened_13 flRX12_175 rfl hZ0 (by decide) ?_
    refine ok_iconst (v := 1) dX12_opened_16 (by decide) ?_
    refine ok_iadd dX12_opened_17 ?_
    obtain ⟨I2, eI2, h⟩ := blE h
    refine ok_putI2 (ci := 12) (k := 17) dX12_opened_18 flRX12_175 rfl (Or.inl rfl) hZ0 (by decide) eI2 ?_
    refine ok_aload_n dX12_opened_21 0 rfl ?_
    have hT3 : Z[(rO O a0 15)]? = some (13, 160) := (wt_f (ci := 12) (k := 15) hW hZ0 rfl).2
    refine ok_getR (ci := 12) (k := 15) dX12_opened_22 flRX12_29 rfl hW hZ0 (by decide) ?_
    refine ok_aload_n dX12_opened_25 0 rfl ?_
    refine ok_getI (ci := 12) (k := 16) dX12_opened_26 flRX12_165 rfl hZ0 (by decide) ?_
    refine ok_iload_n dX12_opened_29 1 rfl ?_
    obtain ⟨hg4, h⟩ := gd h
    obtain ⟨I5, eI5, h⟩ := blE h
    refine ok_iast3 dX12_opened_30 hT3 hg4 rfl eI5 ?_
    refine ok_aload_n dX12_opened_31 0 rfl ?_
    refine ok_dup dX12_opened_32 rfl ?_
    refine ok_getI (ci := 12) (k := 16) dX12_opened_33 flRX12_165 rfl hZ0 (by decide) ?_
    refine ok_iconst (v := 1) dX12_opened_36 (by decide) ?_
    refine ok_iadd dX12_opened_37 ?_
    obtain ⟨I6, eI6, h⟩ := blE h
    refine ok_putI2 (ci := 12) (k := 16) dX12_opened_38 flRX12_165 rfl (Or.inl rfl) hZ0 (by decide) eI6 ?_
    refine ok_aload_n dX12_opened_41 0 rfl ?_
    obtain ⟨r7, hr8, h⟩ := bd h
    refine ok_callV (d := ((d + 0) + 3)) (mt := m12_nextToken) (mc := 0) (ms := 0) (As := []) (r := []) dX12_opened_42 mo12_nextToken mv12_nextToken lkRX12_185 rfl hZ0 (q := (RX12, TX12, 34)) rfl rfl rfl (Nat.le_of_ble_eq_true rfl) (by show _ + 1 ≤ d + _; omega) (Nat.le_refl _) (Nat.le_refl _) (pRt_mono ?_)
    refine k12_nextToken (d + 0) hW hZ0 hr8 ?_
    intro _
    show Ok g _ Qx 45 [(0, .ref a0), (1, .int x1)] [] (Z, r7.1, r7.2, O)
    refine ok_iconst (v := 0) dX12_opened_45 (by decide) ?_
    cases h
    exact ok_iret dX12_opened_46 hQ
  · have h := (if_pos hc1).symm.trans h
    refine ok_iconst (v := 3) dX12_opened_9 (by decide) ?_
    cases h
    exact ok_iret dX12_opened_10 hQ
theorem k12_opened {g : pG} {Q : Option Value → pW → Prop} {Z : pZ} {I : (Nat → Nat → Int32)} {L : (Nat → Nat → Int64)} {O : (Nat → Nat → Option Nat)} {n : Nat} {a0 : Nat} {x1 : Int32} {res : Int32 × (Nat → Nat → Int32) × (Nat → Nat → Int64)} (d : Nat) (hW : WT Z O) (hZ0 : Z[a0]? = some (12, 34)) (h : f12_opened n I L O a0 x1 = some res) (hQ : Q (some (.int res.1)) (Z, res.2.1, res.2.2, O)) : CT g (d + 4) m12_opened 0 0 [.ref a0, .int x1] (Z, I, L, O) Q :=
  ct_of_ok (mt := m12_opened) (ini := false) mo12_opened.2.2.2.2 (fun h => by cases h) (Nat.le_of_ble_eq_true rfl) (o12_opened d hW hZ0 h ⟨trivial, hQ, rfl, rfl⟩)
theorem dX12_beginOne_0 : decode cX12_beginOne 0 = .ok (.aload_n 0, 1) := by decide +kernel
theorem dX12_beginOne_1 : decode cX12_beginOne 1 = .ok (.getfield 114, 3) := by decide +kernel
theorem dX12_beginOne_4 : decode cX12_beginOne 4 = .ok (.iconst 1, 1) := by decide +kernel
theorem dX12_beginOne_5 : decode cX12_beginOne 5 = .ok (.if_icmp .ne 15, 3) := by decide +kernel
theorem dX12_beginOne_8 : decode cX12_beginOne 8 = .ok (.aload_n 0, 1) := by decide +kernel
theorem dX12_beginOne_9 : decode cX12_beginOne 9 = .ok (.getfield 120, 3) := by decide +kernel
theorem dX12_beginOne_12 : decode cX12_beginOne 12 = .ok (.sipush 9999, 3) := by decide +kernel
theorem dX12_beginOne_15 : decode cX12_beginOne 15 = .ok (.if_icmp .le 5, 3) := by decide +kernel
theorem dX12_beginOne_18 : decode cX12_beginOne 18 = .ok (.iconst 2, 1) := by decide +kernel
theorem dX12_beginOne_19 : decode cX12_beginOne 19 = .ok (.ireturn, 1) := by decide +kernel
theorem dX12_beginOne_20 : decode cX12_beginOne 20 = .ok (.aload_n 0, 1) := by decide +kernel
theorem dX12_beginOne_21 : decode cX12_beginOne 21 = .ok (.invokevirtual 188, 3) := by decide +kernel
theorem dX12_beginOne_24 : decode cX12_beginOne 24 = .ok (.istore_n 1, 1) := by decide +kernel
theorem dX12_beginOne_25 : decode cX12_beginOne 25 = .ok (.iload_n 1, 1) := by decide +kernel
theorem dX12_beginOne_26 : decode cX12_beginOne 26 = .ok (.ifCond .lt 13, 3) := by decide +kernel
theorem dX12_beginOne_29 : decode cX12_beginOne 29 = .ok (.aload_n 0, 1) := by decide +kernel
theorem dX12_beginOne_30 : decode cX12_beginOne 30 = .ok (.iload_n 1, 1) := by decide +kernel
theorem dX12_beginOne_31 : decode cX12_beginOne 31 = .ok (.invokevirtual 191, 3) := by decide +kernel
theorem dX12_beginOne_34 : decode cX12_beginOne 34 = .ok (.ifCond .ne 5, 3) := by decide +kernel
theorem dX12_beginOne_37 : decode cX12_beginOne 37 = .ok (.iconst 5, 1) := by decide +kernel
theorem dX12_beginOne_38 : decode cX12_beginOne 38 = .ok (.ireturn, 1) := by decide +kernel
theorem dX12_beginOne_39 : decode cX12_beginOne 39 = .ok (.aload_n 0, 1) := by decide +kernel
theorem dX12_beginOne_40 : decode cX12_beginOne 40 = .ok (.getfield 114, 3) := by decide +kernel
theorem dX12_beginOne_43 : decode cX12_beginOne 43 = .ok (.iconst 1, 1) := by decide +kernel
theorem dX12_beginOne_44 : decode cX12_beginOne 44 = .ok (.if_icmp .eq 7, 3) := by decide +kernel
theorem dX12_beginOne_47 : decode cX12_beginOne 47 = .ok (.iload_n 1, 1) := by decide +kernel
theorem dX12_beginOne_48 : decode cX12_beginOne 48 = .ok (.ifCond .lt 53, 3) := by decide +kernel
theorem dX12_beginOne_51 : decode cX12_beginOne 51 = .ok (.aload_n 0, 1) := by decide +kernel
theorem dX12_beginOne_52 : decode cX12_beginOne 52 = .ok (.aload_n 0, 1) := by decide +kernel
theorem dX12_beginOne_53 : decode cX12_beginOne 53 = .ok (.getfield 114, 3) := by decide +kernel
theorem dX12_beginOne_56 : decode cX12_beginOne 56 = .ok (.iconst 1, 1) := by decide +kernel
theorem dX12_beginOne_57 : decode cX12_beginOne 57 = .ok (.if_icmp .ne 7, 3) := by decide +kernel
theorem dX12_beginOne_60 : decode cX12_beginOne 60 = .ok (.iconst 0, 1) := by decide +kernel
theorem dX12_beginOne_61 : decode cX12_beginOne 61 = .ok (.goto 4, 3) := by decide +kernel
theorem dX12_beginOne_64 : decode cX12_beginOne 64 = .ok (.iconst 1, 1) := by decide +kernel
theorem dX12_beginOne_65 : decode cX12_beginOne 65 = .ok (.aload_n 0, 1) := by decide +kernel
theorem dX12_beginOne_66 : decode cX12_beginOne 66 = .ok (.getfield 114, 3) := by decide +kernel
theorem dX12_beginOne_69 : decode cX12_beginOne 69 = .ok (.iconst 1, 1) := by decide +kernel
theorem dX12_beginOne_70 : decode cX12_beginOne 70 = .ok (.if_icmp .ne 10, 3) := by decide +kernel
theorem dX12_beginOne_73 : decode cX12_beginOne 73 = .ok (.aload_n 0, 1) := by decide +kernel
theorem dX12_beginOne_74 : decode cX12_beginOne 74 = .ok (.getfield 120, 3) := by decide +kernel
theorem dX12_beginOne_77 : decode cX12_beginOne 77 = .ok (.goto 4, 3) := by decide +kernel
theorem dX12_beginOne_80 : decode cX12_beginOne 80 = .ok (.iload_n 1, 1) := by decide +kernel
theorem dX12_beginOne_81 : decode cX12_beginOne 81 = .ok (.invokevirtual 171, 3) := by decide +kernel
theorem dX12_beginOne_84 : decode cX12_beginOne 84 = .ok (.aload_n 0, 1) := by decide +kernel
theorem dX12_beginOne_85 : decode cX12_beginOne 85 = .ok (.invokevirtual 185, 3) := by decide +kernel
theorem dX12_beginOne_88 : decode cX12_beginOne 88 = .ok (.aload_n 0, 1) := by decide +kernel
theorem dX12_beginOne_89 : decode cX12_beginOne 89 = .ok (.iconst 1, 1) := by decide +kernel
theorem dX12_beginOne_90 : decode cX12_beginOne 90 = .ok (.putfield 194, 3) := by decide +kernel
theorem dX12_beginOne_93 : decode cX12_beginOne 93 = .ok (.aload_n 0, 1) := by decide +kernel
theorem dX12_beginOne_94 : decode cX12_beginOne 94 = .ok (.bipush 7, 2) := by decide +kernel
theorem dX12_beginOne_96 : decode cX12_beginOne 96 = .ok (.invokevirtual 197, 3) := by decide +kernel
theorem dX12_beginOne_99 : decode cX12_beginOne 99 = .ok (.iconst 0, 1) := by decide +kernel
theorem dX12_beginOne_100 : decode cX12_beginOne 100 = .ok (.ireturn, 1) := by decide +kernel
theorem dX12_beginOne_101 : decode cX12_beginOne 101 = .ok (.aload_n 0, 1) := by decide +kernel
theorem dX12_beginOne_102 : decode cX12_beginOne 102 = .ok (.getfield 114, 3) := by decide +kernel
theorem dX12_beginOne_105 : decode cX12_beginOne 105 = .ok (.bipush 40, 2) := by decide +kernel
theorem dX12_beginOne_107 : decode cX12_beginOne 107 = .ok (.if_icmp .ne 10, 3) := by decide +kernel
theorem dX12_beginOne_110 : decode cX12_beginOne 110 = .ok (.aload_n 0, 1) := by decide +kernel
theorem dX12_beginOne_111 : decode cX12_beginOne 111 = .ok (.bipush 40, 2) := by decide +kernel
theorem dX12_beginOne_113 : decode cX12_beginOne 113 = .ok (.invokevirtual 200, 3) := by decide +kernel
theorem dX12_beginOne_116 : decode cX12_beginOne 116 = .ok (.ireturn, 1) := by decide +kernel
theorem dX12_beginOne_117 : decode cX12_beginOne 117 = .ok (.aload_n 0, 1) := by decide +kernel
theorem dX12_beginOne_118 : decode cX12_beginOne 118 = .ok (.getfield 114, 3) := by decide +kernel
theorem dX12_beginOne_121 : decode cX12_beginOne 121 = .ok (.bipush 45, 2) := by decide +kernel
theorem dX12_beginOne_123 : decode cX12_beginOne 123 = .ok (.if_icmp .ne 9, 3) := by decide +kernel
theorem dX12_beginOne_126 : decode cX12_beginOne 126 = .ok (.aload_n 0, 1) := by decide +kernel
theorem dX12_beginOne_127 : decode cX12_beginOne 127 = .ok (.iconst 5, 1) := by decide +kernel
theorem dX12_beginOne_128 : decode cX12_beginOne 128 = .ok (.invokevirtual 200, 3) := by decide +kernel
theorem dX12_beginOne_131 : decode cX12_beginOne 131 = .ok (.ireturn, 1) := by decide +kernel
theorem dX12_beginOne_132 : decode cX12_beginOne 132 = .ok (.aload_n 0, 1) := by decide +kernel
theorem dX12_beginOne_133 : decode cX12_beginOne 133 = .ok (.bipush 100, 2) := by decide +kernel
theorem dX12_beginOne_135 : decode cX12_beginOne 135 = .ok (.bipush 105, 2) := by decide +kernel
theorem dX12_beginOne_137 : decode cX12_beginOne 137 = .ok (.bipush 103, 2) := by decide +kernel
theorem dX12_beginOne_139 : decode cX12_beginOne 139 = .ok (.bipush 105, 2) := by decide +kernel
theorem dX12_beginOne_141 : decode cX12_beginOne 141 = .ok (.bipush 116, 2) := by decide +kernel
theorem dX12_beginOne_143 : decode cX12_beginOne 143 = .ok (.bipush 115, 2) := by decide +kernel
theorem dX12_beginOne_145 : decode cX12_beginOne 145 = .ok (.invokestatic 158, 3) := by decide +kernel
theorem dX12_beginOne_148 : decode cX12_beginOne 148 = .ok (.invokevirtual 203, 3) := by decide +kernel
theorem dX12_beginOne_151 : decode cX12_beginOne 151 = .ok (.ifCond .eq 9, 3) := by decide +kernel
theorem dX12_beginOne_154 : decode cX12_beginOne 154 = .ok (.aload_n 0, 1) := by decide +kernel
theorem dX12_beginOne_155 : decode cX12_beginOne 155 = .ok (.iconst 4, 1) := by decide +kernel
theorem dX12_beginOne_156 : decode cX12_beginOne 156 = .ok (.invokevirtual 200, 3) := by decide +kernel
theorem dX12_beginOne_159 : decode cX12_beginOne 159 = .ok (.ireturn, 1) := by decide +kernel
theorem dX12_beginOne_160 : decode cX12_beginOne 160 = .ok (.aload_n 0, 1) := by decide +kernel
theorem dX12_beginOne_161 : decode cX12_beginOne 161 = .ok (.bipush 104, 2) := by decide +kernel
theorem dX12_beginOne_163 : decode cX12_beginOne 163 = .ok (.bipush 111, 2) := by decide +kernel
theorem dX12_beginOne_165 : decode cX12_beginOne 165 = .ok (.bipush 108, 2) := by decide +kernel
theorem dX12_beginOne_167 : decode cX12_beginOne 167 = .ok (.bipush 101, 2) := by decide +kernel
theorem dX12_beginOne_169 : decode cX12_beginOne 169 = .ok (.bipush 115, 2) := by decide +kernel
theorem dX12_beginOne_171 : decode cX12_beginOne 171 = .ok (.invokestatic 148, 3) := by decide +kernel
theorem dX12_beginOne_174 : decode cX12_beginOne 174 = .ok (.invokevirtual 203, 3) := by decide +kernel
theorem dX12_beginOne_177 : decode cX12_beginOne 177 = .ok (.ifCond .eq 9, 3) := by decide +kernel
theorem dX12_beginOne_180 : decode cX12_beginOne 180 = .ok (.aload_n 0, 1) := by decide +kernel
theorem dX12_beginOne_181 : decode cX12_beginOne 181 = .ok (.iconst 2, 1) := by decide +kernel
theorem dX12_beginOne_182 : decode cX12_beginOne 182 = .ok (.invokevirtual 200, 3) := by decide +kernel
theorem dX12_beginOne_185 : decode cX12_beginOne 185 = .ok (.ireturn, 1) := by decide +kernel
theorem dX12_beginOne_186 : decode cX12_beginOne 186 = .ok (.aload_n 0, 1) := by decide +kernel
theorem dX12_beginOne_187 : decode cX12_beginOne 187 = .ok (.bipush 105, 2) := by decide +kernel
theorem dX12_beginOne_189 : decode cX12_beginOne 189 = .ok (.bipush 102, 2) := by decide +kernel
theorem dX12_beginOne_191 : decode cX12_beginOne 191 = .ok (.invokestatic 136, 3) := by decide +kernel
theorem dX12_beginOne_194 : decode cX12_beginOne 194 = .ok (.invokevirtual 203, 3) := by decide +kernel
theorem dX12_beginOne_197 : decode cX12_beginOne 197 = .ok (.ifCond .eq 10, 3) := by decide +kernel
theorem dX12_beginOne_200 : decode cX12_beginOne 200 = .ok (.aload_n 0, 1) := by decide +kernel
theorem dX12_beginOne_201 : decode cX12_beginOne 201 = .ok (.bipush 41, 2) := by decide +kernel
theorem dX12_beginOne_203 : decode cX12_beginOne 203 = .ok (.invokevirtual 200, 3) := by decide +kernel
theorem dX12_beginOne_206 : decode cX12_beginOne 206 = .ok (.ireturn, 1) := by decide +kernel
theorem dX12_beginOne_207 : decode cX12_beginOne 207 = .ok (.aload_n 0, 1) := by decide +kernel
theorem dX12_beginOne_208 : decode cX12_beginOne 208 = .ok (.bipush 110, 2) := by decide +kernel
theorem dX12_beginOne_210 : decode cX12_beginOne 210 = .ok (.bipush 111, 2) := by decide +kernel
theorem dX12_beginOne_212 : decode cX12_beginOne 212 = .ok (.bipush 116, 2) := by decide +kernel
theorem dX12_beginOne_214 : decode cX12_beginOne 214 = .ok (.invokestatic 140, 3) := by decide +kernel
theorem dX12_beginOne_217 : decode cX12_beginOne 217 = .ok (.invokevirtual 203, 3) := by decide +kernel
theorem dX12_beginOne_220 : decode cX12_beginOne 220 = .ok (.ifCond .eq 19, 3) := by decide +kernel
theorem dX12_beginOne_223 : decode cX12_beginOne 223 = .ok (.aload_n 0, 1) := by decide +kernel
theorem dX12_beginOne_224 : decode cX12_beginOne 224 = .ok (.invokevirtual 207, 3) := by decide +kernel
theorem dX12_beginOne_227 : decode cX12_beginOne 227 = .ok (.ifCond .eq 12, 3) := by decide +kernel
theorem dX12_beginOne_230 : decode cX12_beginOne 230 = .ok (.aload_n 0, 1) := by decide +kernel
theorem dX12_beginOne_231 : decode cX12_beginOne 231 = .ok (.bipush 20, 2) := by decide +kernel
theorem dX12_beginOne_233 : decode cX12_beginOne 233 = .ok (.invokevirtual 200, 3) := by decide +kernel
theorem dX12_beginOne_236 : decode cX12_beginOne 236 = .ok (.goto 4, 3) := by decide +kernel
theorem dX12_beginOne_239 : decode cX12_beginOne 239 = .ok (.iconst 1, 1) := by decide +kernel
theorem dX12_beginOne_240 : decode cX12_beginOne 240 = .ok (.ireturn, 1) := by decide +kernel
def m12_beginOne : pMT := (yX12_beginOne, cX12_beginOne, 2, some .int)
theorem mo12_beginOne : mOK m12_beginOne 0 := ⟨tb_i 1571 (by decide +kernel), wi_RX12, ⟨wn_RX12.1, wn_RX12.2, by decide +kernel⟩, by decide, plainFor_of_name wp_RX12⟩
theorem mv12_beginOne : mV m12_beginOne := ⟨tb_i 1570 (by decide +kernel), tb_p 82 (by decide +kernel)⟩
def f12_beginOne_c81 (n : Nat) (O : (Nat → Nat → Option Nat)) (I : (Nat → Nat → Int32)) (L : (Nat → Nat → Int64)) (b0 : Nat) (t0 : Int32) (t1 : Int32) (t2 : Nat) : Option (Int32 × (Nat → Nat → Int32) × (Nat → Nat → Int64)) := (f12_emit I O t2 t1 t0).bind fun r1 => (f12_nextToken n r1 L O b0).bind fun r3 => bl (sI r3.1 b0 18 (1 : Int32)) fun I5 => (f12_settle n I5 O b0 (7 : Int32)).bind fun r6 => some ((0 : Int32), r6, r3.2)
set_option maxHeartbeats 4000000 in
set_option maxRecDepth 20000 in
theorem o12_beginOne_c81 {g : pG} {Qx : Option Value → pW → Prop} {Z : pZ} {O : (Nat → Nat → Option Nat)} {n : Nat} {res : Int32 × (Nat → Nat → Int32) × (Nat → Nat → Int64)} (d : Nat) (hW : WT Z O) (hQ : Qx (some (.int res.1)) (Z, res.2.1, res.2.2, O)) (I : (Nat → Nat → Int32)) (L : (Nat → Nat → Int64)) (b0 : Nat) (t0 : Int32) (t1 : Int32) (t2 : Nat) (hZ_b0 : Z[b0]? = some (12, 34)) (hZ_t2 : Z[t2]? = some (12, 34)) (h : f12_beginOne_c81 n O I L b0 t0 t1 t2 = some res) : Ok g (d + 8, RX12, cX12_beginOne, 2, false, 0, 0, Z.length, pSl Z) Qx 81 [(0, .ref b0)] [.int t0, .int t1, .ref t2] (Z, I, L, O) := by
  unfold f12_beginOne_c81 at h
  obtain ⟨r1, hr2, h⟩ := bd h
  refine ok_callV (d := ((d + 5) + 2)) (mt := m12_emit) (mc := 0) (ms := 0) (As := [.int t1, .int t0]) (r := []) dX12_beginOne_81 mo12_emit mv12_emit lkRX12_171 rfl hZ_t2 (q := (RX12, TX12, 34)) rfl rfl rfl (Nat.le_of_ble_eq_true rfl) (by show _ + 1 ≤ d + _; omega) (Nat.le_refl _) (Nat.le_refl _) (pRt_mono ?_)
  refine k12_emit (d + 5) hW hZ_t2 hr2 ?_
  intro _
  show Ok g _ Qx 84 [(0, .ref b0)] [] (Z, r1, L, O)
  refine ok_aload_n dX12_beginOne_84 0 rfl ?_
  obtain ⟨r3, hr4, h⟩ := bd h
  refine ok_callV (d := ((d + 4) + 3)) (mt := m12_nextToken) (mc := 0) (ms := 0) (As := []) (r := []) dX12_beginOne_85 mo12_nextToken mv12_nextToken lkRX12_185 rfl hZ_b0 (q := (RX12, TX12, 34)) rfl rfl rfl (Nat.le_of_ble_eq_true rfl) (by show _ + 1 ≤ d + _; omega) (Nat.le_refl _) (Nat.le_refl _) (pRt_mono ?_)
  refine k12_nextToken (d + 4) hW hZ_b0 hr4 ?_
  intro _
  show Ok g _ Qx 88 [(0, .ref b0)] [] (Z, r3.1, r3.2, O)
  refine ok_aload_n dX12_beginOne_88 0 rfl ?_
  refine ok_iconst (v := 1) dX12_beginOne_89 (by decide) ?_
  obtain ⟨I5, eI5, h⟩ := blE h
  refine ok_putZ2 (ci := 12) (k := 18) dX12_beginOne_90 flRX12_194 rfl (Or.inl rfl) hZ_b0 (by decide) (Or.inr rfl) eI5 ?_
  refine ok_aload_n dX12_beginOne_93 0 rfl ?_
  refine ok_bipush (v := 7) dX12_beginOne_94 (by decide) ?_
  obtain ⟨r6, hr7, h⟩ := bd h
  refine ok_callV (d := ((d + 4) + 3)) (mt := m12_settle) (mc := 0) (ms := 0) (As := [.int 7]) (r := []) dX12_beginOne_96 mo12_settle mv12_settle lkRX12_197 rfl hZ_b0 (q := (RX12, TX12, 34)) rfl rfl rfl (Nat.le_of_ble_eq_true rfl) (by show _ + 1 ≤ d + _; omega) (Nat.le_refl _) (Nat.le_refl _) (pRt_mono ?_)
  refine k12_settle (d + 4) hW hZ_b0 hr7 ?_
  intro _
  show Ok g _ Qx 99 [(0, .ref b0)] [] (Z, r6, r3.2, O)
  refine ok_iconst (v := 0) dX12_beginOne_99 (by decide) ?_
  cases h
  exact ok_iret dX12_beginOne_100 hQ
def f12_beginOne_c65 (n : Nat) (O : (Nat → Nat → Option Nat)) (I : (Nat → Nat → Int32)) (L : (Nat → Nat → Int64)) (b0 : Nat) (y1 : Int32) (t0 : Int32) (t1 : Nat) : Option (Int32 × (Nat → Nat → Int32) × (Nat → Nat → Int64)) := (if (I b0 9) = (1 : Int32) then f12_beginOne_c81 n O I L b0 (I b0 10) t0 t1 else f12_beginOne_c81 n O I L b0 y1 t0 t1)
set_option maxHeartbeats 4000000 in
set_option maxRecDepth 20000 in
theorem o12_beginOne_c65 {g : pG} {Qx : Option Value → pW → Prop} {Z : pZ} {O : (Nat → Nat → Option Nat)} {n : Nat} {res : Int32 × (Nat → Nat → Int32) × (Nat → Nat → Int64)} (d : Nat) (hW : WT Z O) (hQ : Qx (some (.int res.1)) (Z, res.2.1, res.2.2, O)) (I : (Nat → Nat → Int32)) (L : (Nat → Nat → Int64)) (b0 : Nat) (y1 : Int32) (t0 : Int32) (t1 : Nat) (hZ_b0 : Z[b0]? = some (12, 34)) (hZ_t1 : Z[t1]? = some (12, 34)) (h : f12_beginOne_c65 n O I L b0 y1 t0 t1 = some res) : Ok g (d + 8, RX12, cX12_beginOne, 2, false, 0, 0, Z.length, pSl Z) Qx 65 [(0, .ref b0), (1, .int y1)] [.int t0, .ref t1] (Z, I, L, O) := by
  unfold f12_beginOne_c65 at h
  refine ok_aload_n dX12_beginOne_65 0 rfl ?_
  refine ok_getI (ci := 12) (k := 9) dX12_beginOne_66 flRX12_114 rfl hZ_b0 (by decide) ?_
  refine ok_iconst (v := 1) dX12_beginOne_69 (by decide) ?_
  refine ok_icmp_ne (t := 80) dX12_beginOne_70 (by decide) (fun hc1 => ?_) (fun hc1 => ?_)
  · have h := (if_neg hc1).symm.trans h
    refine ok_iload_n dX12_beginOne_80 1 rfl ?_
    refine ok_sub [0] rfl ?_
    exact o12_beginOne_c81 d hW hQ  I L b0 y1 t0 t1 hZ_b0 hZ_t1 h
  · have h := (if_pos hc1).symm.trans h
    refine ok_aload_n dX12_beginOne_73 0 rfl ?_
    refine ok_getI (ci := 12) (k := 10) dX12_beginOne_74 flRX12_120 rfl hZ_b0 (by decide) ?_
    refine ok_goto (t := 81) dX12_beginOne_77 (by decide) ?_
    refine ok_sub [0] rfl ?_
    exact o12_beginOne_c81 d hW hQ  I L b0 (I b0 10) t0 t1 hZ_b0 hZ_t1 h
def f12_beginOne_c51 (n : Nat) (O : (Nat → Nat → Option Nat)) (I : (Nat → Nat → Int32)) (L : (Nat → Nat → Int64)) (b0 : Nat) (y1 : Int32) : Option (Int32 × (Nat → Nat → Int32) × (Nat → Nat → Int64)) := (if (I b0 9) = (1 : Int32) then f12_beginOne_c65 n O I L b0 y1 (0 : Int32) b0 else f12_beginOne_c65 n O I L b0 y1 (1 : Int32) b0)
set_option maxHeartbeats 4000000 in
set_option maxRecDepth 20000 in
theorem o12_beginOne_c51 {g : pG} {Qx : Option Value → pW → Prop} {Z : pZ} {O : (Nat → Nat → Option Nat)} {n : Nat} {res : Int32 × (Nat → Nat → Int32) × (Nat → Nat → Int64)} (d : Nat) (hW : WT Z O) (hQ : Qx (some (.int res.1)) (Z, res.2.1, res.2.2, O)) (I : (Nat → Nat → Int32)) (L : (Nat → Nat → Int64)) (b0 : Nat) (y1 : Int32) (hZ_b0 : Z[b0]? = some (12, 34)) (h : f12_beginOne_c51 n O I L b0 y1 = some res) : Ok g (d + 8, RX12, cX12_beginOne, 2, false, 0, 0, Z.length, pSl Z) Qx 51 [(0, .ref b0), (1, .int y1)] [] (Z, I, L, O) := by
  unfold f12_beginOne_c51 at h
  refine ok_aload_n dX12_beginOne_51 0 rfl ?_
  refine ok_aload_n dX12_beginOne_52 0 rfl ?_
  refine ok_getI (ci := 12) (k := 9) dX12_beginOne_53 flRX12_114 rfl hZ_b0 (by decide) ?_
  refine ok_iconst (v := 1) dX12_beginOne_56 (by decide) ?_
  refine ok_icmp_ne (t := 64) dX12_beginOne_57 (by decide) (fun hc1 => ?_) (fun hc1 => ?_)
  · have h := (if_neg hc1).symm.trans h
    refine ok_iconst (v := 1) dX12_beginOne_64 (by decide) ?_
    refine ok_sub [0, 1] rfl ?_
    exact o12_beginOne_c65 d hW hQ  I L b0 y1 (1 : Int32) b0 hZ_b0 hZ_b0 h
  · have h := (if_pos hc1).symm.trans h
    refine ok_iconst (v := 0) dX12_beginOne_60 (by decide) ?_
    refine ok_goto (t := 65) dX12_beginOne_61 (by decide) ?_
    refine ok_sub [0, 1] rfl ?_
    exact o12_beginOne_c65 d hW hQ  I L b0 y1 (0 : Int32) b0 hZ_b0 hZ_b0 h
def f12_beginOne_c39 (n : Nat) (O : (Nat → Nat → Option Nat)) (I : (Nat → Nat → Int32)) (L : (Nat → Nat → Int64)) (b0 : Nat) (y1 : Int32) : Option (Int32 × (Nat → Nat → Int32) × (Nat → Nat → Int64)) := (if (I b0 9) = (1 : Int32) then f12_beginOne_c51 n O I L b0 y1 else (if y1 < 0 then (if (I b0 9) = (40 : Int32) then (f12_opened n I L O b0 (40 : Int32)).bind fun r38 => some (r38.1, r38.2.1, r38.2.2) else (if (I b0 9) = (45 : Int32) then (f12_opened n I L O b0 (5 : Int32)).bind fun r36 => some (r36.1, r36.2.1, r36.2.2) else (f12_w6 (100 : Int32) (105 : Int32) (103 : Int32) (105 : Int32) (116 : Int32) (115 : Int32)).bind fun r5 => (f12_isWord I L b0 r5).bind fun r7 => (if r7 = 0 then (f12_w5 (104 : Int32) (111 : Int32) (108 : Int32) (101 : Int32) (115 : Int32)).bind fun r10 => (f12_isWord I L b0 r10).bind fun r12 => (if r12 = 0 then (f12_w2 (105 : Int32) (102 : Int32)).bind fun r15 => (f12_isWord I L b0 r15).bind fun r17 => (if r17 = 0 then (f12_w3 (110 : Int32) (111 : Int32) (116 : Int32)).bind fun r20 => (f12_isWord I L b0 r20).bind fun r22 => (if r22 = 0 then some ((1 : Int32), I, L) else (f12_isAskAhead n I O b0).bind fun r25 => (if r25 = 0 then some ((1 : Int32), I, L) else (f12_opened n I L O b0 (20 : Int32)).bind fun r28 => some (r28.1, r28.2.1, r28.2.2))) else (f12_opened n I L O b0 (41 : Int32)).bind fun r30 => some (r30.1, r30.2.1, r30.2.2)) else (f12_opened n I L O b0 (2 : Int32)).bind fun r32 => some (r32.1, r32.2.1, r32.2.2)) else (f12_opened n I L O b0 (4 : Int32)).bind fun r34 => some (r34.1, r34.2.1, r34.2.2)))) else f12_beginOne_c51 n O I L b0 y1))
set_option maxHeartbeats 4000000 in
set_option maxRecDepth 20000 in
theorem o12_beginOne_c39 {g : pG} {Qx : Option Value → pW → Prop} {Z : pZ} {O : (Nat → Nat → Option Nat)} {n : Nat} {res : Int32 × (Nat → Nat → Int32) × (Nat → Nat → Int64)} (d : Nat) (hW : WT Z O) (hQ : Qx (some (.int res.1)) (Z, res.2.1, res.2.2, O)) (I : (Nat → Nat → Int32)) (L : (Nat → Nat → Int64)) (b0 : Nat) (y1 : Int32) (hZ_b0 : Z[b0]? = some (12, 34)) (h : f12_beginOne_c39 n O I L b0 y1 = some res) : Ok g (d + 8, RX12, cX12_beginOne, 2, false, 0, 0, Z.length, pSl Z) Qx 39 [(0, .ref b0), (1, .int y1)] [] (Z, I, L, O) := by
  unfold f12_beginOne_c39 at h
  refine ok_aload_n dX12_beginOne_39 0 rfl ?_
  refine ok_getI (ci := 12) (k := 9) dX12_beginOne_40 flRX12_114 rfl hZ_b0 (by decide) ?_
  refine ok_iconst (v := 1) dX12_beginOne_43 (by decide) ?_
  refine ok_icmp_eq (t := 51) dX12_beginOne_44 (by decide) (fun hc1 => ?_) (fun hc1 => ?_)
  · have h := (if_pos hc1).symm.trans h
    refine ok_sub [0, 1] rfl ?_
    exact o12_beginOne_c51 d hW hQ  I L b0 y1 hZ_b0 h
  · have h := (if_neg hc1).symm.trans h
    refine ok_iload_n dX12_beginOne_47 1 rfl ?_
    refine ok_if_lt (t := 101) dX12_beginOne_48 (by decide) (fun hc2 => ?_) (fun hc2 => ?_)
    · have h := (if_pos hc2).symm.trans h
      refine ok_aload_n dX12_beginOne_101 0 rfl ?_
      refine ok_getI (ci := 12) (k := 9) dX12_beginOne_102 flRX12_114 rfl hZ_b0 (by decide) ?_
      refine ok_bipush (v := 40) dX12_beginOne_105 (by decide) ?_
      refine ok_icmp_ne (t := 117) dX12_beginOne_107 (by decide) (fun hc3 => ?_) (fun hc3 => ?_)
      · have h := (if_neg hc3).symm.trans h
        refine ok_aload_n dX12_beginOne_117 0 rfl ?_
        refine ok_getI (ci := 12) (k := 9) dX12_beginOne_118 flRX12_114 rfl hZ_b0 (by decide) ?_
        refine ok_bipush (v := 45) dX12_beginOne_121 (by decide) ?_
        refine ok_icmp_ne (t := 132) dX12_beginOne_123 (by decide) (fun hc4 => ?_) (fun hc4 => ?_)
        · have h := (if_neg hc4).symm.trans h
          refine ok_aload_n dX12_beginOne_132 0 rfl ?_
          refine ok_bipush (v := 100) dX12_beginOne_133 (by decide) ?_
          refine ok_bipush (v := 105) dX12_beginOne_135 (by decide) ?_
          refine ok_bipush (v := 103) dX12_beginOne_137 (by decide) ?_
          refine ok_bipush (v := 105) dX12_beginOne_139 (by decide) ?_
          refine ok_bipush (v := 116) dX12_beginOne_141 (by decide) ?_
          refine ok_bipush (v := 115) dX12_beginOne_143 (by decide) ?_
          obtain ⟨r5, hr6, h⟩ := bd h
          refine ok_callS (d := ((d + 1) + 6)) (mt := m12_w6) (mc := 0) (ms := 0) (As := [.int 100, .int 105, .int 103, .int 105, .int 116, .int 115]) (r := [.ref b0]) dX12_beginOne_145 mo12_w6 mv12_w6 lkRX12_158 rfl rfl (Nat.le_of_ble_eq_true rfl) (by show _ + 1 ≤ d + _; omega) (Nat.le_refl _) (Nat.le_refl _) (pRt_mono ?_)
          refine k12_w6 (d + 1) hW  hr6 ?_
          intro _
          show Ok g _ Qx 148 [(0, .ref b0), (1, .int y1)] [.long r5, .ref b0] (Z, I, L, O)
          obtain ⟨r7, hr8, h⟩ := bd h
          refine ok_callV (d := ((d + 5) + 2)) (mt := m12_isWord) (mc := 0) (ms := 0) (As := [.long r5]) (r := []) dX12_beginOne_148 mo12_isWord mv12_isWord lkRX12_203 rfl hZ_b0 (q := (RX12, TX12, 34)) rfl rfl rfl (Nat.le_of_ble_eq_true rfl) (by show _ + 1 ≤ d + _; omega) (Nat.le_refl _) (Nat.le_refl _) (pRt_mono ?_)
          refine k12_isWord (d + 5) hW hZ_b0 hr8 ?_
          intro hbr7
          show Ok g _ Qx 151 [(0, .ref b0), (1, .int y1)] [.int r7] (Z, I, L, O)
          refine ok_if_eq (t := 160) dX12_beginOne_151 (by decide) (fun hc9 => ?_) (fun hc9 => ?_)
          · have h := (if_pos hc9).symm.trans h
            refine ok_aload_n dX12_beginOne_160 0 rfl ?_
            refine ok_bipush (v := 104) dX12_beginOne_161 (by decide) ?_
            refine ok_bipush (v := 111) dX12_beginOne_163 (by decide) ?_
            refine ok_bipush (v := 108) dX12_beginOne_165 (by decide) ?_
            refine ok_bipush (v := 101) dX12_beginOne_167 (by decide) ?_
            refine ok_bipush (v := 115) dX12_beginOne_169 (by decide) ?_
            obtain ⟨r10, hr11, h⟩ := bd h
            refine ok_callS (d := ((d + 2) + 5)) (mt := m12_w5) (mc := 0) (ms := 0) (As := [.int 104, .int 111, .int 108, .int 101, .int 115]) (r := [.ref b0]) dX12_beginOne_171 mo12_w5 mv12_w5 lkRX12_148 rfl rfl (Nat.le_of_ble_eq_true rfl) (by show _ + 1 ≤ d + _; omega) (Nat.le_refl _) (Nat.le_refl _) (pRt_mono ?_)
            refine k12_w5 (d + 2) hW  hr11 ?_
            intro _
            show Ok g _ Qx 174 [(0, .ref b0), (1, .int y1)] [.long r10, .ref b0] (Z, I, L, O)
            obtain ⟨r12, hr13, h⟩ := bd h
            refine ok_callV (d := ((d + 5) + 2)) (mt := m12_isWord) (mc := 0) (ms := 0) (As := [.long r10]) (r := []) dX12_beginOne_174 mo12_isWord mv12_isWord lkRX12_203 rfl hZ_b0 (q := (RX12, TX12, 34)) rfl rfl rfl (Nat.le_of_ble_eq_true rfl) (by show _ + 1 ≤ d + _; omega) (Nat.le_refl _) (Nat.le_refl _) (pRt_mono ?_)
            refine k12_isWord (d + 5) hW hZ_b0 hr13 ?_
            intro hbr12
            show Ok g _ Qx 177 [(0, .ref b0), (1, .int y1)] [.int r12] (Z, I, L, O)
            refine ok_if_eq (t := 186) dX12_beginOne_177 (by decide) (fun hc14 => ?_) (fun hc14 => ?_)
            · have h := (if_pos hc14).symm.trans h
              refine ok_aload_n dX12_beginOne_186 0 rfl ?_
              refine ok_bipush (v := 105) dX12_beginOne_187 (by decide) ?_
              refine ok_bipush (v := 102) dX12_beginOne_189 (by decide) ?_
              obtain ⟨r15, hr16, h⟩ := bd h
              refine ok_callS (d := ((d + 5) + 2)) (mt := m12_w2) (mc := 0) (ms := 0) (As := [.int 105, .int 102]) (r := [.ref b0]) dX12_beginOne_191 mo12_w2 mv12_w2 lkRX12_136 rfl rfl (Nat.le_of_ble_eq_true rfl) (by show _ + 1 ≤ d + _; omega) (Nat.le_refl _) (Nat.le_refl _) (pRt_mono ?_)
              refine k12_w2 (d + 5) hW  hr16 ?_
              intro _
              show Ok g _ Qx 194 [(0, .ref b0), (1, .int y1)] [.long r15, .ref b0] (Z, I, L, O)
              obtain ⟨r17, hr18, h⟩ := bd h
              refine ok_callV (d := ((d + 5) + 2)) (mt := m12_isWord) (mc := 0) (ms := 0) (As := [.long r15]) (r := []) dX12_beginOne_194 mo12_isWord mv12_isWord lkRX12_203 rfl hZ_b0 (q := (RX12, TX12, 34)) rfl rfl rfl (Nat.le_of_ble_eq_true rfl) (by show _ + 1 ≤ d + _; omega) (Nat.le_refl _) (Nat.le_refl _) (pRt_mono ?_)
              refine k12_isWord (d + 5) hW hZ_b0 hr18 ?_
              intro hbr17
              show Ok g _ Qx 197 [(0, .ref b0), (1, .int y1)] [.int r17] (Z, I, L, O)
              refine ok_if_eq (t := 207) dX12_beginOne_197 (by decide) (fun hc19 => ?_) (fun hc19 => ?_)
              · have h := (if_pos hc19).symm.trans h
                refine ok_aload_n dX12_beginOne_207 0 rfl ?_
                refine ok_bipush (v := 110) dX12_beginOne_208 (by decide) ?_
                refine ok_bipush (v := 111) dX12_beginOne_210 (by decide) ?_
                refine ok_bipush (v := 116) dX12_beginOne_212 (by decide) ?_
                obtain ⟨r20, hr21, h⟩ := bd h
                refine ok_callS (d := ((d + 4) + 3)) (mt := m12_w3) (mc := 0) (ms := 0) (As := [.int 110, .int 111, .int 116]) (r := [.ref b0]) dX12_beginOne_214 mo12_w3 mv12_w3 lkRX12_140 rfl rfl (Nat.le_of_ble_eq_true rfl) (by show _ + 1 ≤ d + _; omega) (Nat.le_refl _) (Nat.le_refl _) (pRt_mono ?_)
                refine k12_w3 (d + 4) hW  hr21 ?_
                intro _
                show Ok g _ Qx 217 [(0, .ref b0), (1, .int y1)] [.long r20, .ref b0] (Z, I, L, O)
                obtain ⟨r22, hr23, h⟩ := bd h
                refine ok_callV (d := ((d + 5) + 2)) (mt := m12_isWord) (mc := 0) (ms := 0) (As := [.long r20]) (r := []) dX12_beginOne_217 mo12_isWord mv12_isWord lkRX12_203 rfl hZ_b0 (q := (RX12, TX12, 34)) rfl rfl rfl (Nat.le_of_ble_eq_true rfl) (by show _ + 1 ≤ d + _; omega) (Nat.le_refl _) (Nat.le_refl _) (pRt_mono ?_)
                refine k12_isWord (d + 5) hW hZ_b0 hr23 ?_
                intro hbr22
                show Ok g _ Qx 220 [(0, .ref b0), (1, .int y1)] [.int r22] (Z, I, L, O)
                refine ok_if_eq (t := 239) dX12_beginOne_220 (by decide) (fun hc24 => ?_) (fun hc24 => ?_)
                · have h := (if_pos hc24).symm.trans h
                  refine ok_iconst (v := 1) dX12_beginOne_239 (by decide) ?_
                  cases h
                  exact ok_iret dX12_beginOne_240 hQ
                · have h := (if_neg hc24).symm.trans h
                  refine ok_aload_n dX12_beginOne_223 0 rfl ?_
                  obtain ⟨r25, hr26, h⟩ := bd h
                  refine ok_callV (d := ((d + 3) + 4)) (mt := m12_isAskAhead) (mc := 0) (ms := 0) (As := []) (r := []) dX12_beginOne_224 mo12_isAskAhead mv12_isAskAhead lkRX12_207 rfl hZ_b0 (q := (RX12, TX12, 34)) rfl rfl rfl (Nat.le_of_ble_eq_true rfl) (by show _ + 1 ≤ d + _; omega) (Nat.le_refl _) (Nat.le_refl _) (pRt_mono ?_)
                  refine k12_isAskAhead (d + 3) hW hZ_b0 hr26 ?_
                  intro hbr25
                  show Ok g _ Qx 227 [(0, .ref b0), (1, .int y1)] [.int r25] (Z, I, L, O)
                  refine ok_if_eq (t := 239) dX12_beginOne_227 (by decide) (fun hc27 => ?_) (fun hc27 => ?_)
                  · have h := (if_pos hc27).symm.trans h
                    refine ok_iconst (v := 1) dX12_beginOne_239 (by decide) ?_
                    cases h
                    exact ok_iret dX12_beginOne_240 hQ
                  · have h := (if_neg hc27).symm.trans h
                    refine ok_aload_n dX12_beginOne_230 0 rfl ?_
                    refine ok_bipush (v := 20) dX12_beginOne_231 (by decide) ?_
                    obtain ⟨r28, hr29, h⟩ := bd h
                    refine ok_callV (d := ((d + 3) + 4)) (mt := m12_opened) (mc := 0) (ms := 0) (As := [.int 20]) (r := []) dX12_beginOne_233 mo12_opened mv12_opened lkRX12_200 rfl hZ_b0 (q := (RX12, TX12, 34)) rfl rfl rfl (Nat.le_of_ble_eq_true rfl) (by show _ + 1 ≤ d + _; omega) (Nat.le_refl _) (Nat.le_refl _) (pRt_mono ?_)
                    refine k12_opened (d + 3) hW hZ_b0 hr29 ?_
                    intro _
                    show Ok g _ Qx 236 [(0, .ref b0), (1, .int y1)] [.int r28.1] (Z, r28.2.1, r28.2.2, O)
                    refine ok_goto (t := 240) dX12_beginOne_236 (by decide) ?_
                    cases h
                    exact ok_iret dX12_beginOne_240 hQ
              · have h := (if_neg hc19).symm.trans h
                refine ok_aload_n dX12_beginOne_200 0 rfl ?_
                refine ok_bipush (v := 41) dX12_beginOne_201 (by decide) ?_
                obtain ⟨r30, hr31, h⟩ := bd h
                refine ok_callV (d := ((d + 3) + 4)) (mt := m12_opened) (mc := 0) (ms := 0) (As := [.int 41]) (r := []) dX12_beginOne_203 mo12_opened mv12_opened lkRX12_200 rfl hZ_b0 (q := (RX12, TX12, 34)) rfl rfl rfl (Nat.le_of_ble_eq_true rfl) (by show _ + 1 ≤ d + _; omega) (Nat.le_refl _) (Nat.le_refl _) (pRt_mono ?_)
                refine k12_opened (d + 3) hW hZ_b0 hr31 ?_
                intro _
                show Ok g _ Qx 206 [(0, .ref b0), (1, .int y1)] [.int r30.1] (Z, r30.2.1, r30.2.2, O)
                cases h
                exact ok_iret dX12_beginOne_206 hQ
            · have h := (if_neg hc14).symm.trans h
              refine ok_aload_n dX12_beginOne_180 0 rfl ?_
              refine ok_iconst (v := 2) dX12_beginOne_181 (by decide) ?_
              obtain ⟨r32, hr33, h⟩ := bd h
              refine ok_callV (d := ((d + 3) + 4)) (mt := m12_opened) (mc := 0) (ms := 0) (As := [.int 2]) (r := []) dX12_beginOne_182 mo12_opened mv12_opened lkRX12_200 rfl hZ_b0 (q := (RX12, TX12, 34)) rfl rfl rfl (Nat.le_of_ble_eq_true rfl) (by show _ + 1 ≤ d + _; omega) (Nat.le_refl _) (Nat.le_refl _) (pRt_mono ?_)
              refine k12_opened (d + 3) hW hZ_b0 hr33 ?_
              intro _
              show Ok g _ Qx 185 [(0, .ref b0), (1, .int y1)] [.int r32.1] (Z, r32.2.1, r32.2.2, O)
              cases h
              exact ok_iret dX12_beginOne_185 hQ
          · have h := (if_neg hc9).symm.trans h
            refine ok_aload_n dX12_beginOne_154 0 rfl ?_
            refine ok_iconst (v := 4) dX12_beginOne_155 (by decide) ?_
            obtain ⟨r34, hr35, h⟩ := bd h
            refine ok_callV (d := ((d + 3) + 4)) (mt := m12_opened) (mc := 0) (ms := 0) (As := [.int 4]) (r := []) dX12_beginOne_156 mo12_opened mv12_opened lkRX12_200 rfl hZ_b0 (q := (RX12, TX12, 34)) rfl rfl rfl (Nat.le_of_ble_eq_true rfl) (by show _ + 1 ≤ d + _; omega) (Nat.le_refl _) (Nat.le_refl _) (pRt_mono ?_)
            refine k12_opened (d + 3) hW hZ_b0 hr35 ?_
            intro _
            show Ok g _ Qx 159 [(0, .ref b0), (1, .int y1)] [.int r34.1] (Z, r34.2.1, r34.2.2, O)
            cases h
            exact ok_iret dX12_beginOne_159 hQ
        · have h := (if_pos hc4).symm.trans h
          refine ok_aload_n dX12_beginOne_126 0 rfl ?_
          refine ok_iconst (v := 5) dX12_beginOne_127 (by decide) ?_
          obtain ⟨r36, hr37, h⟩ := bd h
          refine ok_callV (d := ((d + 3) + 4)) (mt := m12_opened) (mc := 0) (ms := 0) (As := [.int 5]) (r := []) dX12_beginOne_128 mo12_opened mv12_opened lkRX12_200 rfl hZ_b0 (q := (RX12, TX12, 34)) rfl rfl rfl (Nat.le_of_ble_eq_true rfl) (by show _ + 1 ≤ d + _; omega) (Nat.le_refl _) (Nat.le_refl _) (pRt_mono ?_)
          refine k12_opened (d + 3) hW hZ_b0 hr37 ?_
          intro _
          show Ok g _ Qx 131 [(0, .ref b0), (1, .int y1)] [.int r36.1] (Z, r36.2.1, r36.2.2, O)
          cases h
          exact ok_iret dX12_beginOne_131 hQ
      · have h := (if_pos hc3).symm.trans h
        refine ok_aload_n dX12_beginOne_110 0 rfl ?_
        refine ok_bipush (v := 40) dX12_beginOne_111 (by decide) ?_
        obtain ⟨r38, hr39, h⟩ := bd h
        refine ok_callV (d := ((d + 3) + 4)) (mt := m12_opened) (mc := 0) (ms := 0) (As := [.int 40]) (r := []) dX12_beginOne_113 mo12_opened mv12_opened lkRX12_200 rfl hZ_b0 (q := (RX12, TX12, 34)) rfl rfl rfl (Nat.le_of_ble_eq_true rfl) (by show _ + 1 ≤ d + _; omega) (Nat.le_refl _) (Nat.le_refl _) (pRt_mono ?_)
        refine k12_opened (d + 3) hW hZ_b0 hr39 ?_
        intro _
        show Ok g _ Qx 116 [(0, .ref b0), (1, .int y1)] [.int r38.1] (Z, r38.2.1, r38.2.2, O)
        cases h
        exact ok_iret dX12_beginOne_116 hQ
    · have h := (if_neg hc2).symm.trans h
      refine ok_sub [0, 1] rfl ?_
      exact o12_beginOne_c51 d hW hQ  I L b0 y1 hZ_b0 h
def f12_beginOne_c20 (n : Nat) (O : (Nat → Nat → Option Nat)) (I : (Nat → Nat → Int32)) (L : (Nat → Nat → Int64)) (b0 : Nat) : Option (Int32 × (Nat → Nat → Int32) × (Nat → Nat → Int64)) := (f12_nameOf I L b0).bind fun r1 => (if r1 < 0 then f12_beginOne_c39 n O I L b0 r1 else (f12_isOf I b0 r1).bind fun r4 => (if r4 = 0 then some ((5 : Int32), I, L) else f12_beginOne_c39 n O I L b0 r1))
set_option maxHeartbeats 4000000 in
set_option maxRecDepth 20000 in
theorem o12_beginOne_c20 {g : pG} {Qx : Option Value → pW → Prop} {Z : pZ} {O : (Nat → Nat → Option Nat)} {n : Nat} {res : Int32 × (Nat → Nat → Int32) × (Nat → Nat → Int64)} (d : Nat) (hW : WT Z O) (hQ : Qx (some (.int res.1)) (Z, res.2.1, res.2.2, O)) (I : (Nat → Nat → Int32)) (L : (Nat → Nat → Int64)) (b0 : Nat) (hZ_b0 : Z[b0]? = some (12, 34)) (h : f12_beginOne_c20 n O I L b0 = some res) : Ok g (d + 8, RX12, cX12_beginOne, 2, false, 0, 0, Z.length, pSl Z) Qx 20 [(0, .ref b0)] [] (Z, I, L, O) := by
  unfold f12_beginOne_c20 at h
  refine ok_aload_n dX12_beginOne_20 0 rfl ?_
  obtain ⟨r1, hr2, h⟩ := bd h
  refine ok_callV (d := ((d + 0) + 7)) (mt := m12_nameOf) (mc := 0) (ms := 0) (As := []) (r := []) dX12_beginOne_21 mo12_nameOf mv12_nameOf lkRX12_188 rfl hZ_b0 (q := (RX12, TX12, 34)) rfl rfl rfl (Nat.le_of_ble_eq_true rfl) (by show _ + 1 ≤ d + _; omega) (Nat.le_refl _) (Nat.le_refl _) (pRt_mono ?_)
  refine k12_nameOf (d + 0) hW hZ_b0 hr2 ?_
  intro _
  show Ok g _ Qx 24 [(0, .ref b0)] [.int r1] (Z, I, L, O)
  refine ok_istore_n (l' := [(1, .int r1), (0, .ref b0)]) dX12_beginOne_24 rfl (Nat.le_of_ble_eq_true rfl) rfl ?_
  refine ok_iload_n dX12_beginOne_25 0 rfl ?_
  refine ok_if_lt (t := 39) dX12_beginOne_26 (by decide) (fun hc3 => ?_) (fun hc3 => ?_)
  · have h := (if_pos hc3).symm.trans h
    refine ok_sub [1, 0] rfl ?_
    exact o12_beginOne_c39 d hW hQ  I L b0 r1 hZ_b0 h
  · have h := (if_neg hc3).symm.trans h
    refine ok_aload_n dX12_beginOne_29 1 rfl ?_
    refine ok_iload_n dX12_beginOne_30 0 rfl ?_
    obtain ⟨r4, hr5, h⟩ := bd h
    refine ok_callV (d := ((d + 5) + 2)) (mt := m12_isOf) (mc := 0) (ms := 0) (As := [.int r1]) (r := []) dX12_beginOne_31 mo12_isOf mv12_isOf lkRX12_191 rfl hZ_b0 (q := (RX12, TX12, 34)) rfl rfl rfl (Nat.le_of_ble_eq_true rfl) (by show _ + 1 ≤ d + _; omega) (Nat.le_refl _) (Nat.le_refl _) (pRt_mono ?_)
    refine k12_isOf (d + 5) hW hZ_b0 hr5 ?_
    intro hbr4
    show Ok g _ Qx 34 [(1, .int r1), (0, .ref b0)] [.int r4] (Z, I, L, O)
    refine ok_if_ne (t := 39) dX12_beginOne_34 (by decide) (fun hc6 => ?_) (fun hc6 => ?_)
    · have h := (if_neg hc6).symm.trans h
      refine ok_sub [1, 0] rfl ?_
      exact o12_beginOne_c39 d hW hQ  I L b0 r1 hZ_b0 h
    · have h := (if_pos hc6).symm.trans h
      refine ok_iconst (v := 5) dX12_beginOne_37 (by decide) ?_
      cases h
      exact ok_iret dX12_beginOne_38 hQ
def f12_beginOne (n : Nat) (I : (Nat → Nat → Int32)) (L : (Nat → Nat → Int64)) (O : (Nat → Nat → Option Nat)) (a0 : Nat) : Option (Int32 × (Nat → Nat → Int32) × (Nat → Nat → Int64)) := (if (I a0 9) = (1 : Int32) then (if (I a0 10) ≤ (9999 : Int32) then f12_beginOne_c20 n O I L a0 else some ((2 : Int32), I, L)) else f12_beginOne_c20 n O I L a0)
set_option maxHeartbeats 4000000 in
set_option maxRecDepth 20000 in
theorem o12_beginOne {g : pG} {Qx : Option Value → pW → Prop} {Z : pZ} {I : (Nat → Nat → Int32)} {L : (Nat → Nat → Int64)} {O : (Nat → Nat → Option Nat)} {n : Nat} {a0 : Nat} {res : Int32 × (Nat → Nat → Int32) × (Nat → Nat → Int64)} (d : Nat) (hW : WT Z O) (hZ0 : Z[a0]? = some (12, 34)) (h : f12_beginOne n I L O a0 = some res) (hQ : Qx (some (.int res.1)) (Z, res.2.1, res.2.2, O)) : Ok g (d + 8, RX12, cX12_beginOne, 2, false, 0, 0, Z.length, pSl Z) Qx 0 [(0, .ref a0)] [] (Z, I, L, O) := by
  unfold f12_beginOne at h
  refine ok_aload_n dX12_beginOne_0 0 rfl ?_
  refine ok_getI (ci := 12) (k := 9) dX12_beginOne_1 flRX12_114 rfl hZ0 (by decide) ?_
  refine ok_iconst (v := 1) dX12_beginOne_4 (by decide) ?_
  refine ok_icmp_ne (t := 20) dX12_beginOne_5 (by decide) (fun hc1 => ?_) (fun hc1 => ?_)
  · have h := (if_neg hc1).symm.trans h
    refine ok_sub [0] rfl ?_
    exact o12_beginOne_c20 d hW hQ  I L a0 hZ0 h
  · have h := (if_pos hc1).symm.trans h
    refine ok_aload_n dX12_beginOne_8 0 rfl ?_
    refine ok_getI (ci := 12) (k := 10) dX12_beginOne_9 flRX12_120 rfl hZ0 (by decide) ?_
    refine ok_sipush (v := 9999) dX12_beginOne_12 (by decide) ?_
    refine ok_icmp_le (t := 20) dX12_beginOne_15 (by decide) (fun hc2 => ?_) (fun hc2 => ?_)
    · have h := (if_pos hc2).symm.trans h
      refine ok_sub [0] rfl ?_
      exact o12_beginOne_c20 d hW hQ  I L a0 hZ0 h
    · have h := (if_neg hc2).symm.trans h
      refine ok_iconst (v := 2) dX12_beginOne_18 (by decide) ?_
      cases h
      exact ok_iret dX12_beginOne_19 hQ
theorem k12_beginOne {g : pG} {Q : Option Value → pW → Prop} {Z : pZ} {I : (Nat → Nat → Int32)} {L : (Nat → Nat → Int64)} {O : (Nat → Nat → Option Nat)} {n : Nat} {a0 : Nat} {res : Int32 × (Nat → Nat → Int32) × (Nat → Nat → Int64)} (d : Nat) (hW : WT Z O) (hZ0 : Z[a0]? = some (12, 34)) (h : f12_beginOne n I L O a0 = some res) (hQ : Q (some (.int res.1)) (Z, res.2.1, res.2.2, O)) : CT g (d + 8) m12_beginOne 0 0 [.ref a0] (Z, I, L, O) Q :=
  ct_of_ok (mt := m12_beginOne) (ini := false) mo12_beginOne.2.2.2.2 (fun h => by cases h) (Nat.le_of_ble_eq_true rfl) (o12_beginOne d hW hZ0 h ⟨trivial, hQ, rfl, rfl⟩)
theorem dX12_compareOf_0 : decode cX12_compareOf 0 = .ok (.aload_n 0, 1) := by decide +kernel
theorem dX12_compareOf_1 : decode cX12_compareOf 1 = .ok (.getfield 114, 3) := by decide +kernel
theorem dX12_compareOf_4 : decode cX12_compareOf 4 = .ok (.bipush 60, 2) := by decide +kernel
theorem dX12_compareOf_6 : decode cX12_compareOf 6 = .ok (.if_icmp .ne 8, 3) := by decide +kernel
theorem dX12_compareOf_9 : decode cX12_compareOf 9 = .ok (.bipush 10, 2) := by decide +kernel
theorem dX12_compareOf_11 : decode cX12_compareOf 11 = .ok (.goto 72, 3) := by decide +kernel
theorem dX12_compareOf_14 : decode cX12_compareOf 14 = .ok (.aload_n 0, 1) := by decide +kernel
theorem dX12_compareOf_15 : decode cX12_compareOf 15 = .ok (.getfield 114, 3) := by decide +kernel
theorem dX12_compareOf_18 : decode cX12_compareOf 18 = .ok (.iconst 4, 1) := by decide +kernel
theorem dX12_compareOf_19 : decode cX12_compareOf 19 = .ok (.if_icmp .ne 8, 3) := by decide +kernel
theorem dX12_compareOf_22 : decode cX12_compareOf 22 = .ok (.bipush 11, 2) := by decide +kernel
theorem dX12_compareOf_24 : decode cX12_compareOf 24 = .ok (.goto 59, 3) := by decide +kernel
theorem dX12_compareOf_27 : decode cX12_compareOf 27 = .ok (.aload_n 0, 1) := by decide +kernel
theorem dX12_compareOf_28 : decode cX12_compareOf 28 = .ok (.getfield 114, 3) := by decide +kernel
theorem dX12_compareOf_31 : decode cX12_compareOf 31 = .ok (.bipush 62, 2) := by decide +kernel
theorem dX12_compareOf_33 : decode cX12_compareOf 33 = .ok (.if_icmp .ne 8, 3) := by decide +kernel
theorem dX12_compareOf_36 : decode cX12_compareOf 36 = .ok (.bipush 12, 2) := by decide +kernel
theorem dX12_compareOf_38 : decode cX12_compareOf 38 = .ok (.goto 45, 3) := by decide +kernel
theorem dX12_compareOf_41 : decode cX12_compareOf 41 = .ok (.aload_n 0, 1) := by decide +kernel
theorem dX12_compareOf_42 : decode cX12_compareOf 42 = .ok (.getfield 114, 3) := by decide +kernel
theorem dX12_compareOf_45 : decode cX12_compareOf 45 = .ok (.iconst 5, 1) := by decide +kernel
theorem dX12_compareOf_46 : decode cX12_compareOf 46 = .ok (.if_icmp .ne 8, 3) := by decide +kernel
theorem dX12_compareOf_49 : decode cX12_compareOf 49 = .ok (.bipush 13, 2) := by decide +kernel
theorem dX12_compareOf_51 : decode cX12_compareOf 51 = .ok (.goto 32, 3) := by decide +kernel
theorem dX12_compareOf_54 : decode cX12_compareOf 54 = .ok (.aload_n 0, 1) := by decide +kernel
theorem dX12_compareOf_55 : decode cX12_compareOf 55 = .ok (.getfield 114, 3) := by decide +kernel
theorem dX12_compareOf_58 : decode cX12_compareOf 58 = .ok (.bipush 61, 2) := by decide +kernel
theorem dX12_compareOf_60 : decode cX12_compareOf 60 = .ok (.if_icmp .ne 8, 3) := by decide +kernel
theorem dX12_compareOf_63 : decode cX12_compareOf 63 = .ok (.bipush 14, 2) := by decide +kernel
theorem dX12_compareOf_65 : decode cX12_compareOf 65 = .ok (.goto 18, 3) := by decide +kernel
theorem dX12_compareOf_68 : decode cX12_compareOf 68 = .ok (.aload_n 0, 1) := by decide +kernel
theorem dX12_compareOf_69 : decode cX12_compareOf 69 = .ok (.getfield 114, 3) := by decide +kernel
theorem dX12_compareOf_72 : decode cX12_compareOf 72 = .ok (.bipush 35, 2) := by decide +kernel
theorem dX12_compareOf_74 : decode cX12_compareOf 74 = .ok (.if_icmp .ne 8, 3) := by decide +kernel
theorem dX12_compareOf_77 : decode cX12_compareOf 77 = .ok (.bipush 15, 2) := by decide +kernel
theorem dX12_compareOf_79 : decode cX12_compareOf 79 = .ok (.goto 4, 3) := by decide +kernel
theorem dX12_compareOf_82 : decode cX12_compareOf 82 = .ok (.iconst (-1), 1) := by decide +kernel
theorem dX12_compareOf_83 : decode cX12_compareOf 83 = .ok (.ireturn, 1) := by decide +kernel
def m12_compareOf : pMT := (yX12_compareOf, cX12_compareOf, 1, some .int)
theorem mo12_compareOf : mOK m12_compareOf 0 := ⟨tb_i 1555 (by decide +kernel), wi_RX12, ⟨wn_RX12.1, wn_RX12.2, by decide +kernel⟩, by decide, plainFor_of_name wp_RX12⟩
theorem mv12_compareOf : mV m12_compareOf := ⟨tb_i 1554 (by decide +kernel), tb_p 78 (by decide +kernel)⟩
def f12_compareOf (I : (Nat → Nat → Int32)) (a0 : Nat) : Option (Int32) := (if (I a0 9) = (60 : Int32) then some ((10 : Int32)) else (if (I a0 9) = (4 : Int32) then some ((11 : Int32)) else (if (I a0 9) = (62 : Int32) then some ((12 : Int32)) else (if (I a0 9) = (5 : Int32) then some ((13 : Int32)) else (if (I a0 9) = (61 : Int32) then some ((14 : Int32)) else (if (I a0 9) = (35 : Int32) then some ((15 : Int32)) else some (((-1) : Int32))))))))
set_option maxHeartbeats 4000000 in
set_option maxRecDepth 20000 in
theorem o12_compareOf {g : pG} {Qx : Option Value → pW → Prop} {Z : pZ} {I : (Nat → Nat → Int32)} {L : (Nat → Nat → Int64)} {O : (Nat → Nat → Option Nat)} {a0 : Nat} {res : Int32} (d : Nat) (hW : WT Z O) (hZ0 : Z[a0]? = some (12, 34)) (h : f12_compareOf I a0 = some res) (hQ : Qx (some (.int res)) (Z, I, L, O)) : Ok g (d + 2, RX12, cX12_compareOf, 1, false, 0, 0, Z.length, pSl Z) Qx 0 [(0, .ref a0)] [] (Z, I, L, O) := by
  unfold f12_compareOf at h
  refine ok_aload_n dX12_compareOf_0 0 rfl ?_
  refine ok_getI (ci := 12) (k := 9) dX12_compareOf_1 flRX12_114 rfl hZ0 (by decide) ?_
  refine ok_bipush (v := 60) dX12_compareOf_4 (by decide) ?_
  refine ok_icmp_ne (t := 14) dX12_compareOf_6 (by decide) (fun hc1 => ?_) (fun hc1 => ?_)
  · have h := (if_neg hc1).symm.trans h
    refine ok_aload_n dX12_compareOf_14 0 rfl ?_
    refine ok_getI (ci := 12) (k := 9) dX12_compareOf_15 flRX12_114 rfl hZ0 (by decide) ?_
    refine ok_iconst (v := 4) dX12_compareOf_18 (by decide) ?_
    refine ok_icmp_ne (t := 27) dX12_compareOf_19 (by decide) (fun hc2 => ?_) (fun hc2 => ?_)
    · have h := (if_neg hc2).symm.trans h
      refine ok_aload_n dX12_compareOf_27 0 rfl ?_
      refine ok_getI (ci := 12) (k := 9) dX12_compareOf_28 flRX12_114 rfl hZ0 (by decide) ?_
      refine ok_bipush (v := 62) dX12_compareOf_31 (by decide) ?_
      refine ok_icmp_ne (t := 41) dX12_compareOf_33 (by decide) (fun hc3 => ?_) (fun hc3 => ?_)
      · have h := (if_neg hc3).symm.trans h
        refine ok_aload_n dX12_compareOf_41 0 rfl ?_
        refine ok_getI (ci := 12) (k := 9) dX12_compareOf_42 flRX12_114 rfl hZ0 (by decide) ?_
        refine ok_iconst (v := 5) dX12_compareOf_45 (by decide) ?_
        refine ok_icmp_ne (t := 54) dX12_compareOf_46 (by decide) (fun hc4 => ?_) (fun hc4 => ?_)
        · have h := (if_neg hc4).symm.trans h
          refine ok_aload_n dX12_compareOf_54 0 rfl ?_
          refine ok_getI (ci := 12) (k := 9) dX12_compareOf_55 flRX12_114 rfl hZ0 (by decide) ?_
          refine ok_bipush (v := 61) dX12_compareOf_58 (by decide) ?_
          refine ok_icmp_ne (t := 68) dX12_compareOf_60 (by decide) (fun hc5 => ?_) (fun hc5 => ?_)
          · have h := (if_neg hc5).symm.trans h
            refine ok_aload_n dX12_compareOf_68 0 rfl ?_
            refine ok_getI (ci := 12) (k := 9) dX12_compareOf_69 flRX12_114 rfl hZ0 (by decide) ?_
            refine ok_bipush (v := 35) dX12_compareOf_72 (by decide) ?_
            refine ok_icmp_ne (t := 82) dX12_compareOf_74 (by decide) (fun hc6 => ?_) (fun hc6 => ?_)
            · have h := (if_neg hc6).symm.trans h
              refine ok_iconst (v := (-1)) dX12_compareOf_82 (by decide) ?_
              cases h
              exact ok_iret dX12_compareOf_83 hQ
            · have h := (if_pos hc6).symm.trans h
              refine ok_bipush (v := 15) dX12_compareOf_77 (by decide) ?_
              refine ok_goto (t := 83) dX12_compareOf_79 (by decide) ?_
              cases h
              exact ok_iret dX12_compareOf_83 hQ
          · have h := (if_pos hc5).symm.trans h
            refine ok_bipush (v := 14) dX12_compareOf_63 (by decide) ?_
            refine ok_goto (t := 83) dX12_compareOf_65 (by decide) ?_
            cases h
            exact ok_iret dX12_compareOf_83 hQ
        · have h := (if_pos hc4).symm.trans h
          refine ok_bipush (v := 13) dX12_compareOf_49 (by decide) ?_
          refine ok_goto (t := 83) dX12_compareOf_51 (by decide) ?_
          cases h
          exact ok_iret dX12_compareOf_83 hQ
      · have h := (if_pos hc3).symm.trans h
        refine ok_bipush (v := 12) dX12_compareOf_36 (by decide) ?_
        refine ok_goto (t := 83) dX12_compareOf_38 (by decide) ?_
        cases h
        exact ok_iret dX12_compareOf_83 hQ
    · have h := (if_pos hc2).symm.trans h
      refine ok_bipush (v := 11) dX12_compareOf_22 (by decide) ?_
      refine ok_goto (t := 83) dX12_compareOf_24 (by decide) ?_
      cases h
      exact ok_iret dX12_compareOf_83 hQ
  · have h := (if_pos hc1).symm.trans h
    refine ok_bipush (v := 10) dX12_compareOf_9 (by decide) ?_
    refine ok_goto (t := 83) dX12_compareOf_11 (by decide) ?_
    cases h
    exact ok_iret dX12_compareOf_83 hQ
theorem k12_compareOf {g : pG} {Q : Option Value → pW → Prop} {Z : pZ} {I : (Nat → Nat → Int32)} {L : (Nat → Nat → Int64)} {O : (Nat → Nat → Option Nat)} {a0 : Nat} {res : Int32} (d : Nat) (hW : WT Z O) (hZ0 : Z[a0]? = some (12, 34)) (h : f12_compareOf I a0 = some res) (hQ : Q (some (.int res)) (Z, I, L, O)) : CT g (d + 2) m12_compareOf 0 0 [.ref a0] (Z, I, L, O) Q :=
  ct_of_ok (mt := m12_compareOf) (ini := false) mo12_compareOf.2.2.2.2 (fun h => by cases h) (Nat.le_of_ble_eq_true rfl) (o12_compareOf d hW hZ0 h ⟨trivial, hQ, rfl, rfl⟩)
theorem dX12_betweenOf_0 : decode cX12_betweenOf 0 = .ok (.aload_n 0, 1) := by decide +kernel
theorem dX12_betweenOf_1 : decode cX12_betweenOf 1 = .ok (.getfield 114, 3) := by decide +kernel
theorem dX12_betweenOf_4 : decode cX12_betweenOf 4 = .ok (.bipush 43, 2) := by decide +kernel
theorem dX12_betweenOf_6 : decode cX12_betweenOf 6 = .ok (.if_icmp .ne 6, 3) := by decide +kernel
theorem dX12_betweenOf_9 : decode cX12_betweenOf 9 = .ok (.bipush 6, 2) := by decide +kernel
theorem dX12_betweenOf_11 : decode cX12_betweenOf 11 = .ok (.ireturn, 1) := by decide +kernel
theorem dX12_betweenOf_12 : decode cX12_betweenOf 12 = .ok (.aload_n 0, 1) := by decide +kernel
theorem dX12_betweenOf_13 : decode cX12_betweenOf 13 = .ok (.getfield 114, 3) := by decide +kernel
theorem dX12_betweenOf_16 : decode cX12_betweenOf 16 = .ok (.bipush 45, 2) := by decide +kernel
theorem dX12_betweenOf_18 : decode cX12_betweenOf 18 = .ok (.if_icmp .ne 6, 3) := by decide +kernel
theorem dX12_betweenOf_21 : decode cX12_betweenOf 21 = .ok (.bipush 7, 2) := by decide +kernel
theorem dX12_betweenOf_23 : decode cX12_betweenOf 23 = .ok (.ireturn, 1) := by decide +kernel
theorem dX12_betweenOf_24 : decode cX12_betweenOf 24 = .ok (.aload_n 0, 1) := by decide +kernel
theorem dX12_betweenOf_25 : decode cX12_betweenOf 25 = .ok (.getfield 114, 3) := by decide +kernel
theorem dX12_betweenOf_28 : decode cX12_betweenOf 28 = .ok (.bipush 42, 2) := by decide +kernel
theorem dX12_betweenOf_30 : decode cX12_betweenOf 30 = .ok (.if_icmp .ne 6, 3) := by decide +kernel
theorem dX12_betweenOf_33 : decode cX12_betweenOf 33 = .ok (.bipush 8, 2) := by decide +kernel
theorem dX12_betweenOf_35 : decode cX12_betweenOf 35 = .ok (.ireturn, 1) := by decide +kernel
theorem dX12_betweenOf_36 : decode cX12_betweenOf 36 = .ok (.aload_n 0, 1) := by decide +kernel
theorem dX12_betweenOf_37 : decode cX12_betweenOf 37 = .ok (.getfield 114, 3) := by decide +kernel
theorem dX12_betweenOf_40 : decode cX12_betweenOf 40 = .ok (.bipush 47, 2) := by decide +kernel
theorem dX12_betweenOf_42 : decode cX12_betweenOf 42 = .ok (.if_icmp .ne 6, 3) := by decide +kernel
theorem dX12_betweenOf_45 : decode cX12_betweenOf 45 = .ok (.bipush 9, 2) := by decide +kernel
theorem dX12_betweenOf_47 : decode cX12_betweenOf 47 = .ok (.ireturn, 1) := by decide +kernel
theorem dX12_betweenOf_48 : decode cX12_betweenOf 48 = .ok (.aload_n 0, 1) := by decide +kernel
theorem dX12_betweenOf_49 : decode cX12_betweenOf 49 = .ok (.invokevirtual 182, 3) := by decide +kernel
theorem dX12_betweenOf_52 : decode cX12_betweenOf 52 = .ok (.bipush 41, 2) := by decide +kernel
theorem dX12_betweenOf_54 : decode cX12_betweenOf 54 = .ok (.if_icmp .eq 5, 3) := by decide +kernel
theorem dX12_betweenOf_57 : decode cX12_betweenOf 57 = .ok (.iconst (-1), 1) := by decide +kernel
theorem dX12_betweenOf_58 : decode cX12_betweenOf 58 = .ok (.ireturn, 1) := by decide +kernel
theorem dX12_betweenOf_59 : decode cX12_betweenOf 59 = .ok (.aload_n 0, 1) := by decide +kernel
theorem dX12_betweenOf_60 : decode cX12_betweenOf 60 = .ok (.invokevirtual 211, 3) := by decide +kernel
theorem dX12_betweenOf_63 : decode cX12_betweenOf 63 = .ok (.ifCond .ne 8, 3) := by decide +kernel
theorem dX12_betweenOf_66 : decode cX12_betweenOf 66 = .ok (.aload_n 0, 1) := by decide +kernel
theorem dX12_betweenOf_67 : decode cX12_betweenOf 67 = .ok (.invokevirtual 214, 3) := by decide +kernel
theorem dX12_betweenOf_70 : decode cX12_betweenOf 70 = .ok (.ireturn, 1) := by decide +kernel
theorem dX12_betweenOf_71 : decode cX12_betweenOf 71 = .ok (.aload_n 0, 1) := by decide +kernel
theorem dX12_betweenOf_72 : decode cX12_betweenOf 72 = .ok (.bipush 97, 2) := by decide +kernel
theorem dX12_betweenOf_74 : decode cX12_betweenOf 74 = .ok (.bipush 110, 2) := by decide +kernel
theorem dX12_betweenOf_76 : decode cX12_betweenOf 76 = .ok (.bipush 100, 2) := by decide +kernel
theorem dX12_betweenOf_78 : decode cX12_betweenOf 78 = .ok (.invokestatic 140, 3) := by decide +kernel
theorem dX12_betweenOf_81 : decode cX12_betweenOf 81 = .ok (.invokevirtual 203, 3) := by decide +kernel
theorem dX12_betweenOf_84 : decode cX12_betweenOf 84 = .ok (.ifCond .eq 8, 3) := by decide +kernel
theorem dX12_betweenOf_87 : decode cX12_betweenOf 87 = .ok (.bipush 21, 2) := by decide +kernel
theorem dX12_betweenOf_89 : decode cX12_betweenOf 89 = .ok (.goto 23, 3) := by decide +kernel
theorem dX12_betweenOf_92 : decode cX12_betweenOf 92 = .ok (.aload_n 0, 1) := by decide +kernel
theorem dX12_betweenOf_93 : decode cX12_betweenOf 93 = .ok (.bipush 111, 2) := by decide +kernel
theorem dX12_betweenOf_95 : decode cX12_betweenOf 95 = .ok (.bipush 114, 2) := by decide +kernel
theorem dX12_betweenOf_97 : decode cX12_betweenOf 97 = .ok (.invokestatic 136, 3) := by decide +kernel
theorem dX12_betweenOf_100 : decode cX12_betweenOf 100 = .ok (.invokevirtual 203, 3) := by decide +kernel
theorem dX12_betweenOf_103 : decode cX12_betweenOf 103 = .ok (.ifCond .eq 8, 3) := by decide +kernel
theorem dX12_betweenOf_106 : decode cX12_betweenOf 106 = .ok (.bipush 22, 2) := by decide +kernel
theorem dX12_betweenOf_108 : decode cX12_betweenOf 108 = .ok (.goto 4, 3) := by decide +kernel
theorem dX12_betweenOf_111 : decode cX12_betweenOf 111 = .ok (.iconst (-1), 1) := by decide +kernel
theorem dX12_betweenOf_112 : decode cX12_betweenOf 112 = .ok (.ireturn, 1) := by decide +kernel
def m12_betweenOf : pMT := (yX12_betweenOf, cX12_betweenOf, 1, some .int)
theorem mo12_betweenOf : mOK m12_betweenOf 0 := ⟨tb_i 1536 (by decide +kernel), wi_RX12, ⟨wn_RX12.1, wn_RX12.2, by decide +kernel⟩, by decide, plainFor_of_name wp_RX12⟩
theorem mv12_betweenOf : mV m12_betweenOf := ⟨tb_i 1535 (by decide +kernel), tb_p 74 (by decide +kernel)⟩
def f12_betweenOf (n : Nat) (I : (Nat → Nat → Int32)) (L : (Nat → Nat → Int64)) (O : (Nat → Nat → Option Nat)) (a0 : Nat) : Option (Int32) := (if (I a0 9) = (43 : Int32) then some ((6 : Int32)) else (if (I a0 9) = (45 : Int32) then some ((7 : Int32)) else (if (I a0 9) = (42 : Int32) then some ((8 : Int32)) else (if (I a0 9) = (47 : Int32) then some ((9 : Int32)) else (f12_openNow n I O a0).bind fun r5 => (if r5 = (41 : Int32) then (f12_isCompared n I O a0).bind fun r8 => (if r8 = 0 then (f12_compareOf I a0).bind fun r21 => some (r21) else (f12_w3 (97 : Int32) (110 : Int32) (100 : Int32)).bind fun r11 => (f12_isWord I L a0 r11).bind fun r13 => (if r13 = 0 then (f12_w2 (111 : Int32) (114 : Int32)).bind fun r16 => (f12_isWord I L a0 r16).bind fun r18 => (if r18 = 0 then some (((-1) : Int32)) else some ((22 : Int32))) else some ((21 : Int32)))) else some (((-1) : Int32)))))))
set_option maxHeartbeats 4000000 in
set_option maxRecDepth 20000 in
theorem o12_betweenOf {g : pG} {Qx : Option Value → pW → Prop} {Z : pZ} {I : (Nat → Nat → Int32)} {L : (Nat → Nat → Int64)} {O : (Nat → Nat → Option Nat)} {n : Nat} {a0 : Nat} {res : Int32} (d : Nat) (hW : WT Z O) (hZ0 : Z[a0]? = some (12, 34)) (h : f12_betweenOf n I L O a0 = some res) (hQ : Qx (some (.int res)) (Z, I, L, O)) : Ok g (d + 4, RX12, cX12_betweenOf, 1, false, 0, 0, Z.length, pSl Z) Qx 0 [(0, .ref a0)] [] (Z, I, L, O) := by
  unfold f12_betweenOf at h
  refine ok_aload_n dX12_betweenOf_0 0 rfl ?_
  refine ok_getI (ci := 12) (k := 9) dX12_betweenOf_1 flRX12_114 rfl hZ0 (by decide) ?_
  refine ok_bipush (v := 43) dX12_betweenOf_4 (by decide) ?_
  refine ok_icmp_ne (t := 12) dX12_betweenOf_6 (by decide) (fun hc1 => ?_) (fun hc1 => ?_)
  · have h := (if_neg hc1).symm.trans h
    refine ok_aload_n dX12_betweenOf_12 0 rfl ?_
    refine ok_getI (ci := 12) (k := 9) dX12_betweenOf_13 flRX12_114 rfl hZ0 (by decide) ?_
    refine ok_bipush (v := 45) dX12_betweenOf_16 (by decide) ?_
    refine ok_icmp_ne (t := 24) dX12_betweenOf_18 (by decide) (fun hc2 => ?_) (fun hc2 => ?_)
    · have h := (if_neg hc2).symm.trans h
      refine ok_aload_n dX12_betweenOf_24 0 rfl ?_
      refine ok_getI (ci := 12) (k := 9) dX12_betweenOf_25 flRX12_114 rfl hZ0 (by decide) ?_
      refine ok_bipush (v := 42) dX12_betweenOf_28 (by decide) ?_
      refine ok_icmp_ne (t := 36) dX12_betweenOf_30 (by decide) (fun hc3 => ?_) (fun hc3 => ?_)
      · have h := (if_neg hc3).symm.trans h
        refine ok_aload_n dX12_betweenOf_36 0 rfl ?_
        refine ok_getI (ci := 12) (k := 9) dX12_betweenOf_37 flRX12_114 rfl hZ0 (by decide) ?_
        refine ok_bipush (v := 47) dX12_betweenOf_40 (by decide) ?_
        refine ok_icmp_ne (t := 48) dX12_betweenOf_42 (by decide) (fun hc4 => ?_) (fun hc4 => ?_)
        · have h := (if_neg hc4).symm.trans h
          refine ok_aload_n dX12_betweenOf_48 0 rfl ?_
          obtain ⟨r5, hr6, h⟩ := bd h
          refine ok_callV (d := ((d + 0) + 3)) (mt := m12_openNow) (mc := 0) (ms := 0) (As := []) (r := []) dX12_betweenOf_49 mo12_openNow mv12_openNow lkRX12_182 rfl hZ0 (q := (RX12, TX12, 34)) rfl rfl rfl (Nat.le_of_ble_eq_true rfl) (by show _ + 1 ≤ d + _; omega) (Nat.le_refl _) (Nat.le_refl _) (pRt_mono ?_)
          refine k12_openNow (d + 0) hW hZ0 hr6 ?_
          intro _
          show Ok g _ Qx 52 [(0, .ref a0)] [.int r5] (Z, I, L, O)
          refine ok_bipush (v := 41) dX12_betweenOf_52 (by decide) ?_
          refine ok_icmp_eq (t := 59) dX12_betweenOf_54 (by decide) (fun hc7 => ?_) (fun hc7 => ?_)
          · have h := (if_pos hc7).symm.trans h
            refine ok_aload_n dX12_betweenOf_59 0 rfl ?_
            obtain ⟨r8, hr9, h⟩ := bd h
            refine ok_callV (d := ((d + 0) + 3)) (mt := m12_isCompared) (mc := 0) (ms := 0) (As := []) (r := []) dX12_betweenOf_60 mo12_isCompared mv12_isCompared lkRX12_211 rfl hZ0 (q := (RX12, TX12, 34)) rfl rfl rfl (Nat.le_of_ble_eq_true rfl) (by show _ + 1 ≤ d + _; omega) (Nat.le_refl _) (Nat.le_refl _) (pRt_mono ?_)
            refine k12_isCompared (d + 0) hW hZ0 hr9 ?_
            intro hbr8
            show Ok g _ Qx 63 [(0, .ref a0)] [.int r8] (Z, I, L, O)
            refine ok_if_ne (t := 71) dX12_betweenOf_63 (by decide) (fun hc10 => ?_) (fun hc10 => ?_)
            · have h := (if_neg hc10).symm.trans h
              refine ok_aload_n dX12_betweenOf_71 0 rfl ?_
              refine ok_bipush (v := 97) dX12_betweenOf_72 (by decide) ?_
              refine ok_bipush (v := 110) dX12_betweenOf_74 (by decide) ?_
              refine ok_bipush (v := 100) dX12_betweenOf_76 (by decide) ?_
              obtain ⟨r11, hr12, h⟩ := bd h
              refine ok_callS (d := ((d + 0) + 3)) (mt := m12_w3) (mc := 0) (ms := 0) (As := [.int 97, .int 110, .int 100]) (r := [.ref a0]) dX12_betweenOf_78 mo12_w3 mv12_w3 lkRX12_140 rfl rfl (Nat.le_of_ble_eq_true rfl) (by show _ + 1 ≤ d + _; omega) (Nat.le_refl _) (Nat.le_refl _) (pRt_mono ?_)
              refine k12_w3 (d + 0) hW  hr12 ?_
              intro _
              show Ok g _ Qx 81 [(0, .ref a0)] [.long r11, .ref a0] (Z, I, L, O)
              obtain ⟨r13, hr14, h⟩ := bd h
              refine ok_callV (d := ((d + 1) + 2)) (mt := m12_isWord) (mc := 0) (ms := 0) (As := [.long r11]) (r := []) dX12_betweenOf_81 mo12_isWord mv12_isWord lkRX12_203 rfl hZ0 (q := (RX12, TX12, 34)) rfl rfl rfl (Nat.le_of_ble_eq_true rfl) (by show _ + 1 ≤ d + _; omega) (Nat.le_refl _) (Nat.le_refl _) (pRt_mono ?_)
              refine k12_isWord (d + 1) hW hZ0 hr14 ?_
              intro hbr13
              show Ok g _ Qx 84 [(0, .ref a0)] [.int r13] (Z, I, L, O)
              refine ok_if_eq (t := 92) dX12_betweenOf_84 (by decide) (fun hc15 => ?_) (fun hc15 => ?_)
              · have h := (if_pos hc15).symm.trans h
                refine ok_aload_n dX12_betweenOf_92 0 rfl ?_
                refine ok_bipush (v := 111) dX12_betweenOf_93 (by decide) ?_
                refine ok_bipush (v := 114) dX12_betweenOf_95 (by decide) ?_
                obtain ⟨r16, hr17, h⟩ := bd h
                refine ok_callS (d := ((d + 1) + 2)) (mt := m12_w2) (mc := 0) (ms := 0) (As := [.int 111, .int 114]) (r := [.ref a0]) dX12_betweenOf_97 mo12_w2 mv12_w2 lkRX12_136 rfl rfl (Nat.le_of_ble_eq_true rfl) (by show _ + 1 ≤ d + _; omega) (Nat.le_refl _) (Nat.le_refl _) (pRt_mono ?_)
                refine k12_w2 (d + 1) hW  hr17 ?_
                intro _
                show Ok g _ Qx 100 [(0, .ref a0)] [.long r16, .ref a0] (Z, I, L, O)
                obtain ⟨r18, hr19, h⟩ := bd h
                refine ok_callV (d := ((d + 1) + 2)) (mt := m12_isWord) (mc := 0) (ms := 0) (As := [.long r16]) (r := []) dX12_betweenOf_100 mo12_isWord mv12_isWord lkRX12_203 rfl hZ0 (q := (RX12, TX12, 34)) rfl rfl rfl (Nat.le_of_ble_eq_true rfl) (by show _ + 1 ≤ d + _; omega) (Nat.le_refl _) (Nat.le_refl _) (pRt_mono ?_)
                refine k12_isWord (d + 1) hW hZ0 hr19 ?_
                intro hbr18
                show Ok g _ Qx 103 [(0, .ref a0)] [.int r18] (Z, I, L, O)
                refine ok_if_eq (t := 111) dX12_betweenOf_103 (by decide) (fun hc20 => ?_) (fun hc20 => ?_)
                · have h := (if_pos hc20).symm.trans h
                  refine ok_iconst (v := (-1)) dX12_betweenOf_111 (by decide) ?_
                  cases h
                  exact ok_iret dX12_betweenOf_112 hQ
                · have h := (if_neg hc20).symm.trans h
                  refine ok_bipush (v := 22) dX12_betweenOf_106 (by decide) ?_
                  refine ok_goto (t := 112) dX12_betweenOf_108 (by decide) ?_
                  cases h
                  exact ok_iret dX12_betweenOf_112 hQ
              · have h := (if_neg hc15).symm.trans h
                refine ok_bipush (v := 21) dX12_betweenOf_87 (by decide) ?_
                refine ok_goto (t := 112) dX12_betweenOf_89 (by decide) ?_
                cases h
                exact ok_iret dX12_betweenOf_112 hQ
            · have h := (if_pos hc10).symm.trans h
              refine ok_aload_n dX12_betweenOf_66 0 rfl ?_
              obtain ⟨r21, hr22, h⟩ := bd h
              refine ok_callV (d := ((d + 1) + 2)) (mt := m12_compareOf) (mc := 0) (ms := 0) (As := []) (r := []) dX12_betweenOf_67 mo12_compareOf mv12_compareOf lkRX12_214 rfl hZ0 (q := (RX12, TX12, 34)) rfl rfl rfl (Nat.le_of_ble_eq_true rfl) (by show _ + 1 ≤ d + _; omega) (Nat.le_refl _) (Nat.le_refl _) (pRt_mono ?_)
              refine k12_compareOf (d + 1) hW hZ0 hr22 ?_
              intro _
              show Ok g _ Qx 70 [(0, .ref a0)] [.int r21] (Z, I, L, O)
              cases h
              exact ok_iret dX12_betweenOf_70 hQ
          · have h := (if_neg hc7).symm.trans h
            refine ok_iconst (v := (-1)) dX12_betweenOf_57 (by decide) ?_
            cases h
            exact ok_iret dX12_betweenOf_58 hQ
        · have h := (if_pos hc4).symm.trans h
          refine ok_bipush (v := 9) dX12_betweenOf_45 (by decide) ?_
          cases h
          exact ok_iret dX12_betweenOf_47 hQ
      · have h := (if_pos hc3).symm.trans h
        refine ok_bipush (v := 8) dX12_betweenOf_33 (by decide) ?_
        cases h
        exact ok_iret dX12_betweenOf_35 hQ
    · have h := (if_pos hc2).symm.trans h
      refine ok_bipush (v := 7) dX12_betweenOf_21 (by decide) ?_
      cases h
      exact ok_iret dX12_betweenOf_23 hQ
  · have h := (if_pos hc1).symm.trans h
    refine ok_bipush (v := 6) dX12_betweenOf_9 (by decide) ?_
    cases h
    exact ok_iret dX12_betweenOf_11 hQ
theorem k12_betweenOf {g : pG} {Q : Option Value → pW → Prop} {Z : pZ} {I : (Nat → Nat → Int32)} {L : (Nat → Nat → Int64)} {O : (Nat → Nat → Option Nat)} {n : Nat} {a0 : Nat} {res : Int32} (d : Nat) (hW : WT Z O) (hZ0 : Z[a0]? = some (12, 34)) (h : f12_betweenOf n I L O a0 = some res) (hQ : Q (some (.int res)) (Z, I, L, O)) : CT g (d + 4) m12_betweenOf 0 0 [.ref a0] (Z, I, L, O) Q :=
  ct_of_ok (mt := m12_betweenOf) (ini := false) mo12_betweenOf.2.2.2.2 (fun h => by cases h) (Nat.le_of_ble_eq_true rfl) (o12_betweenOf d hW hZ0 h ⟨trivial, hQ, rfl, rfl⟩)
theorem dX12_partOf_0 : decode cX12_partOf 0 = .ok (.iload_n 1, 1) := by decide +kernel
theorem dX12_partOf_1 : decode cX12_partOf 1 = .ok (.tableswitch 125 40 43 #[31, 46, 78, 103], 31) := by decide +kernel
theorem dX12_partOf_32 : decode cX12_partOf 32 = .ok (.aload_n 0, 1) := by decide +kernel
theorem dX12_partOf_33 : decode cX12_partOf 33 = .ok (.getfield 114, 3) := by decide +kernel
theorem dX12_partOf_36 : decode cX12_partOf 36 = .ok (.bipush 41, 2) := by decide +kernel
theorem dX12_partOf_38 : decode cX12_partOf 38 = .ok (.if_icmp .ne 7, 3) := by decide +kernel
theorem dX12_partOf_41 : decode cX12_partOf 41 = .ok (.iconst 0, 1) := by decide +kernel
theorem dX12_partOf_42 : decode cX12_partOf 42 = .ok (.goto 4, 3) := by decide +kernel
theorem dX12_partOf_45 : decode cX12_partOf 45 = .ok (.iconst (-1), 1) := by decide +kernel
theorem dX12_partOf_46 : decode cX12_partOf 46 = .ok (.ireturn, 1) := by decide +kernel
theorem dX12_partOf_47 : decode cX12_partOf 47 = .ok (.aload_n 0, 1) := by decide +kernel
theorem dX12_partOf_48 : decode cX12_partOf 48 = .ok (.bipush 116, 2) := by decide +kernel
theorem dX12_partOf_50 : decode cX12_partOf 50 = .ok (.bipush 104, 2) := by decide +kernel
theorem dX12_partOf_52 : decode cX12_partOf 52 = .ok (.bipush 101, 2) := by decide +kernel
theorem dX12_partOf_54 : decode cX12_partOf 54 = .ok (.bipush 110, 2) := by decide +kernel
theorem dX12_partOf_56 : decode cX12_partOf 56 = .ok (.invokestatic 144, 3) := by decide +kernel
theorem dX12_partOf_59 : decode cX12_partOf 59 = .ok (.invokevirtual 203, 3) := by decide +kernel
theorem dX12_partOf_62 : decode cX12_partOf 62 = .ok (.ifCond .eq 15, 3) := by decide +kernel
theorem dX12_partOf_65 : decode cX12_partOf 65 = .ok (.aload_n 0, 1) := by decide +kernel
theorem dX12_partOf_66 : decode cX12_partOf 66 = .ok (.invokevirtual 211, 3) := by decide +kernel
theorem dX12_partOf_69 : decode cX12_partOf 69 = .ok (.ifCond .eq 8, 3) := by decide +kernel
theorem dX12_partOf_72 : decode cX12_partOf 72 = .ok (.bipush 42, 2) := by decide +kernel
theorem dX12_partOf_74 : decode cX12_partOf 74 = .ok (.goto 4, 3) := by decide +kernel
theorem dX12_partOf_77 : decode cX12_partOf 77 = .ok (.iconst (-1), 1) := by decide +kernel
theorem dX12_partOf_78 : decode cX12_partOf 78 = .ok (.ireturn, 1) := by decide +kernel
theorem dX12_partOf_79 : decode cX12_partOf 79 = .ok (.aload_n 0, 1) := by decide +kernel
theorem dX12_partOf_80 : decode cX12_partOf 80 = .ok (.bipush 101, 2) := by decide +kernel
theorem dX12_partOf_82 : decode cX12_partOf 82 = .ok (.bipush 108, 2) := by decide +kernel
theorem dX12_partOf_84 : decode cX12_partOf 84 = .ok (.bipush 115, 2) := by decide +kernel
theorem dX12_partOf_86 : decode cX12_partOf 86 = .ok (.bipush 101, 2) := by decide +kernel
theorem dX12_partOf_88 : decode cX12_partOf 88 = .ok (.invokestatic 144, 3) := by decide +kernel
theorem dX12_partOf_91 : decode cX12_partOf 91 = .ok (.invokevirtual 203, 3) := by decide +kernel
theorem dX12_partOf_94 : decode cX12_partOf 94 = .ok (.ifCond .eq 8, 3) := by decide +kernel
theorem dX12_partOf_97 : decode cX12_partOf 97 = .ok (.bipush 43, 2) := by decide +kernel
theorem dX12_partOf_99 : decode cX12_partOf 99 = .ok (.goto 4, 3) := by decide +kernel
theorem dX12_partOf_102 : decode cX12_partOf 102 = .ok (.iconst (-1), 1) := by decide +kernel
theorem dX12_partOf_103 : decode cX12_partOf 103 = .ok (.ireturn, 1) := by decide +kernel
theorem dX12_partOf_104 : decode cX12_partOf 104 = .ok (.aload_n 0, 1) := by decide +kernel
theorem dX12_partOf_105 : decode cX12_partOf 105 = .ok (.bipush 101, 2) := by decide +kernel
theorem dX12_partOf_107 : decode cX12_partOf 107 = .ok (.bipush 110, 2) := by decide +kernel
theorem dX12_partOf_109 : decode cX12_partOf 109 = .ok (.bipush 100, 2) := by decide +kernel
theorem dX12_partOf_111 : decode cX12_partOf 111 = .ok (.invokestatic 140, 3) := by decide +kernel
theorem dX12_partOf_114 : decode cX12_partOf 114 = .ok (.invokevirtual 203, 3) := by decide +kernel
theorem dX12_partOf_117 : decode cX12_partOf 117 = .ok (.ifCond .eq 7, 3) := by decide +kernel
theorem dX12_partOf_120 : decode cX12_partOf 120 = .ok (.iconst 0, 1) := by decide +kernel
theorem dX12_partOf_121 : decode cX12_partOf 121 = .ok (.goto 4, 3) := by decide +kernel
theorem dX12_partOf_124 : decode cX12_partOf 124 = .ok (.iconst (-1), 1) := by decide +kernel
theorem dX12_partOf_125 : decode cX12_partOf 125 = .ok (.ireturn, 1) := by decide +kernel
theorem dX12_partOf_126 : decode cX12_partOf 126 = .ok (.iconst (-1), 1) := by decide +kernel
theorem dX12_partOf_127 : decode cX12_partOf 127 = .ok (.ireturn, 1) := by decide +kernel
def m12_partOf : pMT := (yX12_partOf, cX12_partOf, 2, some .int)
theorem mo12_partOf : mOK m12_partOf 1 := ⟨tb_i 1567 (by decide +kernel), wi_RX12, ⟨wn_RX12.1, wn_RX12.2, by decide +kernel⟩, by decide, plainFor_of_name wp_RX12⟩
theorem mv12_partOf : mV m12_partOf := ⟨tb_i 1566 (by decide +kernel), tb_p 81 (by decide +kernel)⟩
def f12_partOf (n : Nat) (I : (Nat → Nat → Int32)) (L : (Nat → Nat → Int64)) (O : (Nat → Nat → Option Nat)) (a0 : Nat) (x1 : Int32) : Option (Int32) := (if x1 = 40 then (if (I a0 9) = (41 : Int32) then some ((0 : Int32)) else some (((-1) : Int32))) else (if x1 = 41 then (f12_w4 (116 : Int32) (104 : Int32) (101 : Int32) (110 : Int32)).bind fun r4 => (f12_isWord I L a0 r4).bind fun r6 => (if r6 = 0 then some (((-1) : Int32)) else (f12_isCompared n I O a0).bind fun r9 => (if r9 = 0 then some (((-1) : Int32)) else some ((42 : Int32)))) else (if x1 = 42 then (f12_w4 (101 : Int32) (108 : Int32) (115 : Int32) (101 : Int32)).bind fun r13 => (f12_isWord I L a0 r13).bind fun r15 => (if r15 = 0 then some (((-1) : Int32)) else some ((43 : Int32))) else (if x1 = 43 then (f12_w3 (101 : Int32) (110 : Int32) (100 : Int32)).bind fun r19 => (f12_isWord I L a0 r19).bind fun r21 => (if r21 = 0 then some (((-1) : Int32)) else some ((0 : Int32))) else some (((-1) : Int32))))))
set_option maxHeartbeats 4000000 in
set_option maxRecDepth 20000 in
theorem o12_partOf {g : pG} {Qx : Option Value → pW → Prop} {Z : pZ} {I : (Nat → Nat → Int32)} {L : (Nat → Nat → Int64)} {O : (Nat → Nat → Option Nat)} {n : Nat} {a0 : Nat} {x1 : Int32} {res : Int32} (d : Nat) (hW : WT Z O) (hZ0 : Z[a0]? = some (12, 34)) (h : f12_partOf n I L O a0 x1 = some res) (hQ : Qx (some (.int res)) (Z, I, L, O)) : Ok g (d + 5, RX12, cX12_partOf, 2, false, 0, 0, Z.length, pSl Z) Qx 0 [(0, .ref a0), (1, .int x1)] [] (Z, I, L, O) := by
  unfold f12_partOf at h
  refine ok_iload_n dX12_partOf_0 1 rfl ?_
  by_cases hc1 : x1 = 40
  · have h := (if_pos hc1).symm.trans h
    refine ok_tabEq (t := 32) (off := 31) dX12_partOf_1 hc1 (by decide) (by decide) (by decide) (by decide) ?_
    refine ok_aload_n dX12_partOf_32 0 rfl ?_
    refine ok_getI (ci := 12) (k := 9) dX12_partOf_33 flRX12_114 rfl hZ0 (by decide) ?_
    refine ok_bipush (v := 41) dX12_partOf_36 (by decide) ?_
    refine ok_icmp_ne (t := 45) dX12_partOf_38 (by decide) (fun hc2 => ?_) (fun hc2 => ?_)
    · have h := (if_neg hc2).symm.trans h
      refine ok_iconst (v := (-1)) dX12_partOf_45 (by decide) ?_
      cases h
      exact ok_iret dX12_partOf_46 hQ
    · have h := (if_pos hc2).symm.trans h
      refine ok_iconst (v := 0) dX12_partOf_41 (by decide) ?_
      refine ok_goto (t := 46) dX12_partOf_42 (by decide) ?_
      cases h
      exact ok_iret dX12_partOf_46 hQ
  · have h := (if_neg hc1).symm.trans h
    by_cases hc3 : x1 = 41
    · have h := (if_pos hc3).symm.trans h
      refine ok_tabEq (t := 47) (off := 46) dX12_partOf_1 hc3 (by decide) (by decide) (by decide) (by decide) ?_
      refine ok_aload_n dX12_partOf_47 0 rfl ?_
      refine ok_bipush (v := 116) dX12_partOf_48 (by decide) ?_
      refine ok_bipush (v := 104) dX12_partOf_50 (by decide) ?_
      refine ok_bipush (v := 101) dX12_partOf_52 (by decide) ?_
      refine ok_bipush (v := 110) dX12_partOf_54 (by decide) ?_
      obtain ⟨r4, hr5, h⟩ := bd h
      refine ok_callS (d := ((d + 0) + 4)) (mt := m12_w4) (mc := 0) (ms := 0) (As := [.int 116, .int 104, .int 101, .int 110]) (r := [.ref a0]) dX12_partOf_56 mo12_w4 mv12_w4 lkRX12_144 rfl rfl (Nat.le_of_ble_eq_true rfl) (by show _ + 1 ≤ d + _; omega) (Nat.le_refl _) (Nat.le_refl _) (pRt_mono ?_)
      refine k12_w4 (d + 0) hW  hr5 ?_
      intro _
      show Ok g _ Qx 59 [(0, .ref a0), (1, .int x1)] [.long r4, .ref a0] (Z, I, L, O)
      obtain ⟨r6, hr7, h⟩ := bd h
      refine ok_callV (d := ((d + 2) + 2)) (mt := m12_isWord) (mc := 0) (ms := 0) (As := [.long r4]) (r := []) dX12_partOf_59 mo12_isWord mv12_isWord lkRX12_203 rfl hZ0 (q := (RX12, TX12, 34)) rfl rfl rfl (Nat.le_of_ble_eq_true rfl) (by show _ + 1 ≤ d + _; omega) (Nat.le_refl _) (Nat.le_refl _) (pRt_mono ?_)
      refine k12_isWord (d + 2) hW hZ0 hr7 ?_
      intro hbr6
      show Ok g _ Qx 62 [(0, .ref a0), (1, .int x1)] [.int r6] (Z, I, L, O)
      refine ok_if_eq (t := 77) dX12_partOf_62 (by decide) (fun hc8 => ?_) (fun hc8 => ?_)
      · have h := (if_pos hc8).symm.trans h
        refine ok_iconst (v := (-1)) dX12_partOf_77 (by decide) ?_
        cases h
        exact ok_iret dX12_partOf_78 hQ
      · have h := (if_neg hc8).symm.trans h
        refine ok_aload_n dX12_partOf_65 0 rfl ?_
        obtain ⟨r9, hr10, h⟩ := bd h
        refine ok_callV (d := ((d + 1) + 3)) (mt := m12_isCompared) (mc := 0) (ms := 0) (As := []) (r := []) dX12_partOf_66 mo12_isCompared mv12_isCompared lkRX12_211 rfl hZ0 (q := (RX12, TX12, 34)) rfl rfl rfl (Nat.le_of_ble_eq_true rfl) (by show _ + 1 ≤ d + _; omega) (Nat.le_refl _) (Nat.le_refl _) (pRt_mono ?_)
        refine k12_isCompared (d + 1) hW hZ0 hr10 ?_
        intro hbr9
        show Ok g _ Qx 69 [(0, .ref a0), (1, .int x1)] [.int r9] (Z, I, L, O)
        refine ok_if_eq (t := 77) dX12_partOf_69 (by decide) (fun hc11 => ?_) (fun hc11 => ?_)
        · have h := (if_pos hc11).symm.trans h
          refine ok_iconst (v := (-1)) dX12_partOf_77 (by decide) ?_
          cases h
          exact ok_iret dX12_partOf_78 hQ
        · have h := (if_neg hc11).symm.trans h
          refine ok_bipush (v := 42) dX12_partOf_72 (by decide) ?_
          refine ok_goto (t := 78) dX12_partOf_74 (by decide) ?_
          cases h
          exact ok_iret dX12_partOf_78 hQ
    · have h := (if_neg hc3).symm.trans h
      by_cases hc12 : x1 = 42
      · have h := (if_pos hc12).symm.trans h
        refine ok_tabEq (t := 79) (off := 78) dX12_partOf_1 hc12 (by decide) (by decide) (by decide) (by decide) ?_
        refine ok_aload_n dX12_partOf_79 0 rfl ?_
        refine ok_bipush (v := 101) dX12_partOf_80 (by decide) ?_
        refine ok_bipush (v := 108) dX12_partOf_82 (by decide) ?_
        refine ok_bipush (v := 115) dX12_partOf_84 (by decide) ?_
        refine ok_bipush (v := 101) dX12_partOf_86 (by decide) ?_
        obtain ⟨r13, hr14, h⟩ := bd h
        refine ok_callS (d := ((d + 0) + 4)) (mt := m12_w4) (mc := 0) (ms := 0) (As := [.int 101, .int 108, .int 115, .int 101]) (r := [.ref a0]) dX12_partOf_88 mo12_w4 mv12_w4 lkRX12_144 rfl rfl (Nat.le_of_ble_eq_true rfl) (by show _ + 1 ≤ d + _; omega) (Nat.le_refl _) (Nat.le_refl _) (pRt_mono ?_)
        refine k12_w4 (d + 0) hW  hr14 ?_
        intro _
        show Ok g _ Qx 91 [(0, .ref a0), (1, .int x1)] [.long r13, .ref a0] (Z, I, L, O)
        obtain ⟨r15, hr16, h⟩ := bd h
        refine ok_callV (d := ((d + 2) + 2)) (mt := m12_isWord) (mc := 0) (ms := 0) (As := [.long r13]) (r := []) dX12_partOf_91 mo12_isWord mv12_isWord lkRX12_203 rfl hZ0 (q := (RX12, TX12, 34)) rfl rfl rfl (Nat.le_of_ble_eq_true rfl) (by show _ + 1 ≤ d + _; omega) (Nat.le_refl _) (Nat.le_refl _) (pRt_mono ?_)
        refine k12_isWord (d + 2) hW hZ0 hr16 ?_
        intro hbr15
        show Ok g _ Qx 94 [(0, .ref a0), (1, .int x1)] [.int r15] (Z, I, L, O)
        refine ok_if_eq (t := 102) dX12_partOf_94 (by decide) (fun hc17 => ?_) (fun hc17 => ?_)
        · have h := (if_pos hc17).symm.trans h
          refine ok_iconst (v := (-1)) dX12_partOf_102 (by decide) ?_
          cases h
          exact ok_iret dX12_partOf_103 hQ
        · have h := (if_neg hc17).symm.trans h
          refine ok_bipush (v := 43) dX12_partOf_97 (by decide) ?_
          refine ok_goto (t := 103) dX12_partOf_99 (by decide) ?_
          cases h
          exact ok_iret dX12_partOf_103 hQ
      · have h := (if_neg hc12).symm.trans h
        by_cases hc18 : x1 = 43
        · have h := (if_pos hc18).symm.trans h
          refine ok_tabEq (t := 104) (off := 103) dX12_partOf_1 hc18 (by decide) (by decide) (by decide) (by decide) ?_
          refine ok_aload_n dX12_partOf_104 0 rfl ?_
          refine ok_bipush (v := 101) dX12_partOf_105 (by decide) ?_
          refine ok_bipush (v := 110) dX12_partOf_107 (by decide) ?_
          refine ok_bipush (v := 100) dX12_partOf_109 (by decide) ?_
          obtain ⟨r19, hr20, h⟩ := bd h
          refine ok_callS (d := ((d + 1) + 3)) (mt := m12_w3) (mc := 0) (ms := 0) (As := [.int 101, .int 110, .int 100]) (r := [.ref a0]) dX12_partOf_111 mo12_w3 mv12_w3 lkRX12_140 rfl rfl (Nat.le_of_ble_eq_true rfl) (by show _ + 1 ≤ d + _; omega) (Nat.le_refl _) (Nat.le_refl _) (pRt_mono ?_)
          refine k12_w3 (d + 1) hW  hr20 ?_
          intro _
          show Ok g _ Qx 114 [(0, .ref a0), (1, .int x1)] [.long r19, .ref a0] (Z, I, L, O)
          obtain ⟨r21, hr22, h⟩ := bd h
          refine ok_callV (d := ((d + 2) + 2)) (mt := m12_isWord) (mc := 0) (ms := 0) (As := [.long r19]) (r := []) dX12_partOf_114 mo12_isWord mv12_isWord lkRX12_203 rfl hZ0 (q := (RX12, TX12, 34)) rfl rfl rfl (Nat.le_of_ble_eq_true rfl) (by show _ + 1 ≤ d + _; omega) (Nat.le_refl _) (Nat.le_refl _) (pRt_mono ?_)
          refine k12_isWord (d + 2) hW hZ0 hr22 ?_
          intro hbr21
          show Ok g _ Qx 117 [(0, .ref a0), (1, .int x1)] [.int r21] (Z, I, L, O)
          refine ok_if_eq (t := 124) dX12_partOf_117 (by decide) (fun hc23 => ?_) (fun hc23 => ?_)
          · have h := (if_pos hc23).symm.trans h
            refine ok_iconst (v := (-1)) dX12_partOf_124 (by decide) ?_
            cases h
            exact ok_iret dX12_partOf_125 hQ
          · have h := (if_neg hc23).symm.trans h
            refine ok_iconst (v := 0) dX12_partOf_120 (by decide) ?_
            refine ok_goto (t := 125) dX12_partOf_121 (by decide) ?_
            cases h
            exact ok_iret dX12_partOf_125 hQ
        · have h := (if_neg hc18).symm.trans h
          refine ok_tabOut (t := 126) dX12_partOf_1 (by have n40 := neI hc1 (a := 40) (by decide); have n41 := neI hc3 (a := 41) (by decide); have n42 := neI hc12 (a := 42) (by decide); have n43 := neI hc18 (a := 43) (by decide); omega) (by decide) ?_
          refine ok_iconst (v := (-1)) dX12_partOf_126 (by decide) ?_
          cases h
          exact ok_iret dX12_partOf_127 hQ
theorem k12_partOf {g : pG} {Q : Option Value → pW → Prop} {Z : pZ} {I : (Nat → Nat → Int32)} {L : (Nat → Nat → Int64)} {O : (Nat → Nat → Option Nat)} {n : Nat} {a0 : Nat} {x1 : Int32} {res : Int32} (d : Nat) (hW : WT Z O) (hZ0 : Z[a0]? = some (12, 34)) (h : f12_partOf n I L O a0 x1 = some res) (hQ : Q (some (.int res)) (Z, I, L, O)) : CT g (d + 5) m12_partOf 0 0 [.ref a0, .int x1] (Z, I, L, O) Q :=
  ct_of_ok (mt := m12_partOf) (ini := false) mo12_partOf.2.2.2.2 (fun h => by cases h) (Nat.le_of_ble_eq_true rfl) (o12_partOf d hW hZ0 h ⟨trivial, hQ, rfl, rfl⟩)
theorem dX12_behindOne_0 : decode cX12_behindOne 0 = .ok (.aload_n 0, 1) := by decide +kernel
theorem dX12_behindOne_1 : decode cX12_behindOne 1 = .ok (.invokevirtual 217, 3) := by decide +kernel
theorem dX12_behindOne_4 : decode cX12_behindOne 4 = .ok (.istore_n 1, 1) := by decide +kernel
theorem dX12_behindOne_5 : decode cX12_behindOne 5 = .ok (.iload_n 1, 1) := by decide +kernel
theorem dX12_behindOne_6 : decode cX12_behindOne 6 = .ok (.ifCond .lt 54, 3) := by decide +kernel
theorem dX12_behindOne_9 : decode cX12_behindOne 9 = .ok (.aload_n 0, 1) := by decide +kernel
theorem dX12_behindOne_10 : decode cX12_behindOne 10 = .ok (.iload_n 1, 1) := by decide +kernel
theorem dX12_behindOne_11 : decode cX12_behindOne 11 = .ok (.invokestatic 168, 3) := by decide +kernel
theorem dX12_behindOne_14 : decode cX12_behindOne 14 = .ok (.iconst 4, 1) := by decide +kernel
theorem dX12_behindOne_15 : decode cX12_behindOne 15 = .ok (.if_icmp .ne 7, 3) := by decide +kernel
theorem dX12_behindOne_18 : decode cX12_behindOne 18 = .ok (.iconst 5, 1) := by decide +kernel
theorem dX12_behindOne_19 : decode cX12_behindOne 19 = .ok (.goto 7, 3) := by decide +kernel
theorem dX12_behindOne_22 : decode cX12_behindOne 22 = .ok (.iload_n 1, 1) := by decide +kernel
theorem dX12_behindOne_23 : decode cX12_behindOne 23 = .ok (.invokestatic 168, 3) := by decide +kernel
theorem dX12_behindOne_26 : decode cX12_behindOne 26 = .ok (.invokevirtual 197, 3) := by decide +kernel
theorem dX12_behindOne_29 : decode cX12_behindOne 29 = .ok (.aload_n 0, 1) := by decide +kernel
theorem dX12_behindOne_30 : decode cX12_behindOne 30 = .ok (.getfield 29, 3) := by decide +kernel
theorem dX12_behindOne_33 : decode cX12_behindOne 33 = .ok (.aload_n 0, 1) := by decide +kernel
theorem dX12_behindOne_34 : decode cX12_behindOne 34 = .ok (.getfield 165, 3) := by decide +kernel
theorem dX12_behindOne_37 : decode cX12_behindOne 37 = .ok (.iload_n 1, 1) := by decide +kernel
theorem dX12_behindOne_38 : decode cX12_behindOne 38 = .ok (.iastore, 1) := by decide +kernel
theorem dX12_behindOne_39 : decode cX12_behindOne 39 = .ok (.aload_n 0, 1) := by decide +kernel
theorem dX12_behindOne_40 : decode cX12_behindOne 40 = .ok (.dup, 1) := by decide +kernel
theorem dX12_behindOne_41 : decode cX12_behindOne 41 = .ok (.getfield 165, 3) := by decide +kernel
theorem dX12_behindOne_44 : decode cX12_behindOne 44 = .ok (.iconst 1, 1) := by decide +kernel
theorem dX12_behindOne_45 : decode cX12_behindOne 45 = .ok (.iadd, 1) := by decide +kernel
theorem dX12_behindOne_46 : decode cX12_behindOne 46 = .ok (.putfield 165, 3) := by decide +kernel
theorem dX12_behindOne_49 : decode cX12_behindOne 49 = .ok (.aload_n 0, 1) := by decide +kernel
theorem dX12_behindOne_50 : decode cX12_behindOne 50 = .ok (.iconst 0, 1) := by decide +kernel
theorem dX12_behindOne_51 : decode cX12_behindOne 51 = .ok (.putfield 194, 3) := by decide +kernel
theorem dX12_behindOne_54 : decode cX12_behindOne 54 = .ok (.aload_n 0, 1) := by decide +kernel
theorem dX12_behindOne_55 : decode cX12_behindOne 55 = .ok (.invokevirtual 185, 3) := by decide +kernel
theorem dX12_behindOne_58 : decode cX12_behindOne 58 = .ok (.iconst 1, 1) := by decide +kernel
theorem dX12_behindOne_59 : decode cX12_behindOne 59 = .ok (.ireturn, 1) := by decide +kernel
theorem dX12_behindOne_60 : decode cX12_behindOne 60 = .ok (.aload_n 0, 1) := by decide +kernel
theorem dX12_behindOne_61 : decode cX12_behindOne 61 = .ok (.invokevirtual 182, 3) := by decide +kernel
theorem dX12_behindOne_64 : decode cX12_behindOne 64 = .ok (.istore_n 2, 1) := by decide +kernel
theorem dX12_behindOne_65 : decode cX12_behindOne 65 = .ok (.aload_n 0, 1) := by decide +kernel
theorem dX12_behindOne_66 : decode cX12_behindOne 66 = .ok (.iload_n 2, 1) := by decide +kernel
theorem dX12_behindOne_67 : decode cX12_behindOne 67 = .ok (.invokevirtual 220, 3) := by decide +kernel
theorem dX12_behindOne_70 : decode cX12_behindOne 70 = .ok (.istore_n 3, 1) := by decide +kernel
theorem dX12_behindOne_71 : decode cX12_behindOne 71 = .ok (.iload_n 3, 1) := by decide +kernel
theorem dX12_behindOne_72 : decode cX12_behindOne 72 = .ok (.ifCond .ge 5, 3) := by decide +kernel
theorem dX12_behindOne_75 : decode cX12_behindOne 75 = .ok (.iconst 0, 1) := by decide +kernel
theorem dX12_behindOne_76 : decode cX12_behindOne 76 = .ok (.ireturn, 1) := by decide +kernel
theorem dX12_behindOne_77 : decode cX12_behindOne 77 = .ok (.aload_n 0, 1) := by decide +kernel
theorem dX12_behindOne_78 : decode cX12_behindOne 78 = .ok (.iconst 1, 1) := by decide +kernel
theorem dX12_behindOne_79 : decode cX12_behindOne 79 = .ok (.invokevirtual 197, 3) := by decide +kernel
theorem dX12_behindOne_82 : decode cX12_behindOne 82 = .ok (.aload_n 0, 1) := by decide +kernel
theorem dX12_behindOne_83 : decode cX12_behindOne 83 = .ok (.invokevirtual 185, 3) := by decide +kernel
theorem dX12_behindOne_86 : decode cX12_behindOne 86 = .ok (.iload_n 3, 1) := by decide +kernel
theorem dX12_behindOne_87 : decode cX12_behindOne 87 = .ok (.ifCond .le 20, 3) := by decide +kernel
theorem dX12_behindOne_90 : decode cX12_behindOne 90 = .ok (.aload_n 0, 1) := by decide +kernel
theorem dX12_behindOne_91 : decode cX12_behindOne 91 = .ok (.getfield 29, 3) := by decide +kernel
theorem dX12_behindOne_94 : decode cX12_behindOne 94 = .ok (.aload_n 0, 1) := by decide +kernel
theorem dX12_behindOne_95 : decode cX12_behindOne 95 = .ok (.invokevirtual 178, 3) := by decide +kernel
theorem dX12_behindOne_98 : decode cX12_behindOne 98 = .ok (.iload_n 3, 1) := by decide +kernel
theorem dX12_behindOne_99 : decode cX12_behindOne 99 = .ok (.iastore, 1) := by decide +kernel
theorem dX12_behindOne_100 : decode cX12_behindOne 100 = .ok (.aload_n 0, 1) := by decide +kernel
theorem dX12_behindOne_101 : decode cX12_behindOne 101 = .ok (.iconst 0, 1) := by decide +kernel
theorem dX12_behindOne_102 : decode cX12_behindOne 102 = .ok (.putfield 194, 3) := by decide +kernel
theorem dX12_behindOne_105 : decode cX12_behindOne 105 = .ok (.iconst 1, 1) := by decide +kernel
theorem dX12_behindOne_106 : decode cX12_behindOne 106 = .ok (.ireturn, 1) := by decide +kernel
theorem dX12_behindOne_107 : decode cX12_behindOne 107 = .ok (.aload_n 0, 1) := by decide +kernel
theorem dX12_behindOne_108 : decode cX12_behindOne 108 = .ok (.dup, 1) := by decide +kernel
theorem dX12_behindOne_109 : decode cX12_behindOne 109 = .ok (.getfield 175, 3) := by decide +kernel
theorem dX12_behindOne_112 : decode cX12_behindOne 112 = .ok (.iconst 1, 1) := by decide +kernel
theorem dX12_behindOne_113 : decode cX12_behindOne 113 = .ok (.isub, 1) := by decide +kernel
theorem dX12_behindOne_114 : decode cX12_behindOne 114 = .ok (.putfield 175, 3) := by decide +kernel
theorem dX12_behindOne_117 : decode cX12_behindOne 117 = .ok (.aload_n 0, 1) := by decide +kernel
theorem dX12_behindOne_118 : decode cX12_behindOne 118 = .ok (.dup, 1) := by decide +kernel
theorem dX12_behindOne_119 : decode cX12_behindOne 119 = .ok (.getfield 165, 3) := by decide +kernel
theorem dX12_behindOne_122 : decode cX12_behindOne 122 = .ok (.iconst 1, 1) := by decide +kernel
theorem dX12_behindOne_123 : decode cX12_behindOne 123 = .ok (.isub, 1) := by decide +kernel
theorem dX12_behindOne_124 : decode cX12_behindOne 124 = .ok (.putfield 165, 3) := by decide +kernel
theorem dX12_behindOne_127 : decode cX12_behindOne 127 = .ok (.iload_n 2, 1) := by decide +kernel
theorem dX12_behindOne_128 : decode cX12_behindOne 128 = .ok (.bipush 43, 2) := by decide +kernel
theorem dX12_behindOne_130 : decode cX12_behindOne 130 = .ok (.if_icmp .ne 9, 3) := by decide +kernel
theorem dX12_behindOne_133 : decode cX12_behindOne 133 = .ok (.aload_n 0, 1) := by decide +kernel
theorem dX12_behindOne_134 : decode cX12_behindOne 134 = .ok (.iconst 3, 1) := by decide +kernel
theorem dX12_behindOne_135 : decode cX12_behindOne 135 = .ok (.iconst 0, 1) := by decide +kernel
theorem dX12_behindOne_136 : decode cX12_behindOne 136 = .ok (.invokevirtual 171, 3) := by decide +kernel
theorem dX12_behindOne_139 : decode cX12_behindOne 139 = .ok (.aload_n 0, 1) := by decide +kernel
theorem dX12_behindOne_140 : decode cX12_behindOne 140 = .ok (.bipush 7, 2) := by decide +kernel
theorem dX12_behindOne_142 : decode cX12_behindOne 142 = .ok (.invokevirtual 197, 3) := by decide +kernel
theorem dX12_behindOne_145 : decode cX12_behindOne 145 = .ok (.iconst 1, 1) := by decide +kernel
theorem dX12_behindOne_146 : decode cX12_behindOne 146 = .ok (.ireturn, 1) := by decide +kernel
def m12_behindOne : pMT := (yX12_behindOne, cX12_behindOne, 4, some .boolean)
theorem mo12_behindOne : mOK m12_behindOne 0 := ⟨tb_i 1532 (by decide +kernel), wi_RX12, ⟨wn_RX12.1, wn_RX12.2, by decide +kernel⟩, by decide, plainFor_of_name wp_RX12⟩
theorem mv12_behindOne : mV m12_behindOne := ⟨tb_i 1531 (by decide +kernel), tb_p 73 (by decide +kernel)⟩
def f12_behindOne_c26 (n : Nat) (O : (Nat → Nat → Option Nat)) (I : (Nat → Nat → Int32)) (L : (Nat → Nat → Int64)) (b0 : Nat) (y1 : Int32) (t0 : Int32) (t1 : Nat) : Option (Int32 × (Nat → Nat → Int32) × (Nat → Nat → Int64)) := (f12_settle n I O t1 t0).bind fun r1 => (if (r1 b0 16) < 0 ∨ 160 ≤ (r1 b0 16).toNatClampNeg then none else bl (sI r1 (rO O b0 15) (r1 b0 16).toNatClampNeg y1) fun I5 => bl (sI I5 b0 16 ((I5 b0 16) + 1)) fun I6 => bl (sI I6 b0 18 (0 : Int32)) fun I7 => (f12_nextToken n I7 L O b0).bind fun r8 => some ((1 : Int32), r8.1, r8.2))
set_option maxHeartbeats 4000000 in
set_option maxRecDepth 20000 in
theorem o12_behindOne_c26 {g : pG} {Qx : Option Value → pW → Prop} {Z : pZ} {O : (Nat → Nat → Option Nat)} {n : Nat} {res : Int32 × (Nat → Nat → Int32) × (Nat → Nat → Int64)} (d : Nat) (hW : WT Z O) (hQ : (res.1 = 0 ∨ res.1 = 1) → Qx (some (.int res.1)) (Z, res.2.1, res.2.2, O)) (I : (Nat → Nat → Int32)) (L : (Nat → Nat → Int64)) (b0 : Nat) (y1 : Int32) (t0 : Int32) (t1 : Nat) (hZ_b0 : Z[b0]? = some (12, 34)) (hZ_t1 : Z[t1]? = some (12, 34)) (h : f12_behindOne_c26 n O I L b0 y1 t0 t1 = some res) : Ok g (d + 6, RX12, cX12_behindOne, 4, false, 0, 0, Z.length, pSl Z) Qx 26 [(0, .ref b0), (1, .int y1)] [.int t0, .ref t1] (Z, I, L, O) := by
  unfold f12_behindOne_c26 at h
  obtain ⟨r1, hr2, h⟩ := bd h
  refine ok_callV (d := ((d + 2) + 3)) (mt := m12_settle) (mc := 0) (ms := 0) (As := [.int t0]) (r := []) dX12_behindOne_26 mo12_settle mv12_settle lkRX12_197 rfl hZ_t1 (q := (RX12, TX12, 34)) rfl rfl rfl (Nat.le_of_ble_eq_true rfl) (by show _ + 1 ≤ d + _; omega) (Nat.le_refl _) (Nat.le_refl _) (pRt_mono ?_)
  refine k12_settle (d + 2) hW hZ_t1 hr2 ?_
  intro _
  show Ok g _ Qx 29 [(0, .ref b0), (1, .int y1)] [] (Z, r1, L, O)
  refine ok_aload_n dX12_behindOne_29 0 rfl ?_
  have hT3 : Z[(rO O b0 15)]? = some (13, 160) := (wt_f (ci := 12) (k := 15) hW hZ_b0 rfl).2
  refine ok_getR (ci := 12) (k := 15) dX12_behindOne_30 flRX12_29 rfl hW hZ_b0 (by decide) ?_
  refine ok_aload_n dX12_behindOne_33 0 rfl ?_
  refine ok_getI (ci := 12) (k := 16) dX12_behindOne_34 flRX12_165 rfl hZ_b0 (by decide) ?_
  refine ok_iload_n dX12_behindOne_37 1 rfl ?_
  obtain ⟨hg4, h⟩ := gd h
  obtain ⟨I5, eI5, h⟩ := blE h
  refine ok_iast3 dX12_behindOne_38 hT3 hg4 rfl eI5 ?_
  refine ok_aload_n dX12_behindOne_39 0 rfl ?_
  refine ok_dup dX12_behindOne_40 rfl ?_
  refine ok_getI (ci := 12) (k := 16) dX12_behindOne_41 flRX12_165 rfl hZ_b0 (by decide) ?_
  refine ok_iconst (v := 1) dX12_behindOne_44 (by decide) ?_
  refine ok_iadd dX12_behindOne_45 ?_
  obtain ⟨I6, eI6, h⟩ := blE h
  refine ok_putI2 (ci := 12) (k := 16) dX12_behindOne_46 flRX12_165 rfl (Or.inl rfl) hZ_b0 (by decide) eI6 ?_
  refine ok_aload_n dX12_behindOne_49 0 rfl ?_
  refine ok_iconst (v := 0) dX12_behindOne_50 (by decide) ?_
  obtain ⟨I7, eI7, h⟩ := blE h
  refine ok_putZ2 (ci := 12) (k := 18) dX12_behindOne_51 flRX12_194 rfl (Or.inl rfl) hZ_b0 (by decide) (Or.inl rfl) eI7 ?_
  refine ok_aload_n dX12_behindOne_54 0 rfl ?_
  obtain ⟨r8, hr9, h⟩ := bd h
  refine ok_callV (d := ((d + 2) + 3)) (mt := m12_nextToken) (mc := 0) (ms := 0) (As := []) (r := []) dX12_behindOne_55 mo12_nextToken mv12_nextToken lkRX12_185 rfl hZ_b0 (q := (RX12, TX12, 34)) rfl rfl rfl (Nat.le_of_ble_eq_true rfl) (by show _ + 1 ≤ d + _; omega) (Nat.le_refl _) (Nat.le_refl _) (pRt_mono ?_)
  refine k12_nextToken (d + 2) hW hZ_b0 hr9 ?_
  intro _
  show Ok g _ Qx 58 [(0, .ref b0), (1, .int y1)] [] (Z, r8.1, r8.2, O)
  refine ok_iconst (v := 1) dX12_behindOne_58 (by decide) ?_
  cases h
  exact ok_iret dX12_behindOne_59 (hQ (Or.inr rfl))
def f12_behindOne (n : Nat) (I : (Nat → Nat → Int32)) (L : (Nat → Nat → Int64)) (O : (Nat → Nat → Option Nat)) (a0 : Nat) : Option (Int32 × (Nat → Nat → Int32) × (Nat → Nat → Int64)) := (f12_betweenOf n I L O a0).bind fun r1 => (if r1 < 0 then (f12_openNow n I O a0).bind fun r4 => (f12_partOf n I L O a0 r4).bind fun r6 => (if 0 ≤ r6 then (f12_settle n I O a0 (1 : Int32)).bind fun r9 => (f12_nextToken n r9 L O a0).bind fun r11 => (if r6 ≤ 0 then bl (sI r11.1 a0 17 ((r11.1 a0 17) - 1)) fun I14 => bl (sI I14 a0 16 ((I14 a0 16) - 1)) fun I15 => (if r4 = (43 : Int32) then (f12_emit I15 O a0 (3 : Int32) (0 : Int32)).bind fun r19 => (f12_settle n r19 O a0 (7 : Int32)).bind fun r21 => some ((1 : Int32), r21, r11.2) else (f12_settle n I15 O a0 (7 : Int32)).bind fun r17 => some ((1 : Int32), r17, r11.2)) else (f12_openAt n r11.1 O a0).bind fun r24 => (if r24 < 0 ∨ 160 ≤ r24.toNatClampNeg then none else bl (sI r11.1 (rO O a0 15) r24.toNatClampNeg r6) fun I27 => bl (sI I27 a0 18 (0 : Int32)) fun I28 => some ((1 : Int32), I28, r11.2))) else some ((0 : Int32), I, L)) else (f12_rank r1).bind fun r29 => (if r29 = (4 : Int32) then f12_behindOne_c26 n O I L a0 r1 (5 : Int32) a0 else (f12_rank r1).bind fun r32 => f12_behindOne_c26 n O I L a0 r1 r32 a0))
set_option maxHeartbeats 4000000 in
set_option maxRecDepth 20000 in
theorem o12_behindOne {g : pG} {Qx : Option Value → pW → Prop} {Z : pZ} {I : (Nat → Nat → Int32)} {L : (Nat → Nat → Int64)} {O : (Nat → Nat → Option Nat)} {n : Nat} {a0 : Nat} {res : Int32 × (Nat → Nat → Int32) × (Nat → Nat → Int64)} (d : Nat) (hW : WT Z O) (hZ0 : Z[a0]? = some (12, 34)) (h : f12_behindOne n I L O a0 = some res) (hQ : (res.1 = 0 ∨ res.1 = 1) → Qx (some (.int res.1)) (Z, res.2.1, res.2.2, O)) : Ok g (d + 6, RX12, cX12_behindOne, 4, false, 0, 0, Z.length, pSl Z) Qx 0 [(0, .ref a0)] [] (Z, I, L, O) := by
  unfold f12_behindOne at h
  refine ok_aload_n dX12_behindOne_0 0 rfl ?_
  obtain ⟨r1, hr2, h⟩ := bd h
  refine ok_callV (d := ((d + 1) + 4)) (mt := m12_betweenOf) (mc := 0) (ms := 0) (As := []) (r := []) dX12_behindOne_1 mo12_betweenOf mv12_betweenOf lkRX12_217 rfl hZ0 (q := (RX12, TX12, 34)) rfl rfl rfl (Nat.le_of_ble_eq_true rfl) (by show _ + 1 ≤ d + _; omega) (Nat.le_refl _) (Nat.le_refl _) (pRt_mono ?_)
  refine k12_betweenOf (d + 1) hW hZ0 hr2 ?_
  intro _
  show Ok g _ Qx 4 [(0, .ref a0)] [.int r1] (Z, I, L, O)
  refine ok_istore_n (l' := [(1, .int r1), (0, .ref a0)]) dX12_behindOne_4 rfl (Nat.le_of_ble_eq_true rfl) rfl ?_
  refine ok_iload_n dX12_behindOne_5 0 rfl ?_
  refine ok_if_lt (t := 60) dX12_behindOne_6 (by decide) (fun hc3 => ?_) (fun hc3 => ?_)
  · have h := (if_pos hc3).symm.trans h
    refine ok_aload_n dX12_behindOne_60 1 rfl ?_
    obtain ⟨r4, hr5, h⟩ := bd h
    refine ok_callV (d := ((d + 2) + 3)) (mt := m12_openNow) (mc := 0) (ms := 0) (As := []) (r := []) dX12_behindOne_61 mo12_openNow mv12_openNow lkRX12_182 rfl hZ0 (q := (RX12, TX12, 34)) rfl rfl rfl (Nat.le_of_ble_eq_true rfl) (by show _ + 1 ≤ d + _; omega) (Nat.le_refl _) (Nat.le_refl _) (pRt_mono ?_)
    refine k12_openNow (d + 2) hW hZ0 hr5 ?_
    intro _
    show Ok g _ Qx 64 [(1, .int r1), (0, .ref a0)] [.int r4] (Z, I, L, O)
    refine ok_istore_n (l' := [(2, .int r4), (1, .int r1), (0, .ref a0)]) dX12_behindOne_64 rfl (Nat.le_of_ble_eq_true rfl) rfl ?_
    refine ok_aload_n dX12_behindOne_65 2 rfl ?_
    refine ok_iload_n dX12_behindOne_66 0 rfl ?_
    obtain ⟨r6, hr7, h⟩ := bd h
    refine ok_callV (d := ((d + 0) + 5)) (mt := m12_partOf) (mc := 0) (ms := 0) (As := [.int r4]) (r := []) dX12_behindOne_67 mo12_partOf mv12_partOf lkRX12_220 rfl hZ0 (q := (RX12, TX12, 34)) rfl rfl rfl (Nat.le_of_ble_eq_true rfl) (by show _ + 1 ≤ d + _; omega) (Nat.le_refl _) (Nat.le_refl _) (pRt_mono ?_)
    refine k12_partOf (d + 0) hW hZ0 hr7 ?_
    intro _
    show Ok g _ Qx 70 [(2, .int r4), (1, .int r1), (0, .ref a0)] [.int r6] (Z, I, L, O)
    refine ok_istore_n (l' := [(3, .int r6), (2, .int r4), (1, .int r1), (0, .ref a0)]) dX12_behindOne_70 rfl (Nat.le_of_ble_eq_true rfl) rfl ?_
    refine ok_iload_n dX12_behindOne_71 0 rfl ?_
    refine ok_if_ge (t := 77) dX12_behindOne_72 (by decide) (fun hc8 => ?_) (fun hc8 => ?_)
    · have h := (if_pos hc8).symm.trans h
      refine ok_aload_n dX12_behindOne_77 3 rfl ?_
      refine ok_iconst (v := 1) dX12_behindOne_78 (by decide) ?_
      obtain ⟨r9, hr10, h⟩ := bd h
      refine ok_callV (d := ((d + 2) + 3)) (mt := m12_settle) (mc := 0) (ms := 0) (As := [.int 1]) (r := []) dX12_behindOne_79 mo12_settle mv12_settle lkRX12_197 rfl hZ0 (q := (RX12, TX12, 34)) rfl rfl rfl (Nat.le_of_ble_eq_true rfl) (by show _ + 1 ≤ d + _; omega) (Nat.le_refl _) (Nat.le_refl _) (pRt_mono ?_)
      refine k12_settle (d + 2) hW hZ0 hr10 ?_
      intro _
      show Ok g _ Qx 82 [(3, .int r6), (2, .int r4), (1, .int r1), (0, .ref a0)] [] (Z, r9, L, O)
      refine ok_aload_n dX12_behindOne_82 3 rfl ?_
      obtain ⟨r11, hr12, h⟩ := bd h
      refine ok_callV (d := ((d + 2) + 3)) (mt := m12_nextToken) (mc := 0) (ms := 0) (As := []) (r := []) dX12_behindOne_83 mo12_nextToken mv12_nextToken lkRX12_185 rfl hZ0 (q := (RX12, TX12, 34)) rfl rfl rfl (Nat.le_of_ble_eq_true rfl) (by show _ + 1 ≤ d + _; omega) (Nat.le_refl _) (Nat.le_refl _) (pRt_mono ?_)
      refine k12_nextToken (d + 2) hW hZ0 hr12 ?_
      intro _
      show Ok g _ Qx 86 [(3, .int r6), (2, .int r4), (1, .int r1), (0, .ref a0)] [] (Z, r11.1, r11.2, O)
      refine ok_iload_n dX12_behindOne_86 0 rfl ?_
      refine ok_if_le (t := 107) dX12_behindOne_87 (by decide) (fun hc13 => ?_) (fun hc13 => ?_)
      · have h := (if_pos hc13).symm.trans h
        refine ok_aload_n dX12_behindOne_107 3 rfl ?_
        refine ok_dup dX12_behindOne_108 rfl ?_
        refine ok_getI (ci := 12) (k := 17) dX12_behindOne_109 flRX12_175 rfl hZ0 (by decide) ?_
        refine ok_iconst (v := 1) dX12_behindOne_112 (by decide) ?_
        refine ok_isub dX12_behindOne_113 ?_
        obtain ⟨I14, eI14, h⟩ := blE h
        refine ok_putI2 (ci := 12) (k := 17) dX12_behindOne_114 flRX12_175 rfl (Or.inl rfl) hZ0 (by decide) eI14 ?_
        refine ok_aload_n dX12_behindOne_117 3 rfl ?_
        refine ok_dup dX12_behindOne_118 rfl ?_
        refine ok_getI (ci := 12) (k := 16) dX12_behindOne_119 flRX12_165 rfl hZ0 (by decide) ?_
        refine ok_iconst (v := 1) dX12_behindOne_122 (by decide) ?_
        refine ok_isub dX12_behindOne_123 ?_
        obtain ⟨I15, eI15, h⟩ := blE h
        refine ok_putI2 (ci := 12) (k := 16) dX12_behindOne_124 flRX12_165 rfl (Or.inl rfl) hZ0 (by decide) eI15 ?_
        refine ok_iload_n dX12_behindOne_127 1 rfl ?_
        refine ok_bipush (v := 43) dX12_behindOne_128 (by decide) ?_
        refine ok_icmp_ne (t := 139) dX12_behindOne_130 (by decide) (fun hc16 => ?_) (fun hc16 => ?_)
        · have h := (if_neg hc16).symm.trans h
          refine ok_aload_n dX12_behindOne_139 3 rfl ?_
          refine ok_bipush (v := 7) dX12_behindOne_140 (by decide) ?_
          obtain ⟨r17, hr18, h⟩ := bd h
          refine ok_callV (d := ((d + 2) + 3)) (mt := m12_settle) (mc := 0) (ms := 0) (As := [.int 7]) (r := []) dX12_behindOne_142 mo12_settle mv12_settle lkRX12_197 rfl hZ0 (q := (RX12, TX12, 34)) rfl rfl rfl (Nat.le_of_ble_eq_true rfl) (by show _ + 1 ≤ d + _; omega) (Nat.le_refl _) (Nat.le_refl _) (pRt_mono ?_)
          refine k12_settle (d + 2) hW hZ0 hr18 ?_
          intro _
          show Ok g _ Qx 145 [(3, .int r6), (2, .int r4), (1, .int r1), (0, .ref a0)] [] (Z, r17, r11.2, O)
          refine ok_iconst (v := 1) dX12_behindOne_145 (by decide) ?_
          cases h
          exact ok_iret dX12_behindOne_146 (hQ (Or.inr rfl))
        · have h := (if_pos hc16).symm.trans h
          refine ok_aload_n dX12_behindOne_133 3 rfl ?_
          refine ok_iconst (v := 3) dX12_behindOne_134 (by decide) ?_
          refine ok_iconst (v := 0) dX12_behindOne_135 (by decide) ?_
          obtain ⟨r19, hr20, h⟩ := bd h
          refine ok_callV (d := ((d + 3) + 2)) (mt := m12_emit) (mc := 0) (ms := 0) (As := [.int 3, .int 0]) (r := []) dX12_behindOne_136 mo12_emit mv12_emit lkRX12_171 rfl hZ0 (q := (RX12, TX12, 34)) rfl rfl rfl (Nat.le_of_ble_eq_true rfl) (by show _ + 1 ≤ d + _; omega) (Nat.le_refl _) (Nat.le_refl _) (pRt_mono ?_)
          refine k12_emit (d + 3) hW hZ0 hr20 ?_
          intro _
          show Ok g _ Qx 139 [(3, .int r6), (2, .int r4), (1, .int r1), (0, .ref a0)] [] (Z, r19, r11.2, O)
          refine ok_aload_n dX12_behindOne_139 3 rfl ?_
          refine ok_bipush (v := 7) dX12_behindOne_140 (by decide) ?_
          obtain ⟨r21, hr22, h⟩ := bd h
          refine ok_callV (d := ((d + 2) + 3)) (mt := m12_settle) (mc := 0) (ms := 0) (As := [.int 7]) (r := []) dX12_behindOne_142 mo12_settle mv12_settle lkRX12_197 rfl hZ0 (q := (RX12, TX12, 34)) rfl rfl rfl (Nat.le_of_ble_eq_true rfl) (by show _ + 1 ≤ d + _; omega) (Nat.le_refl _) (Nat.le_refl _) (pRt_mono ?_)
          refine k12_settle (d + 2) hW hZ0 hr22 ?_
          intro _
          show Ok g _ Qx 145 [(3, .int r6), (2, .int r4), (1, .int r1), (0, .ref a0)] [] (Z, r21, r11.2, O)
          refine ok_iconst (v := 1) dX12_behindOne_145 (by decide) ?_
          cases h
          exact ok_iret dX12_behindOne_146 (hQ (Or.inr rfl))
      · have h := (if_neg hc13).symm.trans h
        refine ok_aload_n dX12_behindOne_90 3 rfl ?_
        have hT23 : Z[(rO O a0 15)]? = some (13, 160) := (wt_f (ci := 12) (k := 15) hW hZ0 rfl).2
        refine ok_getR (ci := 12) (k := 15) dX12_behindOne_91 flRX12_29 rfl hW hZ0 (by decide) ?_
        refine ok_aload_n dX12_behindOne_94 3 rfl ?_
        obtain ⟨r24, hr25, h⟩ := bd h
        refine ok_callV (d := ((d + 3) + 2)) (mt := m12_openAt) (mc := 0) (ms := 0) (As := []) (r := [.ref (rO O a0 15)]) dX12_behindOne_95 mo12_openAt mv12_openAt lkRX12_178 rfl hZ0 (q := (RX12, TX12, 34)) rfl rfl rfl (Nat.le_of_ble_eq_true rfl) (by show _ + 1 ≤ d + _; omega) (Nat.le_refl _) (Nat.le_refl _) (pRt_mono ?_)
        refine k12_openAt (d + 3) hW hZ0 hr25 ?_
        intro _
        show Ok g _ Qx 98 [(3, .int r6), (2, .int r4), (1, .int r1), (0, .ref a0)] [.int r24, .ref (rO O a0 15)] (Z, r11.1, r11.2, O)
        refine ok_iload_n dX12_behindOne_98 0 rfl ?_
        obtain ⟨hg26, h⟩ := gd h
        obtain ⟨I27, eI27, h⟩ := blE h
        refine ok_iast3 dX12_behindOne_99 hT23 hg26 rfl eI27 ?_
        refine ok_aload_n dX12_behindOne_100 3 rfl ?_
        refine ok_iconst (v := 0) dX12_behindOne_101 (by decide) ?_
        obtain ⟨I28, eI28, h⟩ := blE h
        refine ok_putZ2 (ci := 12) (k := 18) dX12_behindOne_102 flRX12_194 rfl (Or.inl rfl) hZ0 (by decide) (Or.inl rfl) eI28 ?_
        refine ok_iconst (v := 1) dX12_behindOne_105 (by decide) ?_
        cases h
        exact ok_iret dX12_behindOne_106 (hQ (Or.inr rfl))
    · have h := (if_neg hc8).symm.trans h
      refine ok_iconst (v := 0) dX12_behindOne_75 (by decide) ?_
      cases h
      exact ok_iret dX12_behindOne_76 (hQ (Or.inl rfl))
  · have h := (if_neg hc3).symm.trans h
    refine ok_aload_n dX12_behindOne_9 1 rfl ?_
    refine ok_iload_n dX12_behindOne_10 0 rfl ?_
    obtain ⟨r29, hr30, h⟩ := bd h
    refine ok_callS (d := ((d + 3) + 2)) (mt := m12_rank) (mc := 0) (ms := 0) (As := [.int r1]) (r := [.ref a0]) dX12_behindOne_11 mo12_rank mv12_rank lkRX12_168 rfl rfl (Nat.le_of_ble_eq_true rfl) (by show _ + 1 ≤ d + _; omega) (Nat.le_refl _) (Nat.le_refl _) (pRt_mono ?_)
    refine k12_rank (d + 3) hW  hr30 ?_
    intro _
    show Ok g _ Qx 14 [(1, .int r1), (0, .ref a0)] [.int r29, .ref a0] (Z, I, L, O)
    refine ok_iconst (v := 4) dX12_behindOne_14 (by decide) ?_
    refine ok_icmp_ne (t := 22) dX12_behindOne_15 (by decide) (fun hc31 => ?_) (fun hc31 => ?_)
    · have h := (if_neg hc31).symm.trans h
      refine ok_iload_n dX12_behindOne_22 0 rfl ?_
      obtain ⟨r32, hr33, h⟩ := bd h
      refine ok_callS (d := ((d + 3) + 2)) (mt := m12_rank) (mc := 0) (ms := 0) (As := [.int r1]) (r := [.ref a0]) dX12_behindOne_23 mo12_rank mv12_rank lkRX12_168 rfl rfl (Nat.le_of_ble_eq_true rfl) (by show _ + 1 ≤ d + _; omega) (Nat.le_refl _) (Nat.le_refl _) (pRt_mono ?_)
      refine k12_rank (d + 3) hW  hr33 ?_
      intro _
      show Ok g _ Qx 26 [(1, .int r1), (0, .ref a0)] [.int r32, .ref a0] (Z, I, L, O)
      refine ok_sub [1, 0] rfl ?_
      exact o12_behindOne_c26 d hW hQ  I L a0 r1 r32 a0 hZ0 hZ0 h
    · have h := (if_pos hc31).symm.trans h
      refine ok_iconst (v := 5) dX12_behindOne_18 (by decide) ?_
      refine ok_goto (t := 26) dX12_behindOne_19 (by decide) ?_
      refine ok_sub [1, 0] rfl ?_
      exact o12_behindOne_c26 d hW hQ  I L a0 r1 (5 : Int32) a0 hZ0 hZ0 h
theorem k12_behindOne {g : pG} {Q : Option Value → pW → Prop} {Z : pZ} {I : (Nat → Nat → Int32)} {L : (Nat → Nat → Int64)} {O : (Nat → Nat → Option Nat)} {n : Nat} {a0 : Nat} {res : Int32 × (Nat → Nat → Int32) × (Nat → Nat → Int64)} (d : Nat) (hW : WT Z O) (hZ0 : Z[a0]? = some (12, 34)) (h : f12_behindOne n I L O a0 = some res) (hQ : Q (some (.int res.1)) (Z, res.2.1, res.2.2, O)) : CT g (d + 6) m12_behindOne 0 0 [.ref a0] (Z, I, L, O) Q :=
  ct_of_ok (mt := m12_behindOne) (ini := false) mo12_behindOne.2.2.2.2 (fun h => by cases h) (Nat.le_of_ble_eq_true rfl) (o12_behindOne d hW hZ0 h (fun hb => ⟨hb, hQ, rfl, rfl⟩))
theorem dX12_summed_0 : decode cX12_summed 0 = .ok (.aload_n 0, 1) := by decide +kernel
theorem dX12_summed_1 : decode cX12_summed 1 = .ok (.iconst 0, 1) := by decide +kernel
theorem dX12_summed_2 : decode cX12_summed 2 = .ok (.putfield 165, 3) := by decide +kernel
theorem dX12_summed_5 : decode cX12_summed 5 = .ok (.aload_n 0, 1) := by decide +kernel
theorem dX12_summed_6 : decode cX12_summed 6 = .ok (.iconst 0, 1) := by decide +kernel
theorem dX12_summed_7 : decode cX12_summed 7 = .ok (.putfield 175, 3) := by decide +kernel
theorem dX12_summed_10 : decode cX12_summed 10 = .ok (.aload_n 0, 1) := by decide +kernel
theorem dX12_summed_11 : decode cX12_summed 11 = .ok (.iconst 0, 1) := by decide +kernel
theorem dX12_summed_12 : decode cX12_summed 12 = .ok (.putfield 194, 3) := by decide +kernel
theorem dX12_summed_15 : decode cX12_summed 15 = .ok (.aload_n 0, 1) := by decide +kernel
theorem dX12_summed_16 : decode cX12_summed 16 = .ok (.getfield 194, 3) := by decide +kernel
theorem dX12_summed_19 : decode cX12_summed 19 = .ok (.ifCond .eq 29, 3) := by decide +kernel
theorem dX12_summed_22 : decode cX12_summed 22 = .ok (.aload_n 0, 1) := by decide +kernel
theorem dX12_summed_23 : decode cX12_summed 23 = .ok (.invokevirtual 223, 3) := by decide +kernel
theorem dX12_summed_26 : decode cX12_summed 26 = .ok (.ifCond .eq 6, 3) := by decide +kernel
theorem dX12_summed_29 : decode cX12_summed 29 = .ok (.goto (-14), 3) := by decide +kernel
theorem dX12_summed_32 : decode cX12_summed 32 = .ok (.aload_n 0, 1) := by decide +kernel
theorem dX12_summed_33 : decode cX12_summed 33 = .ok (.invokevirtual 182, 3) := by decide +kernel
theorem dX12_summed_36 : decode cX12_summed 36 = .ok (.ifCond .lt 5, 3) := by decide +kernel
theorem dX12_summed_39 : decode cX12_summed 39 = .ok (.iconst 1, 1) := by decide +kernel
theorem dX12_summed_40 : decode cX12_summed 40 = .ok (.ireturn, 1) := by decide +kernel
theorem dX12_summed_41 : decode cX12_summed 41 = .ok (.aload_n 0, 1) := by decide +kernel
theorem dX12_summed_42 : decode cX12_summed 42 = .ok (.iconst 1, 1) := by decide +kernel
theorem dX12_summed_43 : decode cX12_summed 43 = .ok (.invokevirtual 197, 3) := by decide +kernel
theorem dX12_summed_46 : decode cX12_summed 46 = .ok (.iconst 0, 1) := by decide +kernel
theorem dX12_summed_47 : decode cX12_summed 47 = .ok (.ireturn, 1) := by decide +kernel
theorem dX12_summed_48 : decode cX12_summed 48 = .ok (.aload_n 0, 1) := by decide +kernel
theorem dX12_summed_49 : decode cX12_summed 49 = .ok (.invokevirtual 226, 3) := by decide +kernel
theorem dX12_summed_52 : decode cX12_summed 52 = .ok (.istore_n 1, 1) := by decide +kernel
theorem dX12_summed_53 : decode cX12_summed 53 = .ok (.iload_n 1, 1) := by decide +kernel
theorem dX12_summed_54 : decode cX12_summed 54 = .ok (.ifCond .eq 5, 3) := by decide +kernel
theorem dX12_summed_57 : decode cX12_summed 57 = .ok (.iload_n 1, 1) := by decide +kernel
theorem dX12_summed_58 : decode cX12_summed 58 = .ok (.ireturn, 1) := by decide +kernel
theorem dX12_summed_59 : decode cX12_summed 59 = .ok (.goto (-44), 3) := by decide +kernel
def m12_summed : pMT := (yX12_summed, cX12_summed, 2, some .int)
theorem mo12_summed : mOK m12_summed 0 := ⟨tb_i 1528 (by decide +kernel), wi_RX12, ⟨wn_RX12.1, wn_RX12.2, by decide +kernel⟩, by decide, plainFor_of_name wp_RX12⟩
theorem mv12_summed : mV m12_summed := ⟨tb_i 1527 (by decide +kernel), tb_p 72 (by decide +kernel)⟩
def f12_summed_c15 (n : Nat) (O : (Nat → Nat → Option Nat)) : Nat → (Nat → Nat → Int32) → (Nat → Nat → Int64) → Nat → Option (Int32 × (Nat → Nat → Int32) × (Nat → Nat → Int64))
  | 0, _, _, _ => none
  | m + 1, I, L, b0 => (if (I b0 18) = 0 then (f12_beginOne n I L O b0).bind fun r2 => (if r2.1 = 0 then f12_summed_c15 n O m r2.2.1 r2.2.2 b0 else some (r2.1, r2.2.1, r2.2.2)) else (f12_behindOne n I L O b0).bind fun r5 => (if r5.1 = 0 then (f12_openNow n r5.2.1 O b0).bind fun r8 => (if r8 < 0 then (f12_settle n r5.2.1 O b0 (1 : Int32)).bind fun r11 => some ((0 : Int32), r11, r5.2.2) else some ((1 : Int32), r5.2.1, r5.2.2)) else f12_summed_c15 n O m r5.2.1 r5.2.2 b0))
set_option maxHeartbeats 4000000 in
set_option maxRecDepth 20000 in
theorem o12_summed_c15 {g : pG} {Qx : Option Value → pW → Prop} {Z : pZ} {O : (Nat → Nat → Option Nat)} {n : Nat} {res : Int32 × (Nat → Nat → Int32) × (Nat → Nat → Int64)} (d : Nat) (hW : WT Z O) (hQ : Qx (some (.int res.1)) (Z, res.2.1, res.2.2, O)) : ∀ (m : Nat) (I : (Nat → Nat → Int32)) (L : (Nat → Nat → Int64)) (b0 : Nat), (Z[b0]? = some (12, 34)) → f12_summed_c15 n O m I L b0 = some res → Ok g (d + 9, RX12, cX12_summed, 2, false, 0, 0, Z.length, pSl Z) Qx 15 [(0, .ref b0)] [] (Z, I, L, O) := by
  intro m
  induction m with
  | zero => intro I L b0 hZ_b0 h; rw [f12_summed_c15] at h; cases h
  | succ m ih =>
    intro I L b0 hZ_b0 h
    rw [f12_summed_c15] at h
    refine ok_aload_n dX12_summed_15 0 rfl ?_
    refine ok_getI (ci := 12) (k := 18) dX12_summed_16 flRX12_194 rfl hZ_b0 (by decide) ?_
    refine ok_if_eq (t := 48) dX12_summed_19 (by decide) (fun hc1 => ?_) (fun hc1 => ?_)
    · have h := (if_pos hc1).symm.trans h
      refine ok_aload_n dX12_summed_48 0 rfl ?_
      obtain ⟨r2, hr3, h⟩ := bd h
      refine ok_callV (d := ((d + 0) + 8)) (mt := m12_beginOne) (mc := 0) (ms := 0) (As := []) (r := []) dX12_summed_49 mo12_beginOne mv12_beginOne lkRX12_226 rfl hZ_b0 (q := (RX12, TX12, 34)) rfl rfl rfl (Nat.le_of_ble_eq_true rfl) (by show _ + 1 ≤ d + _; omega) (Nat.le_refl _) (Nat.le_refl _) (pRt_mono ?_)
      refine k12_beginOne (d + 0) hW hZ_b0 hr3 ?_
      intro _
      show Ok g _ Qx 52 [(0, .ref b0)] [.int r2.1] (Z, r2.2.1, r2.2.2, O)
      refine ok_istore_n (l' := [(1, .int r2.1), (0, .ref b0)]) dX12_summed_52 rfl (Nat.le_of_ble_eq_true rfl) rfl ?_
      refine ok_iload_n dX12_summed_53 0 rfl ?_
      refine ok_if_eq (t := 59) dX12_summed_54 (by decide) (fun hc4 => ?_) (fun hc4 => ?_)
      · have h := (if_pos hc4).symm.trans h
        refine ok_goto (t := 15) dX12_summed_59 (by decide) ?_
        refine ok_sub [1] rfl ?_
        exact ih r2.2.1 r2.2.2 b0 hZ_b0 h
      · have h := (if_neg hc4).symm.trans h
        refine ok_iload_n dX12_summed_57 0 rfl ?_
        cases h
        exact ok_iret dX12_summed_58 hQ
    · have h := (if_neg hc1).symm.trans h
      refine ok_aload_n dX12_summed_22 0 rfl ?_
      obtain ⟨r5, hr6, h⟩ := bd h
      refine ok_callV (d := ((d + 2) + 6)) (mt := m12_behindOne) (mc := 0) (ms := 0) (As := []) (r := []) dX12_summed_23 mo12_behindOne mv12_behindOne lkRX12_223 rfl hZ_b0 (q := (RX12, TX12, 34)) rfl rfl rfl (Nat.le_of_ble_eq_true rfl) (by show _ + 1 ≤ d + _; omega) (Nat.le_refl _) (Nat.le_refl _) (pRt_mono ?_)
      refine k12_behindOne (d + 2) hW hZ_b0 hr6 ?_
      intro hbr5
      show Ok g _ Qx 26 [(0, .ref b0)] [.int r5.1] (Z, r5.2.1, r5.2.2, O)
      refine ok_if_eq (t := 32) dX12_summed_26 (by decide) (fun hc7 => ?_) (fun hc7 => ?_)
      · have h := (if_pos hc7).symm.trans h
        refine ok_aload_n dX12_summed_32 0 rfl ?_
        obtain ⟨r8, hr9, h⟩ := bd h
        refine ok_callV (d := ((d + 5) + 3)) (mt := m12_openNow) (mc := 0) (ms := 0) (As := []) (r := []) dX12_summed_33 mo12_openNow mv12_openNow lkRX12_182 rfl hZ_b0 (q := (RX12, TX12, 34)) rfl rfl rfl (Nat.le_of_ble_eq_true rfl) (by show _ + 1 ≤ d + _; omega) (Nat.le_refl _) (Nat.le_refl _) (pRt_mono ?_)
        refine k12_openNow (d + 5) hW hZ_b0 hr9 ?_
        intro _
        show Ok g _ Qx 36 [(0, .ref b0)] [.int r8] (Z, r5.2.1, r5.2.2, O)
        refine ok_if_lt (t := 41) dX12_summed_36 (by decide) (fun hc10 => ?_) (fun hc10 => ?_)
        · have h := (if_pos hc10).symm.trans h
          refine ok_aload_n dX12_summed_41 0 rfl ?_
          refine ok_iconst (v := 1) dX12_summed_42 (by decide) ?_
          obtain ⟨r11, hr12, h⟩ := bd h
          refine ok_callV (d := ((d + 5) + 3)) (mt := m12_settle) (mc := 0) (ms := 0) (As := [.int 1]) (r := []) dX12_summed_43 mo12_settle mv12_settle lkRX12_197 rfl hZ_b0 (q := (RX12, TX12, 34)) rfl rfl rfl (Nat.le_of_ble_eq_true rfl) (by show _ + 1 ≤ d + _; omega) (Nat.le_refl _) (Nat.le_refl _) (pRt_mono ?_)
          refine k12_settle (d + 5) hW hZ_b0 hr12 ?_
          intro _
          show Ok g _ Qx 46 [(0, .ref b0)] [] (Z, r11, r5.2.2, O)
          refine ok_iconst (v := 0) dX12_summed_46 (by decide) ?_
          cases h
          exact ok_iret dX12_summed_47 hQ
        · have h := (if_neg hc10).symm.trans h
          refine ok_iconst (v := 1) dX12_summed_39 (by decide) ?_
          cases h
          exact ok_iret dX12_summed_40 hQ
      · have h := (if_neg hc7).symm.trans h
        refine ok_goto (t := 15) dX12_summed_29 (by decide) ?_
        refine ok_sub [0] rfl ?_
        exact ih r5.2.1 r5.2.2 b0 hZ_b0 h
def f12_summed (n : Nat) (I : (Nat → Nat → Int32)) (L : (Nat → Nat → Int64)) (O : (Nat → Nat → Option Nat)) (a0 : Nat) : Option (Int32 × (Nat → Nat → Int32) × (Nat → Nat → Int64)) := bl (sI I a0 16 (0 : Int32)) fun I1 => bl (sI I1 a0 17 (0 : Int32)) fun I2 => bl (sI I2 a0 18 (0 : Int32)) fun I3 => f12_summed_c15 n O n I3 L a0
set_option maxHeartbeats 4000000 in
set_option maxRecDepth 20000 in
theorem o12_summed {g : pG} {Qx : Option Value → pW → Prop} {Z : pZ} {I : (Nat → Nat → Int32)} {L : (Nat → Nat → Int64)} {O : (Nat → Nat → Option Nat)} {n : Nat} {a0 : Nat} {res : Int32 × (Nat → Nat → Int32) × (Nat → Nat → Int64)} (d : Nat) (hW : WT Z O) (hZ0 : Z[a0]? = some (12, 34)) (h : f12_summed n I L O a0 = some res) (hQ : Qx (some (.int res.1)) (Z, res.2.1, res.2.2, O)) : Ok g (d + 9, RX12, cX12_summed, 2, false, 0, 0, Z.length, pSl Z) Qx 0 [(0, .ref a0)] [] (Z, I, L, O) := by
  unfold f12_summed at h
  refine ok_aload_n dX12_summed_0 0 rfl ?_
  refine ok_iconst (v := 0) dX12_summed_1 (by decide) ?_
  obtain ⟨I1, eI1, h⟩ := blE h
  refine ok_putI2 (ci := 12) (k := 16) dX12_summed_2 flRX12_165 rfl (Or.inl rfl) hZ0 (by decide) eI1 ?_
  refine ok_aload_n dX12_summed_5 0 rfl ?_
  refine ok_iconst (v := 0) dX12_summed_6 (by decide) ?_
  obtain ⟨I2, eI2, h⟩ := blE h
  refine ok_putI2 (ci := 12) (k := 17) dX12_summed_7 flRX12_175 rfl (Or.inl rfl) hZ0 (by decide) eI2 ?_
  refine ok_aload_n dX12_summed_10 0 rfl ?_
  refine ok_iconst (v := 0) dX12_summed_11 (by decide) ?_
  obtain ⟨I3, eI3, h⟩ := blE h
  refine ok_putZ2 (ci := 12) (k := 18) dX12_summed_12 flRX12_194 rfl (Or.inl rfl) hZ0 (by decide) (Or.inl rfl) eI3 ?_
  refine ok_sub [0] rfl ?_
  exact o12_summed_c15 d hW hQ  n I3 L a0 hZ0 h
theorem k12_summed {g : pG} {Q : Option Value → pW → Prop} {Z : pZ} {I : (Nat → Nat → Int32)} {L : (Nat → Nat → Int64)} {O : (Nat → Nat → Option Nat)} {n : Nat} {a0 : Nat} {res : Int32 × (Nat → Nat → Int32) × (Nat → Nat → Int64)} (d : Nat) (hW : WT Z O) (hZ0 : Z[a0]? = some (12, 34)) (h : f12_summed n I L O a0 = some res) (hQ : Q (some (.int res.1)) (Z, res.2.1, res.2.2, O)) : CT g (d + 9) m12_summed 0 0 [.ref a0] (Z, I, L, O) Q :=
  ct_of_ok (mt := m12_summed) (ini := false) mo12_summed.2.2.2.2 (fun h => by cases h) (Nat.le_of_ble_eq_true rfl) (o12_summed d hW hZ0 h ⟨trivial, hQ, rfl, rfl⟩)
theorem dX12_figure_0 : decode cX12_figure 0 = .ok (.aload_n 0, 1) := by decide +kernel
theorem dX12_figure_1 : decode cX12_figure 1 = .ok (.getfield 114, 3) := by decide +kernel
theorem dX12_figure_4 : decode cX12_figure 4 = .ok (.iconst 1, 1) := by decide +kernel
theorem dX12_figure_5 : decode cX12_figure 5 = .ok (.if_icmp .eq 5, 3) := by decide +kernel
theorem dX12_figure_8 : decode cX12_figure 8 = .ok (.iconst 1, 1) := by decide +kernel
theorem dX12_figure_9 : decode cX12_figure 9 = .ok (.ireturn, 1) := by decide +kernel
theorem dX12_figure_10 : decode cX12_figure 10 = .ok (.aload_n 0, 1) := by decide +kernel
theorem dX12_figure_11 : decode cX12_figure 11 = .ok (.getfield 120, 3) := by decide +kernel
theorem dX12_figure_14 : decode cX12_figure 14 = .ok (.iload_n 2, 1) := by decide +kernel
theorem dX12_figure_15 : decode cX12_figure 15 = .ok (.iload_n 3, 1) := by decide +kernel
theorem dX12_figure_16 : decode cX12_figure 16 = .ok (.invokestatic 75, 3) := by decide +kernel
theorem dX12_figure_19 : decode cX12_figure 19 = .ok (.ifCond .ne 5, 3) := by decide +kernel
theorem dX12_figure_22 : decode cX12_figure 22 = .ok (.iconst 2, 1) := by decide +kernel
theorem dX12_figure_23 : decode cX12_figure 23 = .ok (.ireturn, 1) := by decide +kernel
theorem dX12_figure_24 : decode cX12_figure 24 = .ok (.aload_n 0, 1) := by decide +kernel
theorem dX12_figure_25 : decode cX12_figure 25 = .ok (.getfield 16, 3) := by decide +kernel
theorem dX12_figure_28 : decode cX12_figure 28 = .ok (.iload_n 1, 1) := by decide +kernel
theorem dX12_figure_29 : decode cX12_figure 29 = .ok (.aload_n 0, 1) := by decide +kernel
theorem dX12_figure_30 : decode cX12_figure 30 = .ok (.getfield 120, 3) := by decide +kernel
theorem dX12_figure_33 : decode cX12_figure 33 = .ok (.iastore, 1) := by decide +kernel
theorem dX12_figure_34 : decode cX12_figure 34 = .ok (.aload_n 0, 1) := by decide +kernel
theorem dX12_figure_35 : decode cX12_figure 35 = .ok (.invokevirtual 185, 3) := by decide +kernel
theorem dX12_figure_38 : decode cX12_figure 38 = .ok (.iconst 0, 1) := by decide +kernel
theorem dX12_figure_39 : decode cX12_figure 39 = .ok (.ireturn, 1) := by decide +kernel
def m12_figure : pMT := (yX12_figure, cX12_figure, 4, some .int)
theorem mo12_figure : mOK m12_figure 3 := ⟨tb_i 1516 (by decide +kernel), wi_RX12, ⟨wn_RX12.1, wn_RX12.2, by decide +kernel⟩, by decide, plainFor_of_name wp_RX12⟩
theorem mv12_figure : mV m12_figure := ⟨tb_i 1515 (by decide +kernel), tb_p 69 (by decide +kernel)⟩
def f12_figure (n : Nat) (I : (Nat → Nat → Int32)) (L : (Nat → Nat → Int64)) (O : (Nat → Nat → Option Nat)) (a0 : Nat) (x1 : Int32) (x2 : Int32) (x3 : Int32) : Option (Int32 × (Nat → Nat → Int32) × (Nat → Nat → Int64)) := (if (I a0 9) = (1 : Int32) then (f12_isIn (I a0 10) x2 x3).bind fun r2 => (if r2 = 0 then some ((2 : Int32), I, L) else (if x1 < 0 ∨ 4260 ≤ x1.toNatClampNeg then none else bl (sI I (rO O a0 2) x1.toNatClampNeg (I a0 10)) fun I7 => (f12_nextToken n I7 L O a0).bind fun r8 => some ((0 : Int32), r8.1, r8.2))) else some ((1 : Int32), I, L))
set_option maxHeartbeats 4000000 in
set_option maxRecDepth 20000 in
theorem o12_figure {g : pG} {Qx : Option Value → pW → Prop} {Z : pZ} {I : (Nat → Nat → Int32)} {L : (Nat → Nat → Int64)} {O : (Nat → Nat → Option Nat)} {n : Nat} {a0 : Nat} {x1 : Int32} {x2 : Int32} {x3 : Int32} {res : Int32 × (Nat → Nat → Int32) × (Nat → Nat → Int64)} (d : Nat) (hW : WT Z O) (hZ0 : Z[a0]? = some (12, 34)) (h : f12_figure n I L O a0 x1 x2 x3 = some res) (hQ : Qx (some (.int res.1)) (Z, res.2.1, res.2.2, O)) : Ok g (d + 4, RX12, cX12_figure, 4, false, 0, 0, Z.length, pSl Z) Qx 0 [(0, .ref a0), (1, .int x1), (2, .int x2), (3, .int x3)] [] (Z, I, L, O) := by
  unfold f12_figure at h
  refine ok_aload_n dX12_figure_0 0 rfl ?_
  refine ok_getI (ci := 12) (k := 9) dX12_figure_1 flRX12_114 rfl hZ0 (by decide) ?_
  refine ok_iconst (v := 1) dX12_figure_4 (by decide) ?_
  refine ok_icmp_eq (t := 10) dX12_figure_5 (by decide) (fun hc1 => ?_) (fun hc1 => ?_)
  · have h := (if_pos hc1).symm.trans h
    refine ok_aload_n dX12_figure_10 0 rfl ?_
    refine ok_getI (ci := 12) (k := 10) dX12_figure_11 flRX12_120 rfl hZ0 (by decide) ?_
    refine ok_iload_n dX12_figure_14 2 rfl ?_
    refine ok_iload_n dX12_figure_15 3 rfl ?_
    obtain ⟨r2, hr3, h⟩ := bd h
    refine ok_callS (d := ((d + 1) + 2)) (mt := m12_isIn) (mc := 0) (ms := 0) (As := [.int (I a0 10), .int x2, .int x3]) (r := []) dX12_figure_16 mo12_isIn mv12_isIn lkRX12_75 rfl rfl (Nat.le_of_ble_eq_true rfl) (by show _ + 1 ≤ d + _; omega) (Nat.le_refl _) (Nat.le_refl _) (pRt_mono ?_)
    refine k12_isIn (d + 1) hW  hr3 ?_
    intro hbr2
    show Ok g _ Qx 19 [(0, .ref a0), (1, .int x1), (2, .int x2), (3, .int x3)] [.int r2] (Z, I, L, O)
    refine ok_if_ne (t := 24) dX12_figure_19 (by decide) (fun hc4 => ?_) (fun hc4 => ?_)
    · have h := (if_neg hc4).symm.trans h
      refine ok_aload_n dX12_figure_24 0 rfl ?_
      have hT5 : Z[(rO O a0 2)]? = some (13, 4260) := (wt_f (ci := 12) (k := 2) hW hZ0 rfl).2
      refine ok_getR (ci := 12) (k := 2) dX12_figure_25 flRX12_16 rfl hW hZ0 (by decide) ?_
      refine ok_iload_n dX12_figure_28 1 rfl ?_
      refine ok_aload_n dX12_figure_29 0 rfl ?_
      refine ok_getI (ci := 12) (k := 10) dX12_figure_30 flRX12_120 rfl hZ0 (by decide) ?_
      obtain ⟨hg6, h⟩ := gd h
      obtain ⟨I7, eI7, h⟩ := blE h
      refine ok_iast3 dX12_figure_33 hT5 hg6 rfl eI7 ?_
      refine ok_aload_n dX12_figure_34 0 rfl ?_
      obtain ⟨r8, hr9, h⟩ := bd h
      refine ok_callV (d := ((d + 0) + 3)) (mt := m12_nextToken) (mc := 0) (ms := 0) (As := []) (r := []) dX12_figure_35 mo12_nextToken mv12_nextToken lkRX12_185 rfl hZ0 (q := (RX12, TX12, 34)) rfl rfl rfl (Nat.le_of_ble_eq_true rfl) (by show _ + 1 ≤ d + _; omega) (Nat.le_refl _) (Nat.le_refl _) (pRt_mono ?_)
      refine k12_nextToken (d + 0) hW hZ0 hr9 ?_
      intro _
      show Ok g _ Qx 38 [(0, .ref a0), (1, .int x1), (2, .int x2), (3, .int x3)] [] (Z, r8.1, r8.2, O)
      refine ok_iconst (v := 0) dX12_figure_38 (by decide) ?_
      cases h
      exact ok_iret dX12_figure_39 hQ
    · have h := (if_pos hc4).symm.trans h
      refine ok_iconst (v := 2) dX12_figure_22 (by decide) ?_
      cases h
      exact ok_iret dX12_figure_23 hQ
  · have h := (if_neg hc1).symm.trans h
    refine ok_iconst (v := 1) dX12_figure_8 (by decide) ?_
    cases h
    exact ok_iret dX12_figure_9 hQ
theorem k12_figure {g : pG} {Q : Option Value → pW → Prop} {Z : pZ} {I : (Nat → Nat → Int32)} {L : (Nat → Nat → Int64)} {O : (Nat → Nat → Option Nat)} {n : Nat} {a0 : Nat} {x1 : Int32} {x2 : Int32} {x3 : Int32} {res : Int32 × (Nat → Nat → Int32) × (Nat → Nat → Int64)} (d : Nat) (hW : WT Z O) (hZ0 : Z[a0]? = some (12, 34)) (h : f12_figure n I L O a0 x1 x2 x3 = some res) (hQ : Q (some (.int res.1)) (Z, res.2.1, res.2.2, O)) : CT g (d + 4) m12_figure 0 0 [.ref a0, .int x1, .int x2, .int x3] (Z, I, L, O) Q :=
  ct_of_ok (mt := m12_figure) (ini := false) mo12_figure.2.2.2.2 (fun h => by cases h) (Nat.le_of_ble_eq_true rfl) (o12_figure d hW hZ0 h ⟨trivial, hQ, rfl, rfl⟩)
theorem dX12_lawClause_0 : decode cX12_lawClause 0 = .ok (.aload_n 0, 1) := by decide +kernel
theorem dX12_lawClause_1 : decode cX12_lawClause 1 = .ok (.getfield 16, 3) := by decide +kernel
theorem dX12_lawClause_4 : decode cX12_lawClause 4 = .ok (.iload_n 1, 1) := by decide +kernel
theorem dX12_lawClause_5 : decode cX12_lawClause 5 = .ok (.iconst 1, 1) := by decide +kernel
theorem dX12_lawClause_6 : decode cX12_lawClause 6 = .ok (.iadd, 1) := by decide +kernel
theorem dX12_lawClause_7 : decode cX12_lawClause 7 = .ok (.aload_n 0, 1) := by decide +kernel
theorem dX12_lawClause_8 : decode cX12_lawClause 8 = .ok (.getfield 155, 3) := by decide +kernel
theorem dX12_lawClause_11 : decode cX12_lawClause 11 = .ok (.iastore, 1) := by decide +kernel
theorem dX12_lawClause_12 : decode cX12_lawClause 12 = .ok (.aload_n 0, 1) := by decide +kernel
theorem dX12_lawClause_13 : decode cX12_lawClause 13 = .ok (.invokevirtual 229, 3) := by decide +kernel
theorem dX12_lawClause_16 : decode cX12_lawClause 16 = .ok (.istore_n 2, 1) := by decide +kernel
theorem dX12_lawClause_17 : decode cX12_lawClause 17 = .ok (.aload_n 0, 1) := by decide +kernel
theorem dX12_lawClause_18 : decode cX12_lawClause 18 = .ok (.getfield 16, 3) := by decide +kernel
theorem dX12_lawClause_21 : decode cX12_lawClause 21 = .ok (.iload_n 1, 1) := by decide +kernel
theorem dX12_lawClause_22 : decode cX12_lawClause 22 = .ok (.iconst 2, 1) := by decide +kernel
theorem dX12_lawClause_23 : decode cX12_lawClause 23 = .ok (.iadd, 1) := by decide +kernel
theorem dX12_lawClause_24 : decode cX12_lawClause 24 = .ok (.aload_n 0, 1) := by decide +kernel
theorem dX12_lawClause_25 : decode cX12_lawClause 25 = .ok (.getfield 155, 3) := by decide +kernel
theorem dX12_lawClause_28 : decode cX12_lawClause 28 = .ok (.iastore, 1) := by decide +kernel
theorem dX12_lawClause_29 : decode cX12_lawClause 29 = .ok (.iload_n 2, 1) := by decide +kernel
theorem dX12_lawClause_30 : decode cX12_lawClause 30 = .ok (.ireturn, 1) := by decide +kernel
def m12_lawClause : pMT := (yX12_lawClause, cX12_lawClause, 3, some .int)
theorem mo12_lawClause : mOK m12_lawClause 1 := ⟨tb_i 1524 (by decide +kernel), wi_RX12, ⟨wn_RX12.1, wn_RX12.2, by decide +kernel⟩, by decide, plainFor_of_name wp_RX12⟩
theorem mv12_lawClause : mV m12_lawClause := ⟨tb_i 1523 (by decide +kernel), tb_p 71 (by decide +kernel)⟩
def f12_lawClause (n : Nat) (I : (Nat → Nat → Int32)) (L : (Nat → Nat → Int64)) (O : (Nat → Nat → Option Nat)) (a0 : Nat) (x1 : Int32) : Option (Int32 × (Nat → Nat → Int32) × (Nat → Nat → Int64)) := (if (x1 + 1) < 0 ∨ 4260 ≤ (x1 + 1).toNatClampNeg then none else bl (sI I (rO O a0 2) (x1 + 1).toNatClampNeg (I a0 13)) fun I3 => (f12_summed n I3 L O a0).bind fun r4 => (if (x1 + 2) < 0 ∨ 4260 ≤ (x1 + 2).toNatClampNeg then none else bl (sI r4.2.1 (rO O a0 2) (x1 + 2).toNatClampNeg (r4.2.1 a0 13)) fun I7 => some (r4.1, I7, r4.2.2)))
set_option maxHeartbeats 4000000 in
set_option maxRecDepth 20000 in
theorem o12_lawClause {g : pG} {Qx : Option Value → pW → Prop} {Z : pZ} {I : (Nat → Nat → Int32)} {L : (Nat → Nat → Int64)} {O : (Nat → Nat → Option Nat)} {n : Nat} {a0 : Nat} {x1 : Int32} {res : Int32 × (Nat → Nat → Int32) × (Nat → Nat → Int64)} (d : Nat) (hW : WT Z O) (hZ0 : Z[a0]? = some (12, 34)) (h : f12_lawClause n I L O a0 x1 = some res) (hQ : Qx (some (.int res.1)) (Z, res.2.1, res.2.2, O)) : Ok g (d + 10, RX12, cX12_lawClause, 3, false, 0, 0, Z.length, pSl Z) Qx 0 [(0, .ref a0), (1, .int x1)] [] (Z, I, L, O) := by
  unfold f12_lawClause at h
  refine ok_aload_n dX12_lawClause_0 0 rfl ?_
  have hT1 : Z[(rO O a0 2)]? = some (13, 4260) := (wt_f (ci := 12) (k := 2) hW hZ0 rfl).2
  refine ok_getR (ci := 12) (k := 2) dX12_lawClause_1 flRX12_16 rfl hW hZ0 (by decide) ?_
  refine ok_iload_n dX12_lawClause_4 1 rfl ?_
  refine ok_iconst (v := 1) dX12_lawClause_5 (by decide) ?_
  refine ok_iadd dX12_lawClause_6 ?_
  refine ok_aload_n dX12_lawClause_7 0 rfl ?_
  refine ok_getI (ci := 12) (k := 13) dX12_lawClause_8 flRX12_155 rfl hZ0 (by decide) ?_
  obtain ⟨hg2, h⟩ := gd h
  obtain ⟨I3, eI3, h⟩ := blE h
  refine ok_iast3 dX12_lawClause_11 hT1 hg2 rfl eI3 ?_
  refine ok_aload_n dX12_lawClause_12 0 rfl ?_
  obtain ⟨r4, hr5, h⟩ := bd h
  refine ok_callV (d := ((d + 0) + 9)) (mt := m12_summed) (mc := 0) (ms := 0) (As := []) (r := []) dX12_lawClause_13 mo12_summed mv12_summed lkRX12_229 rfl hZ0 (q := (RX12, TX12, 34)) rfl rfl rfl (Nat.le_of_ble_eq_true rfl) (by show _ + 1 ≤ d + _; omega) (Nat.le_refl _) (Nat.le_refl _) (pRt_mono ?_)
  refine k12_summed (d + 0) hW hZ0 hr5 ?_
  intro _
  show Ok g _ Qx 16 [(0, .ref a0), (1, .int x1)] [.int r4.1] (Z, r4.2.1, r4.2.2, O)
  refine ok_istore_n (l' := [(2, .int r4.1), (0, .ref a0), (1, .int x1)]) dX12_lawClause_16 rfl (Nat.le_of_ble_eq_true rfl) rfl ?_
  refine ok_aload_n dX12_lawClause_17 1 rfl ?_
  refine ok_getR (ci := 12) (k := 2) dX12_lawClause_18 flRX12_16 rfl hW hZ0 (by decide) ?_
  refine ok_iload_n dX12_lawClause_21 2 rfl ?_
  refine ok_iconst (v := 2) dX12_lawClause_22 (by decide) ?_
  refine ok_iadd dX12_lawClause_23 ?_
  refine ok_aload_n dX12_lawClause_24 1 rfl ?_
  refine ok_getI (ci := 12) (k := 13) dX12_lawClause_25 flRX12_155 rfl hZ0 (by decide) ?_
  obtain ⟨hg6, h⟩ := gd h
  obtain ⟨I7, eI7, h⟩ := blE h
  refine ok_iast3 dX12_lawClause_28 hT1 hg6 rfl eI7 ?_
  refine ok_iload_n dX12_lawClause_29 0 rfl ?_
  cases h
  exact ok_iret dX12_lawClause_30 hQ
theorem k12_lawClause {g : pG} {Q : Option Value → pW → Prop} {Z : pZ} {I : (Nat → Nat → Int32)} {L : (Nat → Nat → Int64)} {O : (Nat → Nat → Option Nat)} {n : Nat} {a0 : Nat} {x1 : Int32} {res : Int32 × (Nat → Nat → Int32) × (Nat → Nat → Int64)} (d : Nat) (hW : WT Z O) (hZ0 : Z[a0]? = some (12, 34)) (h : f12_lawClause n I L O a0 x1 = some res) (hQ : Q (some (.int res.1)) (Z, res.2.1, res.2.2, O)) : CT g (d + 10) m12_lawClause 0 0 [.ref a0, .int x1] (Z, I, L, O) Q :=
  ct_of_ok (mt := m12_lawClause) (ini := false) mo12_lawClause.2.2.2.2 (fun h => by cases h) (Nat.le_of_ble_eq_true rfl) (o12_lawClause d hW hZ0 h ⟨trivial, hQ, rfl, rfl⟩)
theorem dX12_pair_0 : decode cX12_pair 0 = .ok (.aload_n 0, 1) := by decide +kernel
theorem dX12_pair_1 : decode cX12_pair 1 = .ok (.iload_n 1, 1) := by decide +kernel
theorem dX12_pair_2 : decode cX12_pair 2 = .ok (.iconst 1, 1) := by decide +kernel
theorem dX12_pair_3 : decode cX12_pair 3 = .ok (.iadd, 1) := by decide +kernel
theorem dX12_pair_4 : decode cX12_pair 4 = .ok (.iload_n 2, 1) := by decide +kernel
theorem dX12_pair_5 : decode cX12_pair 5 = .ok (.iload_n 3, 1) := by decide +kernel
theorem dX12_pair_6 : decode cX12_pair 6 = .ok (.invokevirtual 232, 3) := by decide +kernel
theorem dX12_pair_9 : decode cX12_pair 9 = .ok (.istore 7, 2) := by decide +kernel
theorem dX12_pair_11 : decode cX12_pair 11 = .ok (.iload 7, 2) := by decide +kernel
theorem dX12_pair_13 : decode cX12_pair 13 = .ok (.ifCond .eq 6, 3) := by decide +kernel
theorem dX12_pair_16 : decode cX12_pair 16 = .ok (.iload 7, 2) := by decide +kernel
theorem dX12_pair_18 : decode cX12_pair 18 = .ok (.ireturn, 1) := by decide +kernel
theorem dX12_pair_19 : decode cX12_pair 19 = .ok (.aload_n 0, 1) := by decide +kernel
theorem dX12_pair_20 : decode cX12_pair 20 = .ok (.lload 4, 2) := by decide +kernel
theorem dX12_pair_22 : decode cX12_pair 22 = .ok (.invokevirtual 203, 3) := by decide +kernel
theorem dX12_pair_25 : decode cX12_pair 25 = .ok (.ifCond .ne 5, 3) := by decide +kernel
theorem dX12_pair_28 : decode cX12_pair 28 = .ok (.iconst 1, 1) := by decide +kernel
theorem dX12_pair_29 : decode cX12_pair 29 = .ok (.ireturn, 1) := by decide +kernel
theorem dX12_pair_30 : decode cX12_pair 30 = .ok (.aload_n 0, 1) := by decide +kernel
theorem dX12_pair_31 : decode cX12_pair 31 = .ok (.invokevirtual 185, 3) := by decide +kernel
theorem dX12_pair_34 : decode cX12_pair 34 = .ok (.aload_n 0, 1) := by decide +kernel
theorem dX12_pair_35 : decode cX12_pair 35 = .ok (.iload_n 1, 1) := by decide +kernel
theorem dX12_pair_36 : decode cX12_pair 36 = .ok (.iconst 2, 1) := by decide +kernel
theorem dX12_pair_37 : decode cX12_pair 37 = .ok (.iadd, 1) := by decide +kernel
theorem dX12_pair_38 : decode cX12_pair 38 = .ok (.iconst 0, 1) := by decide +kernel
theorem dX12_pair_39 : decode cX12_pair 39 = .ok (.iload 6, 2) := by decide +kernel
theorem dX12_pair_41 : decode cX12_pair 41 = .ok (.invokevirtual 232, 3) := by decide +kernel
theorem dX12_pair_44 : decode cX12_pair 44 = .ok (.ireturn, 1) := by decide +kernel
def m12_pair : pMT := (yX12_pair, cX12_pair, 8, some .int)
theorem mo12_pair : mOK m12_pair 5 := ⟨tb_i 1520 (by decide +kernel), wi_RX12, ⟨wn_RX12.1, wn_RX12.2, by decide +kernel⟩, by decide, plainFor_of_name wp_RX12⟩
theorem mv12_pair : mV m12_pair := ⟨tb_i 1519 (by decide +kernel), tb_p 70 (by decide +kernel)⟩
def f12_pair (n : Nat) (I : (Nat → Nat → Int32)) (L : (Nat → Nat → Int64)) (O : (Nat → Nat → Option Nat)) (a0 : Nat) (x1 : Int32) (x2 : Int32) (x3 : Int32) (x4 : Int64) (x6 : Int32) : Option (Int32 × (Nat → Nat → Int32) × (Nat → Nat → Int64)) := (f12_figure n I L O a0 (x1 + 1) x2 x3).bind fun r1 => (if r1.1 = 0 then (f12_isWord r1.2.1 r1.2.2 a0 x4).bind fun r4 => (if r4 = 0 then some ((1 : Int32), r1.2.1, r1.2.2) else (f12_nextToken n r1.2.1 r1.2.2 O a0).bind fun r7 => (f12_figure n r7.1 r7.2 O a0 (x1 + 2) (0 : Int32) x6).bind fun r9 => some (r9.1, r9.2.1, r9.2.2)) else some (r1.1, r1.2.1, r1.2.2))
set_option maxHeartbeats 4000000 in
set_option maxRecDepth 20000 in
theorem o12_pair {g : pG} {Qx : Option Value → pW → Prop} {Z : pZ} {I : (Nat → Nat → Int32)} {L : (Nat → Nat → Int64)} {O : (Nat → Nat → Option Nat)} {n : Nat} {a0 : Nat} {x1 : Int32} {x2 : Int32} {x3 : Int32} {x4 : Int64} {x6 : Int32} {res : Int32 × (Nat → Nat → Int32) × (Nat → Nat → Int64)} (d : Nat) (hW : WT Z O) (hZ0 : Z[a0]? = some (12, 34)) (h : f12_pair n I L O a0 x1 x2 x3 x4 x6 = some res) (hQ : Qx (some (.int res.1)) (Z, res.2.1, res.2.2, O)) : Ok g (d + 5, RX12, cX12_pair, 8, false, 0, 0, Z.length, pSl Z) Qx 0 [(0, .ref a0), (1, .int x1), (2, .int x2), (3, .int x3), (4, .long x4), (6, .int x6)] [] (Z, I, L, O) := by
  unfold f12_pair at h
  refine ok_aload_n dX12_pair_0 0 rfl ?_
  refine ok_iload_n dX12_pair_1 1 rfl ?_
  refine ok_iconst (v := 1) dX12_pair_2 (by decide) ?_
  refine ok_iadd dX12_pair_3 ?_
  refine ok_iload_n dX12_pair_4 2 rfl ?_
  refine ok_iload_n dX12_pair_5 3 rfl ?_
  obtain ⟨r1, hr2, h⟩ := bd h
  refine ok_callV (d := ((d + 0) + 4)) (mt := m12_figure) (mc := 0) (ms := 0) (As := [.int (x1 + 1), .int x2, .int x3]) (r := []) dX12_pair_6 mo12_figure mv12_figure lkRX12_232 rfl hZ0 (q := (RX12, TX12, 34)) rfl rfl rfl (Nat.le_of_ble_eq_true rfl) (by show _ + 1 ≤ d + _; omega) (Nat.le_refl _) (Nat.le_refl _) (pRt_mono ?_)
  refine k12_figure (d + 0) hW hZ0 hr2 ?_
  intro _
  show Ok g _ Qx 9 [(0, .ref a0), (1, .int x1), (2, .int x2), (3, .int x3), (4, .long x4), (6, .int x6)] [.int r1.1] (Z, r1.2.1, r1.2.2, O)
  refine ok_istore (l' := [(7, .int r1.1), (0, .ref a0), (1, .int x1), (2, .int x2), (3, .int x3), (4, .long x4), (6, .int x6)]) dX12_pair_9 (Nat.le_of_ble_eq_true rfl) rfl ?_
  refine ok_iload dX12_pair_11 0 rfl ?_
  refine ok_if_eq (t := 19) dX12_pair_13 (by decide) (fun hc3 => ?_) (fun hc3 => ?_)
  · have h := (if_pos hc3).symm.trans h
    refine ok_aload_n dX12_pair_19 1 rfl ?_
    refine ok_lload dX12_pair_20 5 rfl ?_
    obtain ⟨r4, hr5, h⟩ := bd h
    refine ok_callV (d := ((d + 2) + 2)) (mt := m12_isWord) (mc := 0) (ms := 0) (As := [.long x4]) (r := []) dX12_pair_22 mo12_isWord mv12_isWord lkRX12_203 rfl hZ0 (q := (RX12, TX12, 34)) rfl rfl rfl (Nat.le_of_ble_eq_true rfl) (by show _ + 1 ≤ d + _; omega) (Nat.le_refl _) (Nat.le_refl _) (pRt_mono ?_)
    refine k12_isWord (d + 2) hW hZ0 hr5 ?_
    intro hbr4
    show Ok g _ Qx 25 [(7, .int r1.1), (0, .ref a0), (1, .int x1), (2, .int x2), (3, .int x3), (4, .long x4), (6, .int x6)] [.int r4] (Z, r1.2.1, r1.2.2, O)
    refine ok_if_ne (t := 30) dX12_pair_25 (by decide) (fun hc6 => ?_) (fun hc6 => ?_)
    · have h := (if_neg hc6).symm.trans h
      refine ok_aload_n dX12_pair_30 1 rfl ?_
      obtain ⟨r7, hr8, h⟩ := bd h
      refine ok_callV (d := ((d + 1) + 3)) (mt := m12_nextToken) (mc := 0) (ms := 0) (As := []) (r := []) dX12_pair_31 mo12_nextToken mv12_nextToken lkRX12_185 rfl hZ0 (q := (RX12, TX12, 34)) rfl rfl rfl (Nat.le_of_ble_eq_true rfl) (by show _ + 1 ≤ d + _; omega) (Nat.le_refl _) (Nat.le_refl _) (pRt_mono ?_)
      refine k12_nextToken (d + 1) hW hZ0 hr8 ?_
      intro _
      show Ok g _ Qx 34 [(7, .int r1.1), (0, .ref a0), (1, .int x1), (2, .int x2), (3, .int x3), (4, .long x4), (6, .int x6)] [] (Z, r7.1, r7.2, O)
      refine ok_aload_n dX12_pair_34 1 rfl ?_
      refine ok_iload_n dX12_pair_35 2 rfl ?_
      refine ok_iconst (v := 2) dX12_pair_36 (by decide) ?_
      refine ok_iadd dX12_pair_37 ?_
      refine ok_iconst (v := 0) dX12_pair_38 (by decide) ?_
      refine ok_iload dX12_pair_39 6 rfl ?_
      obtain ⟨r9, hr10, h⟩ := bd h
      refine ok_callV (d := ((d + 0) + 4)) (mt := m12_figure) (mc := 0) (ms := 0) (As := [.int (x1 + 2), .int 0, .int x6]) (r := []) dX12_pair_41 mo12_figure mv12_figure lkRX12_232 rfl hZ0 (q := (RX12, TX12, 34)) rfl rfl rfl (Nat.le_of_ble_eq_true rfl) (by show _ + 1 ≤ d + _; omega) (Nat.le_refl _) (Nat.le_refl _) (pRt_mono ?_)
      refine k12_figure (d + 0) hW hZ0 hr10 ?_
      intro _
      show Ok g _ Qx 44 [(7, .int r1.1), (0, .ref a0), (1, .int x1), (2, .int x2), (3, .int x3), (4, .long x4), (6, .int x6)] [.int r9.1] (Z, r9.2.1, r9.2.2, O)
      cases h
      exact ok_iret dX12_pair_44 hQ
    · have h := (if_pos hc6).symm.trans h
      refine ok_iconst (v := 1) dX12_pair_28 (by decide) ?_
      cases h
      exact ok_iret dX12_pair_29 hQ
  · have h := (if_neg hc3).symm.trans h
    refine ok_iload dX12_pair_16 0 rfl ?_
    cases h
    exact ok_iret dX12_pair_18 hQ
theorem k12_pair {g : pG} {Q : Option Value → pW → Prop} {Z : pZ} {I : (Nat → Nat → Int32)} {L : (Nat → Nat → Int64)} {O : (Nat → Nat → Option Nat)} {n : Nat} {a0 : Nat} {x1 : Int32} {x2 : Int32} {x3 : Int32} {x4 : Int64} {x6 : Int32} {res : Int32 × (Nat → Nat → Int32) × (Nat → Nat → Int64)} (d : Nat) (hW : WT Z O) (hZ0 : Z[a0]? = some (12, 34)) (h : f12_pair n I L O a0 x1 x2 x3 x4 x6 = some res) (hQ : Q (some (.int res.1)) (Z, res.2.1, res.2.2, O)) : CT g (d + 5) m12_pair 0 0 [.ref a0, .int x1, .int x2, .int x3, .long x4, .int x6] (Z, I, L, O) Q :=
  ct_of_ok (mt := m12_pair) (ini := false) mo12_pair.2.2.2.2 (fun h => by cases h) (Nat.le_of_ble_eq_true rfl) (o12_pair d hW hZ0 h ⟨trivial, hQ, rfl, rfl⟩)
theorem dX12_rollClause_0 : decode cX12_rollClause 0 = .ok (.iconst 0, 1) := by decide +kernel
theorem dX12_rollClause_1 : decode cX12_rollClause 1 = .ok (.istore_n 2, 1) := by decide +kernel
theorem dX12_rollClause_2 : decode cX12_rollClause 2 = .ok (.iload_n 2, 1) := by decide +kernel
theorem dX12_rollClause_3 : decode cX12_rollClause 3 = .ok (.bipush 16, 2) := by decide +kernel
theorem dX12_rollClause_5 : decode cX12_rollClause 5 = .ok (.if_icmp .ne 22, 3) := by decide +kernel
theorem dX12_rollClause_8 : decode cX12_rollClause 8 = .ok (.aload_n 0, 1) := by decide +kernel
theorem dX12_rollClause_9 : decode cX12_rollClause 9 = .ok (.getfield 114, 3) := by decide +kernel
theorem dX12_rollClause_12 : decode cX12_rollClause 12 = .ok (.iconst 1, 1) := by decide +kernel
theorem dX12_rollClause_13 : decode cX12_rollClause 13 = .ok (.if_icmp .ne 14, 3) := by decide +kernel
theorem dX12_rollClause_16 : decode cX12_rollClause 16 = .ok (.aload_n 0, 1) := by decide +kernel
theorem dX12_rollClause_17 : decode cX12_rollClause 17 = .ok (.getfield 120, 3) := by decide +kernel
theorem dX12_rollClause_20 : decode cX12_rollClause 20 = .ok (.iconst 5, 1) := by decide +kernel
theorem dX12_rollClause_21 : decode cX12_rollClause 21 = .ok (.if_icmp .gt 6, 3) := by decide +kernel
theorem dX12_rollClause_24 : decode cX12_rollClause 24 = .ok (.bipush 7, 2) := by decide +kernel
theorem dX12_rollClause_26 : decode cX12_rollClause 26 = .ok (.ireturn, 1) := by decide +kernel
theorem dX12_rollClause_27 : decode cX12_rollClause 27 = .ok (.aload_n 0, 1) := by decide +kernel
theorem dX12_rollClause_28 : decode cX12_rollClause 28 = .ok (.iload_n 1, 1) := by decide +kernel
theorem dX12_rollClause_29 : decode cX12_rollClause 29 = .ok (.iconst 2, 1) := by decide +kernel
theorem dX12_rollClause_30 : decode cX12_rollClause 30 = .ok (.iadd, 1) := by decide +kernel
theorem dX12_rollClause_31 : decode cX12_rollClause 31 = .ok (.iload_n 2, 1) := by decide +kernel
theorem dX12_rollClause_32 : decode cX12_rollClause 32 = .ok (.iadd, 1) := by decide +kernel
theorem dX12_rollClause_33 : decode cX12_rollClause 33 = .ok (.iconst 0, 1) := by decide +kernel
theorem dX12_rollClause_34 : decode cX12_rollClause 34 = .ok (.iconst 5, 1) := by decide +kernel
theorem dX12_rollClause_35 : decode cX12_rollClause 35 = .ok (.invokevirtual 232, 3) := by decide +kernel
theorem dX12_rollClause_38 : decode cX12_rollClause 38 = .ok (.istore_n 3, 1) := by decide +kernel
theorem dX12_rollClause_39 : decode cX12_rollClause 39 = .ok (.iload_n 3, 1) := by decide +kernel
theorem dX12_rollClause_40 : decode cX12_rollClause 40 = .ok (.ifCond .eq 5, 3) := by decide +kernel
theorem dX12_rollClause_43 : decode cX12_rollClause 43 = .ok (.iload_n 3, 1) := by decide +kernel
theorem dX12_rollClause_44 : decode cX12_rollClause 44 = .ok (.ireturn, 1) := by decide +kernel
theorem dX12_rollClause_45 : decode cX12_rollClause 45 = .ok (.iinc 2 1, 3) := by decide +kernel
theorem dX12_rollClause_48 : decode cX12_rollClause 48 = .ok (.aload_n 0, 1) := by decide +kernel
theorem dX12_rollClause_49 : decode cX12_rollClause 49 = .ok (.getfield 16, 3) := by decide +kernel
theorem dX12_rollClause_52 : decode cX12_rollClause 52 = .ok (.iload_n 1, 1) := by decide +kernel
theorem dX12_rollClause_53 : decode cX12_rollClause 53 = .ok (.iconst 1, 1) := by decide +kernel
theorem dX12_rollClause_54 : decode cX12_rollClause 54 = .ok (.iadd, 1) := by decide +kernel
theorem dX12_rollClause_55 : decode cX12_rollClause 55 = .ok (.iload_n 2, 1) := by decide +kernel
theorem dX12_rollClause_56 : decode cX12_rollClause 56 = .ok (.iastore, 1) := by decide +kernel
theorem dX12_rollClause_57 : decode cX12_rollClause 57 = .ok (.aload_n 0, 1) := by decide +kernel
theorem dX12_rollClause_58 : decode cX12_rollClause 58 = .ok (.getfield 114, 3) := by decide +kernel
theorem dX12_rollClause_61 : decode cX12_rollClause 61 = .ok (.bipush 44, 2) := by decide +kernel
theorem dX12_rollClause_63 : decode cX12_rollClause 63 = .ok (.if_icmp .eq 5, 3) := by decide +kernel
theorem dX12_rollClause_66 : decode cX12_rollClause 66 = .ok (.iconst 0, 1) := by decide +kernel
theorem dX12_rollClause_67 : decode cX12_rollClause 67 = .ok (.ireturn, 1) := by decide +kernel
theorem dX12_rollClause_68 : decode cX12_rollClause 68 = .ok (.aload_n 0, 1) := by decide +kernel
theorem dX12_rollClause_69 : decode cX12_rollClause 69 = .ok (.invokevirtual 185, 3) := by decide +kernel
theorem dX12_rollClause_72 : decode cX12_rollClause 72 = .ok (.goto (-70), 3) := by decide +kernel
def m12_rollClause : pMT := (yX12_rollClause, cX12_rollClause, 4, some .int)
theorem mo12_rollClause : mOK m12_rollClause 1 := ⟨tb_i 1512 (by decide +kernel), wi_RX12, ⟨wn_RX12.1, wn_RX12.2, by decide +kernel⟩, by decide, plainFor_of_name wp_RX12⟩
theorem mv12_rollClause : mV m12_rollClause := ⟨tb_i 1511 (by decide +kernel), tb_p 68 (by decide +kernel)⟩
def f12_rollClause_c27 (n : Nat) (O : (Nat → Nat → Option Nat)) (k2 : ((Nat → Nat → Int32) → (Nat → Nat → Int64) → Nat → Int32 → Int32 → Option (Int32 × (Nat → Nat → Int32) × (Nat → Nat → Int64)))) (I : (Nat → Nat → Int32)) (L : (Nat → Nat → Int64)) (b0 : Nat) (y1 : Int32) (y2 : Int32) : Option (Int32 × (Nat → Nat → Int32) × (Nat → Nat → Int64)) := (f12_figure n I L O b0 ((y1 + 2) + y2) (0 : Int32) (5 : Int32)).bind fun r1 => (if r1.1 = 0 then (if (y1 + 1) < 0 ∨ 4260 ≤ (y1 + 1).toNatClampNeg then none else bl (sI r1.2.1 (rO O b0 2) (y1 + 1).toNatClampNeg (y2 + 1)) fun I6 => (if (I6 b0 9) = (44 : Int32) then (f12_nextToken n I6 r1.2.2 O b0).bind fun r8 => k2 r8.1 r8.2 b0 y1 (y2 + 1) else some ((0 : Int32), I6, r1.2.2))) else some (r1.1, r1.2.1, r1.2.2))
set_option maxHeartbeats 4000000 in
set_option maxRecDepth 20000 in
theorem o12_rollClause_c27 {g : pG} {Qx : Option Value → pW → Prop} {Z : pZ} {O : (Nat → Nat → Option Nat)} {n : Nat} {k2 : ((Nat → Nat → Int32) → (Nat → Nat → Int64) → Nat → Int32 → Int32 → Option (Int32 × (Nat → Nat → Int32) × (Nat → Nat → Int64)))} {res : Int32 × (Nat → Nat → Int32) × (Nat → Nat → Int64)} (d : Nat) (hW : WT Z O) (hQ : Qx (some (.int res.1)) (Z, res.2.1, res.2.2, O)) (hk2 : ∀ (I : (Nat → Nat → Int32)) (L : (Nat → Nat → Int64)) (b0 : Nat) (y1 : Int32) (y2 : Int32), (Z[b0]? = some (12, 34)) → k2 I L b0 y1 y2 = some res → Ok g (d + 5, RX12, cX12_rollClause, 4, false, 0, 0, Z.length, pSl Z) Qx 2 [(0, .ref b0), (1, .int y1), (2, .int y2)] [] (Z, I, L, O)) (I : (Nat → Nat → Int32)) (L : (Nat → Nat → Int64)) (b0 : Nat) (y1 : Int32) (y2 : Int32) (hZ_b0 : Z[b0]? = some (12, 34)) (h : f12_rollClause_c27 n O k2 I L b0 y1 y2 = some res) : Ok g (d + 5, RX12, cX12_rollClause, 4, false, 0, 0, Z.length, pSl Z) Qx 27 [(0, .ref b0), (1, .int y1), (2, .int y2)] [] (Z, I, L, O) := by
  unfold f12_rollClause_c27 at h
  refine ok_aload_n dX12_rollClause_27 0 rfl ?_
  refine ok_iload_n dX12_rollClause_28 1 rfl ?_
  refine ok_iconst (v := 2) dX12_rollClause_29 (by decide) ?_
  refine ok_iadd dX12_rollClause_30 ?_
  refine ok_iload_n dX12_rollClause_31 2 rfl ?_
  refine ok_iadd dX12_rollClause_32 ?_
  refine ok_iconst (v := 0) dX12_rollClause_33 (by decide) ?_
  refine ok_iconst (v := 5) dX12_rollClause_34 (by decide) ?_
  obtain ⟨r1, hr2, h⟩ := bd h
  refine ok_callV (d := ((d + 0) + 4)) (mt := m12_figure) (mc := 0) (ms := 0) (As := [.int ((y1 + 2) + y2), .int 0, .int 5]) (r := []) dX12_rollClause_35 mo12_figure mv12_figure lkRX12_232 rfl hZ_b0 (q := (RX12, TX12, 34)) rfl rfl rfl (Nat.le_of_ble_eq_true rfl) (by show _ + 1 ≤ d + _; omega) (Nat.le_refl _) (Nat.le_refl _) (pRt_mono ?_)
  refine k12_figure (d + 0) hW hZ_b0 hr2 ?_
  intro _
  show Ok g _ Qx 38 [(0, .ref b0), (1, .int y1), (2, .int y2)] [.int r1.1] (Z, r1.2.1, r1.2.2, O)
  refine ok_istore_n (l' := [(3, .int r1.1), (0, .ref b0), (1, .int y1), (2, .int y2)]) dX12_rollClause_38 rfl (Nat.le_of_ble_eq_true rfl) rfl ?_
  refine ok_iload_n dX12_rollClause_39 0 rfl ?_
  refine ok_if_eq (t := 45) dX12_rollClause_40 (by decide) (fun hc3 => ?_) (fun hc3 => ?_)
  · have h := (if_pos hc3).symm.trans h
    refine ok_iinc (u := (y2 + 1)) (l' := [(2, .int (y2 + 1)), (3, .int r1.1), (0, .ref b0), (1, .int y1)]) dX12_rollClause_45 3 rfl rfl (Nat.le_of_ble_eq_true rfl) rfl ?_
    refine ok_aload_n dX12_rollClause_48 2 rfl ?_
    have hT4 : Z[(rO O b0 2)]? = some (13, 4260) := (wt_f (ci := 12) (k := 2) hW hZ_b0 rfl).2
    refine ok_getR (ci := 12) (k := 2) dX12_rollClause_49 flRX12_16 rfl hW hZ_b0 (by decide) ?_
    refine ok_iload_n dX12_rollClause_52 3 rfl ?_
    refine ok_iconst (v := 1) dX12_rollClause_53 (by decide) ?_
    refine ok_iadd dX12_rollClause_54 ?_
    refine ok_iload_n dX12_rollClause_55 0 rfl ?_
    obtain ⟨hg5, h⟩ := gd h
    obtain ⟨I6, eI6, h⟩ := blE h
    refine ok_iast3 dX12_rollClause_56 hT4 hg5 rfl eI6 ?_
    refine ok_aload_n dX12_rollClause_57 2 rfl ?_
    refine ok_getI (ci := 12) (k := 9) dX12_rollClause_58 flRX12_114 rfl hZ_b0 (by decide) ?_
    refine ok_bipush (v := 44) dX12_rollClause_61 (by decide) ?_
    refine ok_icmp_eq (t := 68) dX12_rollClause_63 (by decide) (fun hc7 => ?_) (fun hc7 => ?_)
    · have h := (if_pos hc7).symm.trans h
      refine ok_aload_n dX12_rollClause_68 2 rfl ?_
      obtain ⟨r8, hr9, h⟩ := bd h
      refine ok_callV (d := ((d + 1) + 3)) (mt := m12_nextToken) (mc := 0) (ms := 0) (As := []) (r := []) dX12_rollClause_69 mo12_nextToken mv12_nextToken lkRX12_185 rfl hZ_b0 (q := (RX12, TX12, 34)) rfl rfl rfl (Nat.le_of_ble_eq_true rfl) (by show _ + 1 ≤ d + _; omega) (Nat.le_refl _) (Nat.le_refl _) (pRt_mono ?_)
      refine k12_nextToken (d + 1) hW hZ_b0 hr9 ?_
      intro _
      show Ok g _ Qx 72 [(2, .int (y2 + 1)), (3, .int r1.1), (0, .ref b0), (1, .int y1)] [] (Z, r8.1, r8.2, O)
      refine ok_goto (t := 2) dX12_rollClause_72 (by decide) ?_
      refine ok_sub [2, 3, 0] rfl ?_
      exact hk2 r8.1 r8.2 b0 y1 (y2 + 1) hZ_b0 h
    · have h := (if_neg hc7).symm.trans h
      refine ok_iconst (v := 0) dX12_rollClause_66 (by decide) ?_
      cases h
      exact ok_iret dX12_rollClause_67 hQ
  · have h := (if_neg hc3).symm.trans h
    refine ok_iload_n dX12_rollClause_43 0 rfl ?_
    cases h
    exact ok_iret dX12_rollClause_44 hQ
def f12_rollClause_c2 (n : Nat) (O : (Nat → Nat → Option Nat)) : Nat → (Nat → Nat → Int32) → (Nat → Nat → Int64) → Nat → Int32 → Int32 → Option (Int32 × (Nat → Nat → Int32) × (Nat → Nat → Int64))
  | 0, _, _, _, _, _ => none
  | m + 1, I, L, b0, y1, y2 => (if y2 = (16 : Int32) then (if (I b0 9) = (1 : Int32) then (if (5 : Int32) < (I b0 10) then f12_rollClause_c27 n O (f12_rollClause_c2 n O m) I L b0 y1 y2 else some ((7 : Int32), I, L)) else f12_rollClause_c27 n O (f12_rollClause_c2 n O m) I L b0 y1 y2) else f12_rollClause_c27 n O (f12_rollClause_c2 n O m) I L b0 y1 y2)
set_option maxHeartbeats 4000000 in
set_option maxRecDepth 20000 in
theorem o12_rollClause_c2 {g : pG} {Qx : Option Value → pW → Prop} {Z : pZ} {O : (Nat → Nat → Option Nat)} {n : Nat} {res : Int32 × (Nat → Nat → Int32) × (Nat → Nat → Int64)} (d : Nat) (hW : WT Z O) (hQ : Qx (some (.int res.1)) (Z, res.2.1, res.2.2, O)) : ∀ (m : Nat) (I : (Nat → Nat → Int32)) (L : (Nat → Nat → Int64)) (b0 : Nat) (y1 : Int32) (y2 : Int32), (Z[b0]? = some (12, 34)) → f12_rollClause_c2 n O m I L b0 y1 y2 = some res → Ok g (d + 5, RX12, cX12_rollClause, 4, false, 0, 0, Z.length, pSl Z) Qx 2 [(0, .ref b0), (1, .int y1), (2, .int y2)] [] (Z, I, L, O) := by
  intro m
  induction m with
  | zero => intro I L b0 y1 y2 hZ_b0 h; rw [f12_rollClause_c2] at h; cases h
  | succ m ih =>
    intro I L b0 y1 y2 hZ_b0 h
    rw [f12_rollClause_c2] at h
    refine ok_iload_n dX12_rollClause_2 2 rfl ?_
    refine ok_bipush (v := 16) dX12_rollClause_3 (by decide) ?_
    refine ok_icmp_ne (t := 27) dX12_rollClause_5 (by decide) (fun hc1 => ?_) (fun hc1 => ?_)
    · have h := (if_neg hc1).symm.trans h
      refine ok_sub [0, 1, 2] rfl ?_
      exact o12_rollClause_c27 d hW hQ ih I L b0 y1 y2 hZ_b0 h
    · have h := (if_pos hc1).symm.trans h
      refine ok_aload_n dX12_rollClause_8 0 rfl ?_
      refine ok_getI (ci := 12) (k := 9) dX12_rollClause_9 flRX12_114 rfl hZ_b0 (by decide) ?_
      refine ok_iconst (v := 1) dX12_rollClause_12 (by decide) ?_
      refine ok_icmp_ne (t := 27) dX12_rollClause_13 (by decide) (fun hc2 => ?_) (fun hc2 => ?_)
      · have h := (if_neg hc2).symm.trans h
        refine ok_sub [0, 1, 2] rfl ?_
        exact o12_rollClause_c27 d hW hQ ih I L b0 y1 y2 hZ_b0 h
      · have h := (if_pos hc2).symm.trans h
        refine ok_aload_n dX12_rollClause_16 0 rfl ?_
        refine ok_getI (ci := 12) (k := 10) dX12_rollClause_17 flRX12_120 rfl hZ_b0 (by decide) ?_
        refine ok_iconst (v := 5) dX12_rollClause_20 (by decide) ?_
        refine ok_icmp_gt (t := 27) dX12_rollClause_21 (by decide) (fun hc3 => ?_) (fun hc3 => ?_)
        · have h := (if_pos hc3).symm.trans h
          refine ok_sub [0, 1, 2] rfl ?_
          exact o12_rollClause_c27 d hW hQ ih I L b0 y1 y2 hZ_b0 h
        · have h := (if_neg hc3).symm.trans h
          refine ok_bipush (v := 7) dX12_rollClause_24 (by decide) ?_
          cases h
          exact ok_iret dX12_rollClause_26 hQ
def f12_rollClause (n : Nat) (I : (Nat → Nat → Int32)) (L : (Nat → Nat → Int64)) (O : (Nat → Nat → Option Nat)) (a0 : Nat) (x1 : Int32) : Option (Int32 × (Nat → Nat → Int32) × (Nat → Nat → Int64)) := f12_rollClause_c2 n O n I L a0 x1 (0 : Int32)
set_option maxHeartbeats 4000000 in
set_option maxRecDepth 20000 in
theorem o12_rollClause {g : pG} {Qx : Option Value → pW → Prop} {Z : pZ} {I : (Nat → Nat → Int32)} {L : (Nat → Nat → Int64)} {O : (Nat → Nat → Option Nat)} {n : Nat} {a0 : Nat} {x1 : Int32} {res : Int32 × (Nat → Nat → Int32) × (Nat → Nat → Int64)} (d : Nat) (hW : WT Z O) (hZ0 : Z[a0]? = some (12, 34)) (h : f12_rollClause n I L O a0 x1 = some res) (hQ : Qx (some (.int res.1)) (Z, res.2.1, res.2.2, O)) : Ok g (d + 5, RX12, cX12_rollClause, 4, false, 0, 0, Z.length, pSl Z) Qx 0 [(0, .ref a0), (1, .int x1)] [] (Z, I, L, O) := by
  unfold f12_rollClause at h
  refine ok_iconst (v := 0) dX12_rollClause_0 (by decide) ?_
  refine ok_istore_n (l' := [(2, .int 0), (0, .ref a0), (1, .int x1)]) dX12_rollClause_1 rfl (Nat.le_of_ble_eq_true rfl) rfl ?_
  refine ok_sub [1, 2, 0] rfl ?_
  exact o12_rollClause_c2 d hW hQ  n I L a0 x1 (0 : Int32) hZ0 h
theorem k12_rollClause {g : pG} {Q : Option Value → pW → Prop} {Z : pZ} {I : (Nat → Nat → Int32)} {L : (Nat → Nat → Int64)} {O : (Nat → Nat → Option Nat)} {n : Nat} {a0 : Nat} {x1 : Int32} {res : Int32 × (Nat → Nat → Int32) × (Nat → Nat → Int64)} (d : Nat) (hW : WT Z O) (hZ0 : Z[a0]? = some (12, 34)) (h : f12_rollClause n I L O a0 x1 = some res) (hQ : Q (some (.int res.1)) (Z, res.2.1, res.2.2, O)) : CT g (d + 5) m12_rollClause 0 0 [.ref a0, .int x1] (Z, I, L, O) Q :=
  ct_of_ok (mt := m12_rollClause) (ini := false) mo12_rollClause.2.2.2.2 (fun h => by cases h) (Nat.le_of_ble_eq_true rfl) (o12_rollClause d hW hZ0 h ⟨trivial, hQ, rfl, rfl⟩)
theorem dX12_body_0 : decode cX12_body 0 = .ok (.iload_n 1, 1) := by decide +kernel
theorem dX12_body_1 : decode cX12_body 1 = .ok (.tableswitch 107 3 8 #[39, 45, 47, 63, 80, 96], 39) := by decide +kernel
theorem dX12_body_40 : decode cX12_body 40 = .ok (.aload_n 0, 1) := by decide +kernel
theorem dX12_body_41 : decode cX12_body 41 = .ok (.iload_n 2, 1) := by decide +kernel
theorem dX12_body_42 : decode cX12_body 42 = .ok (.invokevirtual 236, 3) := by decide +kernel
theorem dX12_body_45 : decode cX12_body 45 = .ok (.ireturn, 1) := by decide +kernel
theorem dX12_body_46 : decode cX12_body 46 = .ok (.iconst 0, 1) := by decide +kernel
theorem dX12_body_47 : decode cX12_body 47 = .ok (.ireturn, 1) := by decide +kernel
theorem dX12_body_48 : decode cX12_body 48 = .ok (.aload_n 0, 1) := by decide +kernel
theorem dX12_body_49 : decode cX12_body 49 = .ok (.iload_n 2, 1) := by decide +kernel
theorem dX12_body_50 : decode cX12_body 50 = .ok (.iconst 0, 1) := by decide +kernel
theorem dX12_body_51 : decode cX12_body 51 = .ok (.iconst 4, 1) := by decide +kernel
theorem dX12_body_52 : decode cX12_body 52 = .ok (.bipush 116, 2) := by decide +kernel
theorem dX12_body_54 : decode cX12_body 54 = .ok (.bipush 111, 2) := by decide +kernel
theorem dX12_body_56 : decode cX12_body 56 = .ok (.invokestatic 136, 3) := by decide +kernel
theorem dX12_body_59 : decode cX12_body 59 = .ok (.iconst 3, 1) := by decide +kernel
theorem dX12_body_60 : decode cX12_body 60 = .ok (.invokevirtual 239, 3) := by decide +kernel
theorem dX12_body_63 : decode cX12_body 63 = .ok (.ireturn, 1) := by decide +kernel
theorem dX12_body_64 : decode cX12_body 64 = .ok (.aload_n 0, 1) := by decide +kernel
theorem dX12_body_65 : decode cX12_body 65 = .ok (.iload_n 2, 1) := by decide +kernel
theorem dX12_body_66 : decode cX12_body 66 = .ok (.iconst 0, 1) := by decide +kernel
theorem dX12_body_67 : decode cX12_body 67 = .ok (.bipush 15, 2) := by decide +kernel
theorem dX12_body_69 : decode cX12_body 69 = .ok (.bipush 111, 2) := by decide +kernel
theorem dX12_body_71 : decode cX12_body 71 = .ok (.bipush 102, 2) := by decide +kernel
theorem dX12_body_73 : decode cX12_body 73 = .ok (.invokestatic 136, 3) := by decide +kernel
theorem dX12_body_76 : decode cX12_body 76 = .ok (.iconst 4, 1) := by decide +kernel
theorem dX12_body_77 : decode cX12_body 77 = .ok (.invokevirtual 239, 3) := by decide +kernel
theorem dX12_body_80 : decode cX12_body 80 = .ok (.ireturn, 1) := by decide +kernel
theorem dX12_body_81 : decode cX12_body 81 = .ok (.aload_n 0, 1) := by decide +kernel
theorem dX12_body_82 : decode cX12_body 82 = .ok (.iload_n 2, 1) := by decide +kernel
theorem dX12_body_83 : decode cX12_body 83 = .ok (.iconst 1, 1) := by decide +kernel
theorem dX12_body_84 : decode cX12_body 84 = .ok (.iconst 5, 1) := by decide +kernel
theorem dX12_body_85 : decode cX12_body 85 = .ok (.bipush 98, 2) := by decide +kernel
theorem dX12_body_87 : decode cX12_body 87 = .ok (.bipush 121, 2) := by decide +kernel
theorem dX12_body_89 : decode cX12_body 89 = .ok (.invokestatic 136, 3) := by decide +kernel
theorem dX12_body_92 : decode cX12_body 92 = .ok (.iconst 3, 1) := by decide +kernel
theorem dX12_body_93 : decode cX12_body 93 = .ok (.invokevirtual 239, 3) := by decide +kernel
theorem dX12_body_96 : decode cX12_body 96 = .ok (.ireturn, 1) := by decide +kernel
theorem dX12_body_97 : decode cX12_body 97 = .ok (.aload_n 0, 1) := by decide +kernel
theorem dX12_body_98 : decode cX12_body 98 = .ok (.iload_n 2, 1) := by decide +kernel
theorem dX12_body_99 : decode cX12_body 99 = .ok (.iconst 1, 1) := by decide +kernel
theorem dX12_body_100 : decode cX12_body 100 = .ok (.iadd, 1) := by decide +kernel
theorem dX12_body_101 : decode cX12_body 101 = .ok (.iconst 1, 1) := by decide +kernel
theorem dX12_body_102 : decode cX12_body 102 = .ok (.bipush 60, 2) := by decide +kernel
theorem dX12_body_104 : decode cX12_body 104 = .ok (.invokevirtual 232, 3) := by decide +kernel
theorem dX12_body_107 : decode cX12_body 107 = .ok (.ireturn, 1) := by decide +kernel
theorem dX12_body_108 : decode cX12_body 108 = .ok (.aload_n 0, 1) := by decide +kernel
theorem dX12_body_109 : decode cX12_body 109 = .ok (.iload_n 2, 1) := by decide +kernel
theorem dX12_body_110 : decode cX12_body 110 = .ok (.invokevirtual 243, 3) := by decide +kernel
theorem dX12_body_113 : decode cX12_body 113 = .ok (.ireturn, 1) := by decide +kernel
def m12_body : pMT := (yX12_body, cX12_body, 3, some .int)
theorem mo12_body : mOK m12_body 2 := ⟨tb_i 1508 (by decide +kernel), wi_RX12, ⟨wn_RX12.1, wn_RX12.2, by decide +kernel⟩, by decide, plainFor_of_name wp_RX12⟩
theorem mv12_body : mV m12_body := ⟨tb_i 1507 (by decide +kernel), tb_p 67 (by decide +kernel)⟩
def f12_body (n : Nat) (I : (Nat → Nat → Int32)) (L : (Nat → Nat → Int64)) (O : (Nat → Nat → Option Nat)) (a0 : Nat) (x1 : Int32) (x2 : Int32) : Option (Int32 × (Nat → Nat → Int32) × (Nat → Nat → Int64)) := (if x1 = 3 then (f12_rollClause n I L O a0 x2).bind fun r2 => some (r2.1, r2.2.1, r2.2.2) else (if x1 = 4 then some ((0 : Int32), I, L) else (if x1 = 5 then (f12_w2 (116 : Int32) (111 : Int32)).bind fun r6 => (f12_pair n I L O a0 x2 (0 : Int32) (4 : Int32) r6 (3 : Int32)).bind fun r8 => some (r8.1, r8.2.1, r8.2.2) else (if x1 = 6 then (f12_w2 (111 : Int32) (102 : Int32)).bind fun r11 => (f12_pair n I L O a0 x2 (0 : Int32) (15 : Int32) r11 (4 : Int32)).bind fun r13 => some (r13.1, r13.2.1, r13.2.2) else (if x1 = 7 then (f12_w2 (98 : Int32) (121 : Int32)).bind fun r16 => (f12_pair n I L O a0 x2 (1 : Int32) (5 : Int32) r16 (3 : Int32)).bind fun r18 => some (r18.1, r18.2.1, r18.2.2) else (if x1 = 8 then (f12_figure n I L O a0 (x2 + 1) (1 : Int32) (60 : Int32)).bind fun r21 => some (r21.1, r21.2.1, r21.2.2) else (f12_lawClause n I L O a0 x2).bind fun r23 => some (r23.1, r23.2.1, r23.2.2)))))))
set_option maxHeartbeats 4000000 in
set_option maxRecDepth 20000 in
theorem o12_body {g : pG} {Qx : Option Value → pW → Prop} {Z : pZ} {I : (Nat → Nat → Int32)} {L : (Nat → Nat → Int64)} {O : (Nat → Nat → Option Nat)} {n : Nat} {a0 : Nat} {x1 : Int32} {x2 : Int32} {res : Int32 × (Nat → Nat → Int32) × (Nat → Nat → Int64)} (d : Nat) (hW : WT Z O) (hZ0 : Z[a0]? = some (12, 34)) (h : f12_body n I L O a0 x1 x2 = some res) (hQ : Qx (some (.int res.1)) (Z, res.2.1, res.2.2, O)) : Ok g (d + 11, RX12, cX12_body, 3, false, 0, 0, Z.length, pSl Z) Qx 0 [(0, .ref a0), (1, .int x1), (2, .int x2)] [] (Z, I, L, O) := by
  unfold f12_body at h
  refine ok_iload_n dX12_body_0 1 rfl ?_
  by_cases hc1 : x1 = 3
  · have h := (if_pos hc1).symm.trans h
    refine ok_tabEq (t := 40) (off := 39) dX12_body_1 hc1 (by decide) (by decide) (by decide) (by decide) ?_
    refine ok_aload_n dX12_body_40 0 rfl ?_
    refine ok_iload_n dX12_body_41 2 rfl ?_
    obtain ⟨r2, hr3, h⟩ := bd h
    refine ok_callV (d := ((d + 5) + 5)) (mt := m12_rollClause) (mc := 0) (ms := 0) (As := [.int x2]) (r := []) dX12_body_42 mo12_rollClause mv12_rollClause lkRX12_236 rfl hZ0 (q := (RX12, TX12, 34)) rfl rfl rfl (Nat.le_of_ble_eq_true rfl) (by show _ + 1 ≤ d + _; omega) (Nat.le_refl _) (Nat.le_refl _) (pRt_mono ?_)
    refine k12_rollClause (d + 5) hW hZ0 hr3 ?_
    intro _
    show Ok g _ Qx 45 [(0, .ref a0), (1, .int x1), (2, .int x2)] [.int r2.1] (Z, r2.2.1, r2.2.2, O)
    cases h
    exact ok_iret dX12_body_45 hQ
  · have h := (if_neg hc1).symm.trans h
    by_cases hc4 : x1 = 4
    · have h := (if_pos hc4).symm.trans h
      refine ok_tabEq (t := 46) (off := 45) dX12_body_1 hc4 (by decide) (by decide) (by decide) (by decide) ?_
      refine ok_iconst (v := 0) dX12_body_46 (by decide) ?_
      cases h
      exact ok_iret dX12_body_47 hQ
    · have h := (if_neg hc4).symm.trans h
      by_cases hc5 : x1 = 5
      · have h := (if_pos hc5).symm.trans h
        refine ok_tabEq (t := 48) (off := 47) dX12_body_1 hc5 (by decide) (by decide) (by decide) (by decide) ?_
        refine ok_aload_n dX12_body_48 0 rfl ?_
        refine ok_iload_n dX12_body_49 2 rfl ?_
        refine ok_iconst (v := 0) dX12_body_50 (by decide) ?_
        refine ok_iconst (v := 4) dX12_body_51 (by decide) ?_
        refine ok_bipush (v := 116) dX12_body_52 (by decide) ?_
        refine ok_bipush (v := 111) dX12_body_54 (by decide) ?_
        obtain ⟨r6, hr7, h⟩ := bd h
        refine ok_callS (d := ((d + 8) + 2)) (mt := m12_w2) (mc := 0) (ms := 0) (As := [.int 116, .int 111]) (r := [.int 4, .int 0, .int x2, .ref a0]) dX12_body_56 mo12_w2 mv12_w2 lkRX12_136 rfl rfl (Nat.le_of_ble_eq_true rfl) (by show _ + 1 ≤ d + _; omega) (Nat.le_refl _) (Nat.le_refl _) (pRt_mono ?_)
        refine k12_w2 (d + 8) hW  hr7 ?_
        intro _
        show Ok g _ Qx 59 [(0, .ref a0), (1, .int x1), (2, .int x2)] [.long r6, .int 4, .int 0, .int x2, .ref a0] (Z, I, L, O)
        refine ok_iconst (v := 3) dX12_body_59 (by decide) ?_
        obtain ⟨r8, hr9, h⟩ := bd h
        refine ok_callV (d := ((d + 5) + 5)) (mt := m12_pair) (mc := 0) (ms := 0) (As := [.int x2, .int 0, .int 4, .long r6, .int 3]) (r := []) dX12_body_60 mo12_pair mv12_pair lkRX12_239 rfl hZ0 (q := (RX12, TX12, 34)) rfl rfl rfl (Nat.le_of_ble_eq_true rfl) (by show _ + 1 ≤ d + _; omega) (Nat.le_refl _) (Nat.le_refl _) (pRt_mono ?_)
        refine k12_pair (d + 5) hW hZ0 hr9 ?_
        intro _
        show Ok g _ Qx 63 [(0, .ref a0), (1, .int x1), (2, .int x2)] [.int r8.1] (Z, r8.2.1, r8.2.2, O)
        cases h
        exact ok_iret dX12_body_63 hQ
      · have h := (if_neg hc5).symm.trans h
        by_cases hc10 : x1 = 6
        · have h := (if_pos hc10).symm.trans h
          refine ok_tabEq (t := 64) (off := 63) dX12_body_1 hc10 (by decide) (by decide) (by decide) (by decide) ?_
          refine ok_aload_n dX12_body_64 0 rfl ?_
          refine ok_iload_n dX12_body_65 2 rfl ?_
          refine ok_iconst (v := 0) dX12_body_66 (by decide) ?_
          refine ok_bipush (v := 15) dX12_body_67 (by decide) ?_
          refine ok_bipush (v := 111) dX12_body_69 (by decide) ?_
          refine ok_bipush (v := 102) dX12_body_71 (by decide) ?_
          obtain ⟨r11, hr12, h⟩ := bd h
          refine ok_callS (d := ((d + 8) + 2)) (mt := m12_w2) (mc := 0) (ms := 0) (As := [.int 111, .int 102]) (r := [.int 15, .int 0, .int x2, .ref a0]) dX12_body_73 mo12_w2 mv12_w2 lkRX12_136 rfl rfl (Nat.le_of_ble_eq_true rfl) (by show _ + 1 ≤ d + _; omega) (Nat.le_refl _) (Nat.le_refl _) (pRt_mono ?_)
          refine k12_w2 (d + 8) hW  hr12 ?_
          intro _
          show Ok g _ Qx 76 [(0, .ref a0), (1, .int x1), (2, .int x2)] [.long r11, .int 15, .int 0, .int x2, .ref a0] (Z, I, L, O)
          refine ok_iconst (v := 4) dX12_body_76 (by decide) ?_
          obtain ⟨r13, hr14, h⟩ := bd h
          refine ok_callV (d := ((d + 5) + 5)) (mt := m12_pair) (mc := 0) (ms := 0) (As := [.int x2, .int 0, .int 15, .long r11, .int 4]) (r := []) dX12_body_77 mo12_pair mv12_pair lkRX12_239 rfl hZ0 (q := (RX12, TX12, 34)) rfl rfl rfl (Nat.le_of_ble_eq_true rfl) (by show _ + 1 ≤ d + _; omega) (Nat.le_refl _) (Nat.le_refl _) (pRt_mono ?_)
          refine k12_pair (d + 5) hW hZ0 hr14 ?_
          intro _
          show Ok g _ Qx 80 [(0, .ref a0), (1, .int x1), (2, .int x2)] [.int r13.1] (Z, r13.2.1, r13.2.2, O)
          cases h
          exact ok_iret dX12_body_80 hQ
        · have h := (if_neg hc10).symm.trans h
          by_cases hc15 : x1 = 7
          · have h := (if_pos hc15).symm.trans h
            refine ok_tabEq (t := 81) (off := 80) dX12_body_1 hc15 (by decide) (by decide) (by decide) (by decide) ?_
            refine ok_aload_n dX12_body_81 0 rfl ?_
            refine ok_iload_n dX12_body_82 2 rfl ?_
            refine ok_iconst (v := 1) dX12_body_83 (by decide) ?_
            refine ok_iconst (v := 5) dX12_body_84 (by decide) ?_
            refine ok_bipush (v := 98) dX12_body_85 (by decide) ?_
            refine ok_bipush (v := 121) dX12_body_87 (by decide) ?_
            obtain ⟨r16, hr17, h⟩ := bd h
            refine ok_callS (d := ((d + 8) + 2)) (mt := m12_w2) (mc := 0) (ms := 0) (As := [.int 98, .int 121]) (r := [.int 5, .int 1, .int x2, .ref a0]) dX12_body_89 mo12_w2 mv12_w2 lkRX12_136 rfl rfl (Nat.le_of_ble_eq_true rfl) (by show _ + 1 ≤ d + _; omega) (Nat.le_refl _) (Nat.le_refl _) (pRt_mono ?_)
            refine k12_w2 (d + 8) hW  hr17 ?_
            intro _
            show Ok g _ Qx 92 [(0, .ref a0), (1, .int x1), (2, .int x2)] [.long r16, .int 5, .int 1, .int x2, .ref a0] (Z, I, L, O)
            refine ok_iconst (v := 3) dX12_body_92 (by decide) ?_
            obtain ⟨r18, hr19, h⟩ := bd h
            refine ok_callV (d := ((d + 5) + 5)) (mt := m12_pair) (mc := 0) (ms := 0) (As := [.int x2, .int 1, .int 5, .long r16, .int 3]) (r := []) dX12_body_93 mo12_pair mv12_pair lkRX12_239 rfl hZ0 (q := (RX12, TX12, 34)) rfl rfl rfl (Nat.le_of_ble_eq_true rfl) (by show _ + 1 ≤ d + _; omega) (Nat.le_refl _) (Nat.le_refl _) (pRt_mono ?_)
            refine k12_pair (d + 5) hW hZ0 hr19 ?_
            intro _
            show Ok g _ Qx 96 [(0, .ref a0), (1, .int x1), (2, .int x2)] [.int r18.1] (Z, r18.2.1, r18.2.2, O)
            cases h
            exact ok_iret dX12_body_96 hQ
          · have h := (if_neg hc15).symm.trans h
            by_cases hc20 : x1 = 8
            · have h := (if_pos hc20).symm.trans h
              refine ok_tabEq (t := 97) (off := 96) dX12_body_1 hc20 (by decide) (by decide) (by decide) (by decide) ?_
              refine ok_aload_n dX12_body_97 0 rfl ?_
              refine ok_iload_n dX12_body_98 2 rfl ?_
              refine ok_iconst (v := 1) dX12_body_99 (by decide) ?_
              refine ok_iadd dX12_body_100 ?_
              refine ok_iconst (v := 1) dX12_body_101 (by decide) ?_
              refine ok_bipush (v := 60) dX12_body_102 (by decide) ?_
              obtain ⟨r21, hr22, h⟩ := bd h
              refine ok_callV (d := ((d + 6) + 4)) (mt := m12_figure) (mc := 0) (ms := 0) (As := [.int (x2 + 1), .int 1, .int 60]) (r := []) dX12_body_104 mo12_figure mv12_figure lkRX12_232 rfl hZ0 (q := (RX12, TX12, 34)) rfl rfl rfl (Nat.le_of_ble_eq_true rfl) (by show _ + 1 ≤ d + _; omega) (Nat.le_refl _) (Nat.le_refl _) (pRt_mono ?_)
              refine k12_figure (d + 6) hW hZ0 hr22 ?_
              intro _
              show Ok g _ Qx 107 [(0, .ref a0), (1, .int x1), (2, .int x2)] [.int r21.1] (Z, r21.2.1, r21.2.2, O)
              cases h
              exact ok_iret dX12_body_107 hQ
            · have h := (if_neg hc20).symm.trans h
              refine ok_tabOut (t := 108) dX12_body_1 (by have n3 := neI hc1 (a := 3) (by decide); have n4 := neI hc4 (a := 4) (by decide); have n5 := neI hc5 (a := 5) (by decide); have n6 := neI hc10 (a := 6) (by decide); have n7 := neI hc15 (a := 7) (by decide); have n8 := neI hc20 (a := 8) (by decide); omega) (by decide) ?_
              refine ok_aload_n dX12_body_108 0 rfl ?_
              refine ok_iload_n dX12_body_109 2 rfl ?_
              obtain ⟨r23, hr24, h⟩ := bd h
              refine ok_callV (d := ((d + 0) + 10)) (mt := m12_lawClause) (mc := 0) (ms := 0) (As := [.int x2]) (r := []) dX12_body_110 mo12_lawClause mv12_lawClause lkRX12_243 rfl hZ0 (q := (RX12, TX12, 34)) rfl rfl rfl (Nat.le_of_ble_eq_true rfl) (by show _ + 1 ≤ d + _; omega) (Nat.le_refl _) (Nat.le_refl _) (pRt_mono ?_)
              refine k12_lawClause (d + 0) hW hZ0 hr24 ?_
              intro _
              show Ok g _ Qx 113 [(0, .ref a0), (1, .int x1), (2, .int x2)] [.int r23.1] (Z, r23.2.1, r23.2.2, O)
              cases h
              exact ok_iret dX12_body_113 hQ
theorem k12_body {g : pG} {Q : Option Value → pW → Prop} {Z : pZ} {I : (Nat → Nat → Int32)} {L : (Nat → Nat → Int64)} {O : (Nat → Nat → Option Nat)} {n : Nat} {a0 : Nat} {x1 : Int32} {x2 : Int32} {res : Int32 × (Nat → Nat → Int32) × (Nat → Nat → Int64)} (d : Nat) (hW : WT Z O) (hZ0 : Z[a0]? = some (12, 34)) (h : f12_body n I L O a0 x1 x2 = some res) (hQ : Q (some (.int res.1)) (Z, res.2.1, res.2.2, O)) : CT g (d + 11) m12_body 0 0 [.ref a0, .int x1, .int x2] (Z, I, L, O) Q :=
  ct_of_ok (mt := m12_body) (ini := false) mo12_body.2.2.2.2 (fun h => by cases h) (Nat.le_of_ble_eq_true rfl) (o12_body d hW hZ0 h ⟨trivial, hQ, rfl, rfl⟩)
theorem dX12_sortOf_0 : decode cX12_sortOf 0 = .ok (.aload_n 0, 1) := by decide +kernel
theorem dX12_sortOf_1 : decode cX12_sortOf 1 = .ok (.bipush 98, 2) := by decide +kernel
theorem dX12_sortOf_3 : decode cX12_sortOf 3 = .ok (.bipush 108, 2) := by decide +kernel
theorem dX12_sortOf_5 : decode cX12_sortOf 5 = .ok (.bipush 117, 2) := by decide +kernel
theorem dX12_sortOf_7 : decode cX12_sortOf 7 = .ok (.bipush 114, 2) := by decide +kernel
theorem dX12_sortOf_9 : decode cX12_sortOf 9 = .ok (.bipush 115, 2) := by decide +kernel
theorem dX12_sortOf_11 : decode cX12_sortOf 11 = .ok (.invokestatic 148, 3) := by decide +kernel
theorem dX12_sortOf_14 : decode cX12_sortOf 14 = .ok (.invokevirtual 203, 3) := by decide +kernel
theorem dX12_sortOf_17 : decode cX12_sortOf 17 = .ok (.ifCond .eq 5, 3) := by decide +kernel
theorem dX12_sortOf_20 : decode cX12_sortOf 20 = .ok (.iconst 0, 1) := by decide +kernel
theorem dX12_sortOf_21 : decode cX12_sortOf 21 = .ok (.ireturn, 1) := by decide +kernel
theorem dX12_sortOf_22 : decode cX12_sortOf 22 = .ok (.aload_n 0, 1) := by decide +kernel
theorem dX12_sortOf_23 : decode cX12_sortOf 23 = .ok (.bipush 108, 2) := by decide +kernel
theorem dX12_sortOf_25 : decode cX12_sortOf 25 = .ok (.bipush 101, 2) := by decide +kernel
theorem dX12_sortOf_27 : decode cX12_sortOf 27 = .ok (.bipush 97, 2) := by decide +kernel
theorem dX12_sortOf_29 : decode cX12_sortOf 29 = .ok (.bipush 114, 2) := by decide +kernel
theorem dX12_sortOf_31 : decode cX12_sortOf 31 = .ok (.bipush 110, 2) := by decide +kernel
theorem dX12_sortOf_33 : decode cX12_sortOf 33 = .ok (.bipush 115, 2) := by decide +kernel
theorem dX12_sortOf_35 : decode cX12_sortOf 35 = .ok (.invokestatic 158, 3) := by decide +kernel
theorem dX12_sortOf_38 : decode cX12_sortOf 38 = .ok (.invokevirtual 203, 3) := by decide +kernel
theorem dX12_sortOf_41 : decode cX12_sortOf 41 = .ok (.ifCond .eq 5, 3) := by decide +kernel
theorem dX12_sortOf_44 : decode cX12_sortOf 44 = .ok (.iconst 1, 1) := by decide +kernel
theorem dX12_sortOf_45 : decode cX12_sortOf 45 = .ok (.ireturn, 1) := by decide +kernel
theorem dX12_sortOf_46 : decode cX12_sortOf 46 = .ok (.aload_n 0, 1) := by decide +kernel
theorem dX12_sortOf_47 : decode cX12_sortOf 47 = .ok (.bipush 119, 2) := by decide +kernel
theorem dX12_sortOf_49 : decode cX12_sortOf 49 = .ok (.bipush 101, 2) := by decide +kernel
theorem dX12_sortOf_51 : decode cX12_sortOf 51 = .ok (.bipush 97, 2) := by decide +kernel
theorem dX12_sortOf_53 : decode cX12_sortOf 53 = .ok (.bipush 114, 2) := by decide +kernel
theorem dX12_sortOf_55 : decode cX12_sortOf 55 = .ok (.bipush 115, 2) := by decide +kernel
theorem dX12_sortOf_57 : decode cX12_sortOf 57 = .ok (.invokestatic 148, 3) := by decide +kernel
theorem dX12_sortOf_60 : decode cX12_sortOf 60 = .ok (.invokevirtual 203, 3) := by decide +kernel
theorem dX12_sortOf_63 : decode cX12_sortOf 63 = .ok (.ifCond .eq 5, 3) := by decide +kernel
theorem dX12_sortOf_66 : decode cX12_sortOf 66 = .ok (.iconst 2, 1) := by decide +kernel
theorem dX12_sortOf_67 : decode cX12_sortOf 67 = .ok (.ireturn, 1) := by decide +kernel
theorem dX12_sortOf_68 : decode cX12_sortOf 68 = .ok (.aload_n 0, 1) := by decide +kernel
theorem dX12_sortOf_69 : decode cX12_sortOf 69 = .ok (.bipush 114, 2) := by decide +kernel
theorem dX12_sortOf_71 : decode cX12_sortOf 71 = .ok (.bipush 111, 2) := by decide +kernel
theorem dX12_sortOf_73 : decode cX12_sortOf 73 = .ok (.bipush 108, 2) := by decide +kernel
theorem dX12_sortOf_75 : decode cX12_sortOf 75 = .ok (.bipush 108, 2) := by decide +kernel
theorem dX12_sortOf_77 : decode cX12_sortOf 77 = .ok (.invokestatic 144, 3) := by decide +kernel
theorem dX12_sortOf_80 : decode cX12_sortOf 80 = .ok (.invokevirtual 203, 3) := by decide +kernel
theorem dX12_sortOf_83 : decode cX12_sortOf 83 = .ok (.ifCond .eq 5, 3) := by decide +kernel
theorem dX12_sortOf_86 : decode cX12_sortOf 86 = .ok (.iconst 3, 1) := by decide +kernel
theorem dX12_sortOf_87 : decode cX12_sortOf 87 = .ok (.ireturn, 1) := by decide +kernel
theorem dX12_sortOf_88 : decode cX12_sortOf 88 = .ok (.aload_n 0, 1) := by decide +kernel
theorem dX12_sortOf_89 : decode cX12_sortOf 89 = .ok (.bipush 99, 2) := by decide +kernel
theorem dX12_sortOf_91 : decode cX12_sortOf 91 = .ok (.bipush 104, 2) := by decide +kernel
theorem dX12_sortOf_93 : decode cX12_sortOf 93 = .ok (.bipush 105, 2) := by decide +kernel
theorem dX12_sortOf_95 : decode cX12_sortOf 95 = .ok (.bipush 108, 2) := by decide +kernel
theorem dX12_sortOf_97 : decode cX12_sortOf 97 = .ok (.bipush 100, 2) := by decide +kernel
theorem dX12_sortOf_99 : decode cX12_sortOf 99 = .ok (.invokestatic 148, 3) := by decide +kernel
theorem dX12_sortOf_102 : decode cX12_sortOf 102 = .ok (.invokevirtual 203, 3) := by decide +kernel
theorem dX12_sortOf_105 : decode cX12_sortOf 105 = .ok (.ifCond .eq 5, 3) := by decide +kernel
theorem dX12_sortOf_108 : decode cX12_sortOf 108 = .ok (.iconst 4, 1) := by decide +kernel
theorem dX12_sortOf_109 : decode cX12_sortOf 109 = .ok (.ireturn, 1) := by decide +kernel
theorem dX12_sortOf_110 : decode cX12_sortOf 110 = .ok (.aload_n 0, 1) := by decide +kernel
theorem dX12_sortOf_111 : decode cX12_sortOf 111 = .ok (.bipush 112, 2) := by decide +kernel
theorem dX12_sortOf_113 : decode cX12_sortOf 113 = .ok (.bipush 108, 2) := by decide +kernel
theorem dX12_sortOf_115 : decode cX12_sortOf 115 = .ok (.bipush 97, 2) := by decide +kernel
theorem dX12_sortOf_117 : decode cX12_sortOf 117 = .ok (.bipush 121, 2) := by decide +kernel
theorem dX12_sortOf_119 : decode cX12_sortOf 119 = .ok (.invokestatic 144, 3) := by decide +kernel
theorem dX12_sortOf_122 : decode cX12_sortOf 122 = .ok (.invokevirtual 203, 3) := by decide +kernel
theorem dX12_sortOf_125 : decode cX12_sortOf 125 = .ok (.ifCond .eq 5, 3) := by decide +kernel
theorem dX12_sortOf_128 : decode cX12_sortOf 128 = .ok (.iconst 5, 1) := by decide +kernel
theorem dX12_sortOf_129 : decode cX12_sortOf 129 = .ok (.ireturn, 1) := by decide +kernel
theorem dX12_sortOf_130 : decode cX12_sortOf 130 = .ok (.aload_n 0, 1) := by decide +kernel
theorem dX12_sortOf_131 : decode cX12_sortOf 131 = .ok (.bipush 112, 2) := by decide +kernel
theorem dX12_sortOf_133 : decode cX12_sortOf 133 = .ok (.bipush 97, 2) := by decide +kernel
theorem dX12_sortOf_135 : decode cX12_sortOf 135 = .ok (.bipush 116, 2) := by decide +kernel
theorem dX12_sortOf_137 : decode cX12_sortOf 137 = .ok (.bipush 99, 2) := by decide +kernel
theorem dX12_sortOf_139 : decode cX12_sortOf 139 = .ok (.bipush 104, 2) := by decide +kernel
theorem dX12_sortOf_141 : decode cX12_sortOf 141 = .ok (.invokestatic 148, 3) := by decide +kernel
theorem dX12_sortOf_144 : decode cX12_sortOf 144 = .ok (.invokevirtual 203, 3) := by decide +kernel
theorem dX12_sortOf_147 : decode cX12_sortOf 147 = .ok (.ifCond .eq 6, 3) := by decide +kernel
theorem dX12_sortOf_150 : decode cX12_sortOf 150 = .ok (.bipush 6, 2) := by decide +kernel
theorem dX12_sortOf_152 : decode cX12_sortOf 152 = .ok (.ireturn, 1) := by decide +kernel
theorem dX12_sortOf_153 : decode cX12_sortOf 153 = .ok (.aload_n 0, 1) := by decide +kernel
theorem dX12_sortOf_154 : decode cX12_sortOf 154 = .ok (.bipush 102, 2) := by decide +kernel
theorem dX12_sortOf_156 : decode cX12_sortOf 156 = .ok (.bipush 111, 2) := by decide +kernel
theorem dX12_sortOf_158 : decode cX12_sortOf 158 = .ok (.bipush 114, 2) := by decide +kernel
theorem dX12_sortOf_160 : decode cX12_sortOf 160 = .ok (.bipush 103, 2) := by decide +kernel
theorem dX12_sortOf_162 : decode cX12_sortOf 162 = .ok (.bipush 101, 2) := by decide +kernel
theorem dX12_sortOf_164 : decode cX12_sortOf 164 = .ok (.bipush 116, 2) := by decide +kernel
theorem dX12_sortOf_166 : decode cX12_sortOf 166 = .ok (.invokestatic 158, 3) := by decide +kernel
theorem dX12_sortOf_169 : decode cX12_sortOf 169 = .ok (.invokevirtual 203, 3) := by decide +kernel
theorem dX12_sortOf_172 : decode cX12_sortOf 172 = .ok (.ifCond .eq 8, 3) := by decide +kernel
theorem dX12_sortOf_175 : decode cX12_sortOf 175 = .ok (.bipush 7, 2) := by decide +kernel
theorem dX12_sortOf_177 : decode cX12_sortOf 177 = .ok (.goto 31, 3) := by decide +kernel
theorem dX12_sortOf_180 : decode cX12_sortOf 180 = .ok (.aload_n 0, 1) := by decide +kernel
theorem dX12_sortOf_181 : decode cX12_sortOf 181 = .ok (.bipush 115, 2) := by decide +kernel
theorem dX12_sortOf_183 : decode cX12_sortOf 183 = .ok (.bipush 117, 2) := by decide +kernel
theorem dX12_sortOf_185 : decode cX12_sortOf 185 = .ok (.bipush 110, 2) := by decide +kernel
theorem dX12_sortOf_187 : decode cX12_sortOf 187 = .ok (.bipush 100, 2) := by decide +kernel
theorem dX12_sortOf_189 : decode cX12_sortOf 189 = .ok (.bipush 97, 2) := by decide +kernel
theorem dX12_sortOf_191 : decode cX12_sortOf 191 = .ok (.bipush 121, 2) := by decide +kernel
theorem dX12_sortOf_193 : decode cX12_sortOf 193 = .ok (.invokestatic 158, 3) := by decide +kernel
theorem dX12_sortOf_196 : decode cX12_sortOf 196 = .ok (.invokevirtual 203, 3) := by decide +kernel
theorem dX12_sortOf_199 : decode cX12_sortOf 199 = .ok (.ifCond .eq 8, 3) := by decide +kernel
theorem dX12_sortOf_202 : decode cX12_sortOf 202 = .ok (.bipush 8, 2) := by decide +kernel
theorem dX12_sortOf_204 : decode cX12_sortOf 204 = .ok (.goto 4, 3) := by decide +kernel
theorem dX12_sortOf_207 : decode cX12_sortOf 207 = .ok (.iconst (-1), 1) := by decide +kernel
theorem dX12_sortOf_208 : decode cX12_sortOf 208 = .ok (.ireturn, 1) := by decide +kernel
def m12_sortOf : pMT := (yX12_sortOf, cX12_sortOf, 1, some .int)
theorem mo12_sortOf : mOK m12_sortOf 0 := ⟨tb_i 1482 (by decide +kernel), wi_RX12, ⟨wn_RX12.1, wn_RX12.2, by decide +kernel⟩, by decide, plainFor_of_name wp_RX12⟩
theorem mv12_sortOf : mV m12_sortOf := ⟨tb_i 1481 (by decide +kernel), tb_p 65 (by decide +kernel)⟩
def f12_sortOf (I : (Nat → Nat → Int32)) (L : (Nat → Nat → Int64)) (a0 : Nat) : Option (Int32) := (f12_w5 (98 : Int32) (108 : Int32) (117 : Int32) (114 : Int32) (115 : Int32)).bind fun r1 => (f12_isWord I L a0 r1).bind fun r3 => (if r3 = 0 then (f12_w6 (108 : Int32) (101 : Int32) (97 : Int32) (114 : Int32) (110 : Int32) (115 : Int32)).bind fun r6 => (f12_isWord I L a0 r6).bind fun r8 => (if r8 = 0 then (f12_w5 (119 : Int32) (101 : Int32) (97 : Int32) (114 : Int32) (115 : Int32)).bind fun r11 => (f12_isWord I L a0 r11).bind fun r13 => (if r13 = 0 then (f12_w4 (114 : Int32) (111 : Int32) (108 : Int32) (108 : Int32)).bind fun r16 => (f12_isWord I L a0 r16).bind fun r18 => (if r18 = 0 then (f12_w5 (99 : Int32) (104 : Int32) (105 : Int32) (108 : Int32) (100 : Int32)).bind fun r21 => (f12_isWord I L a0 r21).bind fun r23 => (if r23 = 0 then (f12_w4 (112 : Int32) (108 : Int32) (97 : Int32) (121 : Int32)).bind fun r26 => (f12_isWord I L a0 r26).bind fun r28 => (if r28 = 0 then (f12_w5 (112 : Int32) (97 : Int32) (116 : Int32) (99 : Int32) (104 : Int32)).bind fun r31 => (f12_isWord I L a0 r31).bind fun r33 => (if r33 = 0 then (f12_w6 (102 : Int32) (111 : Int32) (114 : Int32) (103 : Int32) (101 : Int32) (116 : Int32)).bind fun r36 => (f12_isWord I L a0 r36).bind fun r38 => (if r38 = 0 then (f12_w6 (115 : Int32) (117 : Int32) (110 : Int32) (100 : Int32) (97 : Int32) (121 : Int32)).bind fun r41 => (f12_isWord I L a0 r41).bind fun r43 => (if r43 = 0 then some (((-1) : Int32)) else some ((8 : Int32))) else some ((7 : Int32))) else some ((6 : Int32))) else some ((5 : Int32))) else some ((4 : Int32))) else some ((3 : Int32))) else some ((2 : Int32))) else some ((1 : Int32))) else some ((0 : Int32)))
set_option maxHeartbeats 4000000 in
set_option maxRecDepth 20000 in
theorem o12_sortOf {g : pG} {Qx : Option Value → pW → Prop} {Z : pZ} {I : (Nat → Nat → Int32)} {L : (Nat → Nat → Int64)} {O : (Nat → Nat → Option Nat)} {a0 : Nat} {res : Int32} (d : Nat) (hW : WT Z O) (hZ0 : Z[a0]? = some (12, 34)) (h : f12_sortOf I L a0 = some res) (hQ : Qx (some (.int res)) (Z, I, L, O)) : Ok g (d + 7, RX12, cX12_sortOf, 1, false, 0, 0, Z.length, pSl Z) Qx 0 [(0, .ref a0)] [] (Z, I, L, O) := by
  unfold f12_sortOf at h
  refine ok_aload_n dX12_sortOf_0 0 rfl ?_
  refine ok_bipush (v := 98) dX12_sortOf_1 (by decide) ?_
  refine ok_bipush (v := 108) dX12_sortOf_3 (by decide) ?_
  refine ok_bipush (v := 117) dX12_sortOf_5 (by decide) ?_
  refine ok_bipush (v := 114) dX12_sortOf_7 (by decide) ?_
  refine ok_bipush (v := 115) dX12_sortOf_9 (by decide) ?_
  obtain ⟨r1, hr2, h⟩ := bd h
  refine ok_callS (d := ((d + 1) + 5)) (mt := m12_w5) (mc := 0) (ms := 0) (As := [.int 98, .int 108, .int 117, .int 114, .int 115]) (r := [.ref a0]) dX12_sortOf_11 mo12_w5 mv12_w5 lkRX12_148 rfl rfl (Nat.le_of_ble_eq_true rfl) (by show _ + 1 ≤ d + _; omega) (Nat.le_refl _) (Nat.le_refl _) (pRt_mono ?_)
  refine k12_w5 (d + 1) hW  hr2 ?_
  intro _
  show Ok g _ Qx 14 [(0, .ref a0)] [.long r1, .ref a0] (Z, I, L, O)
  obtain ⟨r3, hr4, h⟩ := bd h
  refine ok_callV (d := ((d + 4) + 2)) (mt := m12_isWord) (mc := 0) (ms := 0) (As := [.long r1]) (r := []) dX12_sortOf_14 mo12_isWord mv12_isWord lkRX12_203 rfl hZ0 (q := (RX12, TX12, 34)) rfl rfl rfl (Nat.le_of_ble_eq_true rfl) (by show _ + 1 ≤ d + _; omega) (Nat.le_refl _) (Nat.le_refl _) (pRt_mono ?_)
  refine k12_isWord (d + 4) hW hZ0 hr4 ?_
  intro hbr3
  show Ok g _ Qx 17 [(0, .ref a0)] [.int r3] (Z, I, L, O)
  refine ok_if_eq (t := 22) dX12_sortOf_17 (by decide) (fun hc5 => ?_) (fun hc5 => ?_)
  · have h := (if_pos hc5).symm.trans h
    refine ok_aload_n dX12_sortOf_22 0 rfl ?_
    refine ok_bipush (v := 108) dX12_sortOf_23 (by decide) ?_
    refine ok_bipush (v := 101) dX12_sortOf_25 (by decide) ?_
    refine ok_bipush (v := 97) dX12_sortOf_27 (by decide) ?_
    refine ok_bipush (v := 114) dX12_sortOf_29 (by decide) ?_
    refine ok_bipush (v := 110) dX12_sortOf_31 (by decide) ?_
    refine ok_bipush (v := 115) dX12_sortOf_33 (by decide) ?_
    obtain ⟨r6, hr7, h⟩ := bd h
    refine ok_callS (d := ((d + 0) + 6)) (mt := m12_w6) (mc := 0) (ms := 0) (As := [.int 108, .int 101, .int 97, .int 114, .int 110, .int 115]) (r := [.ref a0]) dX12_sortOf_35 mo12_w6 mv12_w6 lkRX12_158 rfl rfl (Nat.le_of_ble_eq_true rfl) (by show _ + 1 ≤ d + _; omega) (Nat.le_refl _) (Nat.le_refl _) (pRt_mono ?_)
    refine k12_w6 (d + 0) hW  hr7 ?_
    intro _
    show Ok g _ Qx 38 [(0, .ref a0)] [.long r6, .ref a0] (Z, I, L, O)
    obtain ⟨r8, hr9, h⟩ := bd h
    refine ok_callV (d := ((d + 4) + 2)) (mt := m12_isWord) (mc := 0) (ms := 0) (As := [.long r6]) (r := []) dX12_sortOf_38 mo12_isWord mv12_isWord lkRX12_203 rfl hZ0 (q := (RX12, TX12, 34)) rfl rfl rfl (Nat.le_of_ble_eq_true rfl) (by show _ + 1 ≤ d + _; omega) (Nat.le_refl _) (Nat.le_refl _) (pRt_mono ?_)
    refine k12_isWord (d + 4) hW hZ0 hr9 ?_
    intro hbr8
    show Ok g _ Qx 41 [(0, .ref a0)] [.int r8] (Z, I, L, O)
    refine ok_if_eq (t := 46) dX12_sortOf_41 (by decide) (fun hc10 => ?_) (fun hc10 => ?_)
    · have h := (if_pos hc10).symm.trans h
      refine ok_aload_n dX12_sortOf_46 0 rfl ?_
      refine ok_bipush (v := 119) dX12_sortOf_47 (by decide) ?_
      refine ok_bipush (v := 101) dX12_sortOf_49 (by decide) ?_
      refine ok_bipush (v := 97) dX12_sortOf_51 (by decide) ?_
      refine ok_bipush (v := 114) dX12_sortOf_53 (by decide) ?_
      refine ok_bipush (v := 115) dX12_sortOf_55 (by decide) ?_
      obtain ⟨r11, hr12, h⟩ := bd h
      refine ok_callS (d := ((d + 1) + 5)) (mt := m12_w5) (mc := 0) (ms := 0) (As := [.int 119, .int 101, .int 97, .int 114, .int 115]) (r := [.ref a0]) dX12_sortOf_57 mo12_w5 mv12_w5 lkRX12_148 rfl rfl (Nat.le_of_ble_eq_true rfl) (by show _ + 1 ≤ d + _; omega) (Nat.le_refl _) (Nat.le_refl _) (pRt_mono ?_)
      refine k12_w5 (d + 1) hW  hr12 ?_
      intro _
      show Ok g _ Qx 60 [(0, .ref a0)] [.long r11, .ref a0] (Z, I, L, O)
      obtain ⟨r13, hr14, h⟩ := bd h
      refine ok_callV (d := ((d + 4) + 2)) (mt := m12_isWord) (mc := 0) (ms := 0) (As := [.long r11]) (r := []) dX12_sortOf_60 mo12_isWord mv12_isWord lkRX12_203 rfl hZ0 (q := (RX12, TX12, 34)) rfl rfl rfl (Nat.le_of_ble_eq_true rfl) (by show _ + 1 ≤ d + _; omega) (Nat.le_refl _) (Nat.le_refl _) (pRt_mono ?_)
      refine k12_isWord (d + 4) hW hZ0 hr14 ?_
      intro hbr13
      show Ok g _ Qx 63 [(0, .ref a0)] [.int r13] (Z, I, L, O)
      refine ok_if_eq (t := 68) dX12_sortOf_63 (by decide) (fun hc15 => ?_) (fun hc15 => ?_)
      · have h := (if_pos hc15).symm.trans h
        refine ok_aload_n dX12_sortOf_68 0 rfl ?_
        refine ok_bipush (v := 114) dX12_sortOf_69 (by decide) ?_
        refine ok_bipush (v := 111) dX12_sortOf_71 (by decide) ?_
        refine ok_bipush (v := 108) dX12_sortOf_73 (by decide) ?_
        refine ok_bipush (v := 108) dX12_sortOf_75 (by decide) ?_
        obtain ⟨r16, hr17, h⟩ := bd h
        refine ok_callS (d := ((d + 2) + 4)) (mt := m12_w4) (mc := 0) (ms := 0) (As := [.int 114, .int 111, .int 108, .int 108]) (r := [.ref a0]) dX12_sortOf_77 mo12_w4 mv12_w4 lkRX12_144 rfl rfl (Nat.le_of_ble_eq_true rfl) (by show _ + 1 ≤ d + _; omega) (Nat.le_refl _) (Nat.le_refl _) (pRt_mono ?_)
        refine k12_w4 (d + 2) hW  hr17 ?_
        intro _
        show Ok g _ Qx 80 [(0, .ref a0)] [.long r16, .ref a0] (Z, I, L, O)
        obtain ⟨r18, hr19, h⟩ := bd h
        refine ok_callV (d := ((d + 4) + 2)) (mt := m12_isWord) (mc := 0) (ms := 0) (As := [.long r16]) (r := []) dX12_sortOf_80 mo12_isWord mv12_isWord lkRX12_203 rfl hZ0 (q := (RX12, TX12, 34)) rfl rfl rfl (Nat.le_of_ble_eq_true rfl) (by show _ + 1 ≤ d + _; omega) (Nat.le_refl _) (Nat.le_refl _) (pRt_mono ?_)
        refine k12_isWord (d + 4) hW hZ0 hr19 ?_
        intro hbr18
        show Ok g _ Qx 83 [(0, .ref a0)] [.int r18] (Z, I, L, O)
        refine ok_if_eq (t := 88) dX12_sortOf_83 (by decide) (fun hc20 => ?_) (fun hc20 => ?_)
        · have h := (if_pos hc20).symm.trans h
          refine ok_aload_n dX12_sortOf_88 0 rfl ?_
          refine ok_bipush (v := 99) dX12_sortOf_89 (by decide) ?_
          refine ok_bipush (v := 104) dX12_sortOf_91 (by decide) ?_
          refine ok_bipush (v := 105) dX12_sortOf_93 (by decide) ?_
          refine ok_bipush (v := 108) dX12_sortOf_95 (by decide) ?_
          refine ok_bipush (v := 100) dX12_sortOf_97 (by decide) ?_
          obtain ⟨r21, hr22, h⟩ := bd h
          refine ok_callS (d := ((d + 1) + 5)) (mt := m12_w5) (mc := 0) (ms := 0) (As := [.int 99, .int 104, .int 105, .int 108, .int 100]) (r := [.ref a0]) dX12_sortOf_99 mo12_w5 mv12_w5 lkRX12_148 rfl rfl (Nat.le_of_ble_eq_true rfl) (by show _ + 1 ≤ d + _; omega) (Nat.le_refl _) (Nat.le_refl _) (pRt_mono ?_)
          refine k12_w5 (d + 1) hW  hr22 ?_
          intro _
          show Ok g _ Qx 102 [(0, .ref a0)] [.long r21, .ref a0] (Z, I, L, O)
          obtain ⟨r23, hr24, h⟩ := bd h
          refine ok_callV (d := ((d + 4) + 2)) (mt := m12_isWord) (mc := 0) (ms := 0) (As := [.long r21]) (r := []) dX12_sortOf_102 mo12_isWord mv12_isWord lkRX12_203 rfl hZ0 (q := (RX12, TX12, 34)) rfl rfl rfl (Nat.le_of_ble_eq_true rfl) (by show _ + 1 ≤ d + _; omega) (Nat.le_refl _) (Nat.le_refl _) (pRt_mono ?_)
          refine k12_isWord (d + 4) hW hZ0 hr24 ?_
          intro hbr23
          show Ok g _ Qx 105 [(0, .ref a0)] [.int r23] (Z, I, L, O)
          refine ok_if_eq (t := 110) dX12_sortOf_105 (by decide) (fun hc25 => ?_) (fun hc25 => ?_)
          · have h := (if_pos hc25).symm.trans h
            refine ok_aload_n dX12_sortOf_110 0 rfl ?_
            refine ok_bipush (v := 112) dX12_sortOf_111 (by decide) ?_
            refine ok_bipush (v := 108) dX12_sortOf_113 (by decide) ?_
            refine ok_bipush (v := 97) dX12_sortOf_115 (by decide) ?_
            refine ok_bipush (v := 121) dX12_sortOf_117 (by decide) ?_
            obtain ⟨r26, hr27, h⟩ := bd h
            refine ok_callS (d := ((d + 2) + 4)) (mt := m12_w4) (mc := 0) (ms := 0) (As := [.int 112, .int 108, .int 97, .int 121]) (r := [.ref a0]) dX12_sortOf_119 mo12_w4 mv12_w4 lkRX12_144 rfl rfl (Nat.le_of_ble_eq_true rfl) (by show _ + 1 ≤ d + _; omega) (Nat.le_refl _) (Nat.le_refl _) (pRt_mono ?_)
            refine k12_w4 (d + 2) hW  hr27 ?_
            intro _
            show Ok g _ Qx 122 [(0, .ref a0)] [.long r26, .ref a0] (Z, I, L, O)
            obtain ⟨r28, hr29, h⟩ := bd h
            refine ok_callV (d := ((d + 4) + 2)) (mt := m12_isWord) (mc := 0) (ms := 0) (As := [.long r26]) (r := []) dX12_sortOf_122 mo12_isWord mv12_isWord lkRX12_203 rfl hZ0 (q := (RX12, TX12, 34)) rfl rfl rfl (Nat.le_of_ble_eq_true rfl) (by show _ + 1 ≤ d + _; omega) (Nat.le_refl _) (Nat.le_refl _) (pRt_mono ?_)
            refine k12_isWord (d + 4) hW hZ0 hr29 ?_
            intro hbr28
            show Ok g _ Qx 125 [(0, .ref a0)] [.int r28] (Z, I, L, O)
            refine ok_if_eq (t := 130) dX12_sortOf_125 (by decide) (fun hc30 => ?_) (fun hc30 => ?_)
            · have h := (if_pos hc30).symm.trans h
              refine ok_aload_n dX12_sortOf_130 0 rfl ?_
              refine ok_bipush (v := 112) dX12_sortOf_131 (by decide) ?_
              refine ok_bipush (v := 97) dX12_sortOf_133 (by decide) ?_
              refine ok_bipush (v := 116) dX12_sortOf_135 (by decide) ?_
              refine ok_bipush (v := 99) dX12_sortOf_137 (by decide) ?_
              refine ok_bipush (v := 104) dX12_sortOf_139 (by decide) ?_
              obtain ⟨r31, hr32, h⟩ := bd h
              refine ok_callS (d := ((d + 1) + 5)) (mt := m12_w5) (mc := 0) (ms := 0) (As := [.int 112, .int 97, .int 116, .int 99, .int 104]) (r := [.ref a0]) dX12_sortOf_141 mo12_w5 mv12_w5 lkRX12_148 rfl rfl (Nat.le_of_ble_eq_true rfl) (by show _ + 1 ≤ d + _; omega) (Nat.le_refl _) (Nat.le_refl _) (pRt_mono ?_)
              refine k12_w5 (d + 1) hW  hr32 ?_
              intro _
              show Ok g _ Qx 144 [(0, .ref a0)] [.long r31, .ref a0] (Z, I, L, O)
              obtain ⟨r33, hr34, h⟩ := bd h
              refine ok_callV (d := ((d + 4) + 2)) (mt := m12_isWord) (mc := 0) (ms := 0) (As := [.long r31]) (r := []) dX12_sortOf_144 mo12_isWord mv12_isWord lkRX12_203 rfl hZ0 (q := (RX12, TX12, 34)) rfl rfl rfl (Nat.le_of_ble_eq_true rfl) (by show _ + 1 ≤ d + _; omega) (Nat.le_refl _) (Nat.le_refl _) (pRt_mono ?_)
              refine k12_isWord (d + 4) hW hZ0 hr34 ?_
              intro hbr33
              show Ok g _ Qx 147 [(0, .ref a0)] [.int r33] (Z, I, L, O)
              refine ok_if_eq (t := 153) dX12_sortOf_147 (by decide) (fun hc35 => ?_) (fun hc35 => ?_)
              · have h := (if_pos hc35).symm.trans h
                refine ok_aload_n dX12_sortOf_153 0 rfl ?_
                refine ok_bipush (v := 102) dX12_sortOf_154 (by decide) ?_
                refine ok_bipush (v := 111) dX12_sortOf_156 (by decide) ?_
                refine ok_bipush (v := 114) dX12_sortOf_158 (by decide) ?_
                refine ok_bipush (v := 103) dX12_sortOf_160 (by decide) ?_
                refine ok_bipush (v := 101) dX12_sortOf_162 (by decide) ?_
                refine ok_bipush (v := 116) dX12_sortOf_164 (by decide) ?_
                obtain ⟨r36, hr37, h⟩ := bd h
                refine ok_callS (d := ((d + 0) + 6)) (mt := m12_w6) (mc := 0) (ms := 0) (As := [.int 102, .int 111, .int 114, .int 103, .int 101, .int 116]) (r := [.ref a0]) dX12_sortOf_166 mo12_w6 mv12_w6 lkRX12_158 rfl rfl (Nat.le_of_ble_eq_true rfl) (by show _ + 1 ≤ d + _; omega) (Nat.le_refl _) (Nat.le_refl _) (pRt_mono ?_)
                refine k12_w6 (d + 0) hW  hr37 ?_
                intro _
                show Ok g _ Qx 169 [(0, .ref a0)] [.long r36, .ref a0] (Z, I, L, O)
                obtain ⟨r38, hr39, h⟩ := bd h
                refine ok_callV (d := ((d + 4) + 2)) (mt := m12_isWord) (mc := 0) (ms := 0) (As := [.long r36]) (r := []) dX12_sortOf_169 mo12_isWord mv12_isWord lkRX12_203 rfl hZ0 (q := (RX12, TX12, 34)) rfl rfl rfl (Nat.le_of_ble_eq_true rfl) (by show _ + 1 ≤ d + _; omega) (Nat.le_refl _) (Nat.le_refl _) (pRt_mono ?_)
                refine k12_isWord (d + 4) hW hZ0 hr39 ?_
                intro hbr38
                show Ok g _ Qx 172 [(0, .ref a0)] [.int r38] (Z, I, L, O)
                refine ok_if_eq (t := 180) dX12_sortOf_172 (by decide) (fun hc40 => ?_) (fun hc40 => ?_)
                · have h := (if_pos hc40).symm.trans h
                  refine ok_aload_n dX12_sortOf_180 0 rfl ?_
                  refine ok_bipush (v := 115) dX12_sortOf_181 (by decide) ?_
                  refine ok_bipush (v := 117) dX12_sortOf_183 (by decide) ?_
                  refine ok_bipush (v := 110) dX12_sortOf_185 (by decide) ?_
                  refine ok_bipush (v := 100) dX12_sortOf_187 (by decide) ?_
                  refine ok_bipush (v := 97) dX12_sortOf_189 (by decide) ?_
                  refine ok_bipush (v := 121) dX12_sortOf_191 (by decide) ?_
                  obtain ⟨r41, hr42, h⟩ := bd h
                  refine ok_callS (d := ((d + 0) + 6)) (mt := m12_w6) (mc := 0) (ms := 0) (As := [.int 115, .int 117, .int 110, .int 100, .int 97, .int 121]) (r := [.ref a0]) dX12_sortOf_193 mo12_w6 mv12_w6 lkRX12_158 rfl rfl (Nat.le_of_ble_eq_true rfl) (by show _ + 1 ≤ d + _; omega) (Nat.le_refl _) (Nat.le_refl _) (pRt_mono ?_)
                  refine k12_w6 (d + 0) hW  hr42 ?_
                  intro _
                  show Ok g _ Qx 196 [(0, .ref a0)] [.long r41, .ref a0] (Z, I, L, O)
                  obtain ⟨r43, hr44, h⟩ := bd h
                  refine ok_callV (d := ((d + 4) + 2)) (mt := m12_isWord) (mc := 0) (ms := 0) (As := [.long r41]) (r := []) dX12_sortOf_196 mo12_isWord mv12_isWord lkRX12_203 rfl hZ0 (q := (RX12, TX12, 34)) rfl rfl rfl (Nat.le_of_ble_eq_true rfl) (by show _ + 1 ≤ d + _; omega) (Nat.le_refl _) (Nat.le_refl _) (pRt_mono ?_)
                  refine k12_isWord (d + 4) hW hZ0 hr44 ?_
                  intro hbr43
                  show Ok g _ Qx 199 [(0, .ref a0)] [.int r43] (Z, I, L, O)
                  refine ok_if_eq (t := 207) dX12_sortOf_199 (by decide) (fun hc45 => ?_) (fun hc45 => ?_)
                  · have h := (if_pos hc45).symm.trans h
                    refine ok_iconst (v := (-1)) dX12_sortOf_207 (by decide) ?_
                    cases h
                    exact ok_iret dX12_sortOf_208 hQ
                  · have h := (if_neg hc45).symm.trans h
                    refine ok_bipush (v := 8) dX12_sortOf_202 (by decide) ?_
                    refine ok_goto (t := 208) dX12_sortOf_204 (by decide) ?_
                    cases h
                    exact ok_iret dX12_sortOf_208 hQ
                · have h := (if_neg hc40).symm.trans h
                  refine ok_bipush (v := 7) dX12_sortOf_175 (by decide) ?_
                  refine ok_goto (t := 208) dX12_sortOf_177 (by decide) ?_
                  cases h
                  exact ok_iret dX12_sortOf_208 hQ
              · have h := (if_neg hc35).symm.trans h
                refine ok_bipush (v := 6) dX12_sortOf_150 (by decide) ?_
                cases h
                exact ok_iret dX12_sortOf_152 hQ
            · have h := (if_neg hc30).symm.trans h
              refine ok_iconst (v := 5) dX12_sortOf_128 (by decide) ?_
              cases h
              exact ok_iret dX12_sortOf_129 hQ
          · have h := (if_neg hc25).symm.trans h
            refine ok_iconst (v := 4) dX12_sortOf_108 (by decide) ?_
            cases h
            exact ok_iret dX12_sortOf_109 hQ
        · have h := (if_neg hc20).symm.trans h
          refine ok_iconst (v := 3) dX12_sortOf_86 (by decide) ?_
          cases h
          exact ok_iret dX12_sortOf_87 hQ
      · have h := (if_neg hc15).symm.trans h
        refine ok_iconst (v := 2) dX12_sortOf_66 (by decide) ?_
        cases h
        exact ok_iret dX12_sortOf_67 hQ
    · have h := (if_neg hc10).symm.trans h
      refine ok_iconst (v := 1) dX12_sortOf_44 (by decide) ?_
      cases h
      exact ok_iret dX12_sortOf_45 hQ
  · have h := (if_neg hc5).symm.trans h
    refine ok_iconst (v := 0) dX12_sortOf_20 (by decide) ?_
    cases h
    exact ok_iret dX12_sortOf_21 hQ
theorem k12_sortOf {g : pG} {Q : Option Value → pW → Prop} {Z : pZ} {I : (Nat → Nat → Int32)} {L : (Nat → Nat → Int64)} {O : (Nat → Nat → Option Nat)} {a0 : Nat} {res : Int32} (d : Nat) (hW : WT Z O) (hZ0 : Z[a0]? = some (12, 34)) (h : f12_sortOf I L a0 = some res) (hQ : Q (some (.int res)) (Z, I, L, O)) : CT g (d + 7) m12_sortOf 0 0 [.ref a0] (Z, I, L, O) Q :=
  ct_of_ok (mt := m12_sortOf) (ini := false) mo12_sortOf.2.2.2.2 (fun h => by cases h) (Nat.le_of_ble_eq_true rfl) (o12_sortOf d hW hZ0 h ⟨trivial, hQ, rfl, rfl⟩)
theorem dX12_clause_0 : decode cX12_clause 0 = .ok (.aload_n 0, 1) := by decide +kernel
theorem dX12_clause_1 : decode cX12_clause 1 = .ok (.invokevirtual 246, 3) := by decide +kernel
theorem dX12_clause_4 : decode cX12_clause 4 = .ok (.istore_n 1, 1) := by decide +kernel
theorem dX12_clause_5 : decode cX12_clause 5 = .ok (.iload_n 1, 1) := by decide +kernel
theorem dX12_clause_6 : decode cX12_clause 6 = .ok (.ifCond .ge 5, 3) := by decide +kernel
theorem dX12_clause_9 : decode cX12_clause 9 = .ok (.iconst 1, 1) := by decide +kernel
theorem dX12_clause_10 : decode cX12_clause 10 = .ok (.ireturn, 1) := by decide +kernel
theorem dX12_clause_11 : decode cX12_clause 11 = .ok (.iload_n 1, 1) := by decide +kernel
theorem dX12_clause_12 : decode cX12_clause 12 = .ok (.iconst 2, 1) := by decide +kernel
theorem dX12_clause_13 : decode cX12_clause 13 = .ok (.if_icmp .gt 16, 3) := by decide +kernel
theorem dX12_clause_16 : decode cX12_clause 16 = .ok (.aload_n 0, 1) := by decide +kernel
theorem dX12_clause_17 : decode cX12_clause 17 = .ok (.getfield 249, 3) := by decide +kernel
theorem dX12_clause_20 : decode cX12_clause 20 = .ok (.iload_n 1, 1) := by decide +kernel
theorem dX12_clause_21 : decode cX12_clause 21 = .ok (.invokestatic 252, 3) := by decide +kernel
theorem dX12_clause_24 : decode cX12_clause 24 = .ok (.ifCond .eq 5, 3) := by decide +kernel
theorem dX12_clause_27 : decode cX12_clause 27 = .ok (.iconst 4, 1) := by decide +kernel
theorem dX12_clause_28 : decode cX12_clause 28 = .ok (.ireturn, 1) := by decide +kernel
theorem dX12_clause_29 : decode cX12_clause 29 = .ok (.aload_n 0, 1) := by decide +kernel
theorem dX12_clause_30 : decode cX12_clause 30 = .ok (.getfield 16, 3) := by decide +kernel
theorem dX12_clause_33 : decode cX12_clause 33 = .ok (.aload_n 0, 1) := by decide +kernel
theorem dX12_clause_34 : decode cX12_clause 34 = .ok (.getfield 152, 3) := by decide +kernel
theorem dX12_clause_37 : decode cX12_clause 37 = .ok (.iaload, 1) := by decide +kernel
theorem dX12_clause_38 : decode cX12_clause 38 = .ok (.istore_n 2, 1) := by decide +kernel
theorem dX12_clause_39 : decode cX12_clause 39 = .ok (.iload_n 2, 1) := by decide +kernel
theorem dX12_clause_40 : decode cX12_clause 40 = .ok (.bipush 24, 2) := by decide +kernel
theorem dX12_clause_42 : decode cX12_clause 42 = .ok (.if_icmp .ne 6, 3) := by decide +kernel
theorem dX12_clause_45 : decode cX12_clause 45 = .ok (.bipush 6, 2) := by decide +kernel
theorem dX12_clause_47 : decode cX12_clause 47 = .ok (.ireturn, 1) := by decide +kernel
theorem dX12_clause_48 : decode cX12_clause 48 = .ok (.iload_n 1, 1) := by decide +kernel
theorem dX12_clause_49 : decode cX12_clause 49 = .ok (.iconst 2, 1) := by decide +kernel
theorem dX12_clause_50 : decode cX12_clause 50 = .ok (.if_icmp .gt 15, 3) := by decide +kernel
theorem dX12_clause_53 : decode cX12_clause 53 = .ok (.aload_n 0, 1) := by decide +kernel
theorem dX12_clause_54 : decode cX12_clause 54 = .ok (.dup, 1) := by decide +kernel
theorem dX12_clause_55 : decode cX12_clause 55 = .ok (.getfield 249, 3) := by decide +kernel
theorem dX12_clause_58 : decode cX12_clause 58 = .ok (.iconst 1, 1) := by decide +kernel
theorem dX12_clause_59 : decode cX12_clause 59 = .ok (.iload_n 1, 1) := by decide +kernel
theorem dX12_clause_60 : decode cX12_clause 60 = .ok (.ishl, 1) := by decide +kernel
theorem dX12_clause_61 : decode cX12_clause 61 = .ok (.ior, 1) := by decide +kernel
theorem dX12_clause_62 : decode cX12_clause 62 = .ok (.putfield 249, 3) := by decide +kernel
theorem dX12_clause_65 : decode cX12_clause 65 = .ok (.aload_n 0, 1) := by decide +kernel
theorem dX12_clause_66 : decode cX12_clause 66 = .ok (.iload_n 1, 1) := by decide +kernel
theorem dX12_clause_67 : decode cX12_clause 67 = .ok (.putfield 162, 3) := by decide +kernel
theorem dX12_clause_70 : decode cX12_clause 70 = .ok (.aload_n 0, 1) := by decide +kernel
theorem dX12_clause_71 : decode cX12_clause 71 = .ok (.invokevirtual 185, 3) := by decide +kernel
theorem dX12_clause_74 : decode cX12_clause 74 = .ok (.aload_n 0, 1) := by decide +kernel
theorem dX12_clause_75 : decode cX12_clause 75 = .ok (.getfield 152, 3) := by decide +kernel
theorem dX12_clause_78 : decode cX12_clause 78 = .ok (.iconst 1, 1) := by decide +kernel
theorem dX12_clause_79 : decode cX12_clause 79 = .ok (.iadd, 1) := by decide +kernel
theorem dX12_clause_80 : decode cX12_clause 80 = .ok (.bipush 19, 2) := by decide +kernel
theorem dX12_clause_82 : decode cX12_clause 82 = .ok (.iload_n 2, 1) := by decide +kernel
theorem dX12_clause_83 : decode cX12_clause 83 = .ok (.imul, 1) := by decide +kernel
theorem dX12_clause_84 : decode cX12_clause 84 = .ok (.iadd, 1) := by decide +kernel
theorem dX12_clause_85 : decode cX12_clause 85 = .ok (.istore_n 3, 1) := by decide +kernel
theorem dX12_clause_86 : decode cX12_clause 86 = .ok (.aload_n 0, 1) := by decide +kernel
theorem dX12_clause_87 : decode cX12_clause 87 = .ok (.getfield 16, 3) := by decide +kernel
theorem dX12_clause_90 : decode cX12_clause 90 = .ok (.iload_n 3, 1) := by decide +kernel
theorem dX12_clause_91 : decode cX12_clause 91 = .ok (.iload_n 1, 1) := by decide +kernel
theorem dX12_clause_92 : decode cX12_clause 92 = .ok (.iastore, 1) := by decide +kernel
theorem dX12_clause_93 : decode cX12_clause 93 = .ok (.aload_n 0, 1) := by decide +kernel
theorem dX12_clause_94 : decode cX12_clause 94 = .ok (.iload_n 1, 1) := by decide +kernel
theorem dX12_clause_95 : decode cX12_clause 95 = .ok (.iload_n 3, 1) := by decide +kernel
theorem dX12_clause_96 : decode cX12_clause 96 = .ok (.invokevirtual 255, 3) := by decide +kernel
theorem dX12_clause_99 : decode cX12_clause 99 = .ok (.istore 4, 2) := by decide +kernel
theorem dX12_clause_101 : decode cX12_clause 101 = .ok (.iload 4, 2) := by decide +kernel
theorem dX12_clause_103 : decode cX12_clause 103 = .ok (.ifCond .eq 6, 3) := by decide +kernel
theorem dX12_clause_106 : decode cX12_clause 106 = .ok (.iload 4, 2) := by decide +kernel
theorem dX12_clause_108 : decode cX12_clause 108 = .ok (.ireturn, 1) := by decide +kernel
theorem dX12_clause_109 : decode cX12_clause 109 = .ok (.aload_n 0, 1) := by decide +kernel
theorem dX12_clause_110 : decode cX12_clause 110 = .ok (.getfield 16, 3) := by decide +kernel
theorem dX12_clause_113 : decode cX12_clause 113 = .ok (.aload_n 0, 1) := by decide +kernel
theorem dX12_clause_114 : decode cX12_clause 114 = .ok (.getfield 152, 3) := by decide +kernel
theorem dX12_clause_117 : decode cX12_clause 117 = .ok (.dup2, 1) := by decide +kernel
theorem dX12_clause_118 : decode cX12_clause 118 = .ok (.iaload, 1) := by decide +kernel
theorem dX12_clause_119 : decode cX12_clause 119 = .ok (.iconst 1, 1) := by decide +kernel
theorem dX12_clause_120 : decode cX12_clause 120 = .ok (.iadd, 1) := by decide +kernel
theorem dX12_clause_121 : decode cX12_clause 121 = .ok (.iastore, 1) := by decide +kernel
theorem dX12_clause_122 : decode cX12_clause 122 = .ok (.aload_n 0, 1) := by decide +kernel
theorem dX12_clause_123 : decode cX12_clause 123 = .ok (.getfield 114, 3) := by decide +kernel
theorem dX12_clause_126 : decode cX12_clause 126 = .ok (.bipush 59, 2) := by decide +kernel
theorem dX12_clause_128 : decode cX12_clause 128 = .ok (.if_icmp .eq 5, 3) := by decide +kernel
theorem dX12_clause_131 : decode cX12_clause 131 = .ok (.iconst 1, 1) := by decide +kernel
theorem dX12_clause_132 : decode cX12_clause 132 = .ok (.ireturn, 1) := by decide +kernel
theorem dX12_clause_133 : decode cX12_clause 133 = .ok (.aload_n 0, 1) := by decide +kernel
theorem dX12_clause_134 : decode cX12_clause 134 = .ok (.invokevirtual 185, 3) := by decide +kernel
theorem dX12_clause_137 : decode cX12_clause 137 = .ok (.iconst 0, 1) := by decide +kernel
theorem dX12_clause_138 : decode cX12_clause 138 = .ok (.ireturn, 1) := by decide +kernel
def m12_clause : pMT := (yX12_clause, cX12_clause, 5, some .int)
theorem mo12_clause : mOK m12_clause 0 := ⟨tb_i 1478 (by decide +kernel), wi_RX12, ⟨wn_RX12.1, wn_RX12.2, by decide +kernel⟩, by decide, plainFor_of_name wp_RX12⟩
theorem mv12_clause : mV m12_clause := ⟨tb_i 1477 (by decide +kernel), tb_p 64 (by decide +kernel)⟩
def f12_clause_c65 (n : Nat) (O : (Nat → Nat → Option Nat)) (I : (Nat → Nat → Int32)) (L : (Nat → Nat → Int64)) (b0 : Nat) (y1 : Int32) (y2 : Int32) : Option (Int32 × (Nat → Nat → Int32) × (Nat → Nat → Int64)) := bl (sI I b0 14 y1) fun I1 => (f12_nextToken n I1 L O b0).bind fun r2 => bl ((((r2.1 b0 12) + 1) + ((19 : Int32) * y2)) : Int32) fun z4 => (if z4 < 0 ∨ 4260 ≤ z4.toNatClampNeg then none else bl (sI r2.1 (rO O b0 2) z4.toNatClampNeg y1) fun I7 => (f12_body n I7 r2.2 O b0 y1 z4).bind fun r8 => (if r8.1 = 0 then (if (r8.2.1 b0 12) < 0 ∨ 4260 ≤ (r8.2.1 b0 12).toNatClampNeg then none else (if (r8.2.1 b0 12) < 0 ∨ 4260 ≤ (r8.2.1 b0 12).toNatClampNeg then none else bl (sI r8.2.1 (rO O b0 2) (r8.2.1 b0 12).toNatClampNeg ((r8.2.1 (rO O b0 2) (r8.2.1 b0 12).toNatClampNeg) + 1)) fun I13 => (if (I13 b0 9) = (59 : Int32) then (f12_nextToken n I13 r8.2.2 O b0).bind fun r15 => some ((0 : Int32), r15.1, r15.2) else some ((1 : Int32), I13, r8.2.2)))) else some (r8.1, r8.2.1, r8.2.2)))
set_option maxHeartbeats 4000000 in
set_option maxRecDepth 20000 in
theorem o12_clause_c65 {g : pG} {Qx : Option Value → pW → Prop} {Z : pZ} {O : (Nat → Nat → Option Nat)} {n : Nat} {res : Int32 × (Nat → Nat → Int32) × (Nat → Nat → Int64)} (d : Nat) (hW : WT Z O) (hQ : Qx (some (.int res.1)) (Z, res.2.1, res.2.2, O)) (I : (Nat → Nat → Int32)) (L : (Nat → Nat → Int64)) (b0 : Nat) (y1 : Int32) (y2 : Int32) (hZ_b0 : Z[b0]? = some (12, 34)) (h : f12_clause_c65 n O I L b0 y1 y2 = some res) : Ok g (d + 12, RX12, cX12_clause, 5, false, 0, 0, Z.length, pSl Z) Qx 65 [(0, .ref b0), (1, .int y1), (2, .int y2)] [] (Z, I, L, O) := by
  unfold f12_clause_c65 at h
  refine ok_aload_n dX12_clause_65 0 rfl ?_
  refine ok_iload_n dX12_clause_66 1 rfl ?_
  obtain ⟨I1, eI1, h⟩ := blE h
  refine ok_putI2 (ci := 12) (k := 14) dX12_clause_67 flRX12_162 rfl (Or.inl rfl) hZ_b0 (by decide) eI1 ?_
  refine ok_aload_n dX12_clause_70 0 rfl ?_
  obtain ⟨r2, hr3, h⟩ := bd h
  refine ok_callV (d := ((d + 8) + 3)) (mt := m12_nextToken) (mc := 0) (ms := 0) (As := []) (r := []) dX12_clause_71 mo12_nextToken mv12_nextToken lkRX12_185 rfl hZ_b0 (q := (RX12, TX12, 34)) rfl rfl rfl (Nat.le_of_ble_eq_true rfl) (by show _ + 1 ≤ d + _; omega) (Nat.le_refl _) (Nat.le_refl _) (pRt_mono ?_)
  refine k12_nextToken (d + 8) hW hZ_b0 hr3 ?_
  intro _
  show Ok g _ Qx 74 [(0, .ref b0), (1, .int y1), (2, .int y2)] [] (Z, r2.1, r2.2, O)
  refine ok_aload_n dX12_clause_74 0 rfl ?_
  refine ok_getI (ci := 12) (k := 12) dX12_clause_75 flRX12_152 rfl hZ_b0 (by decide) ?_
  refine ok_iconst (v := 1) dX12_clause_78 (by decide) ?_
  refine ok_iadd dX12_clause_79 ?_
  refine ok_bipush (v := 19) dX12_clause_80 (by decide) ?_
  refine ok_iload_n dX12_clause_82 2 rfl ?_
  refine ok_imul dX12_clause_83 ?_
  refine ok_iadd dX12_clause_84 ?_
  obtain ⟨z4, ez4, h⟩ := blE h
  refine ok_nm ez4 ?_
  refine ok_istore_n (l' := [(3, .int z4), (0, .ref b0), (1, .int y1), (2, .int y2)]) dX12_clause_85 rfl (Nat.le_of_ble_eq_true rfl) rfl ?_
  refine ok_aload_n dX12_clause_86 1 rfl ?_
  have hT5 : Z[(rO O b0 2)]? = some (13, 4260) := (wt_f (ci := 12) (k := 2) hW hZ_b0 rfl).2
  refine ok_getR (ci := 12) (k := 2) dX12_clause_87 flRX12_16 rfl hW hZ_b0 (by decide) ?_
  refine ok_iload_n dX12_clause_90 0 rfl ?_
  refine ok_iload_n dX12_clause_91 2 rfl ?_
  obtain ⟨hg6, h⟩ := gd h
  obtain ⟨I7, eI7, h⟩ := blE h
  refine ok_iast3 dX12_clause_92 hT5 hg6 rfl eI7 ?_
  refine ok_aload_n dX12_clause_93 1 rfl ?_
  refine ok_iload_n dX12_clause_94 2 rfl ?_
  refine ok_iload_n dX12_clause_95 0 rfl ?_
  obtain ⟨r8, hr9, h⟩ := bd h
  refine ok_callV (d := ((d + 0) + 11)) (mt := m12_body) (mc := 0) (ms := 0) (As := [.int y1, .int z4]) (r := []) dX12_clause_96 mo12_body mv12_body lkRX12_255 rfl hZ_b0 (q := (RX12, TX12, 34)) rfl rfl rfl (Nat.le_of_ble_eq_true rfl) (by show _ + 1 ≤ d + _; omega) (Nat.le_refl _) (Nat.le_refl _) (pRt_mono ?_)
  refine k12_body (d + 0) hW hZ_b0 hr9 ?_
  intro _
  show Ok g _ Qx 99 [(3, .int z4), (0, .ref b0), (1, .int y1), (2, .int y2)] [.int r8.1] (Z, r8.2.1, r8.2.2, O)
  refine ok_istore (l' := [(4, .int r8.1), (3, .int z4), (0, .ref b0), (1, .int y1), (2, .int y2)]) dX12_clause_99 (Nat.le_of_ble_eq_true rfl) rfl ?_
  refine ok_iload dX12_clause_101 0 rfl ?_
  refine ok_if_eq (t := 109) dX12_clause_103 (by decide) (fun hc10 => ?_) (fun hc10 => ?_)
  · have h := (if_pos hc10).symm.trans h
    refine ok_aload_n dX12_clause_109 2 rfl ?_
    refine ok_getR (ci := 12) (k := 2) dX12_clause_110 flRX12_16 rfl hW hZ_b0 (by decide) ?_
    refine ok_aload_n dX12_clause_113 2 rfl ?_
    refine ok_getI (ci := 12) (k := 12) dX12_clause_114 flRX12_152 rfl hZ_b0 (by decide) ?_
    refine ok_dup2 dX12_clause_117 rfl rfl ?_
    obtain ⟨hg11, h⟩ := gd h
    refine ok_iald2 (N := (r8.2.1 b0 12).toNatClampNeg) dX12_clause_118 hT5 hg11 rfl ?_
    refine ok_iconst (v := 1) dX12_clause_119 (by decide) ?_
    refine ok_iadd dX12_clause_120 ?_
    obtain ⟨hg12, h⟩ := gd h
    obtain ⟨I13, eI13, h⟩ := blE h
    refine ok_iast3 dX12_clause_121 hT5 hg12 rfl eI13 ?_
    refine ok_aload_n dX12_clause_122 2 rfl ?_
    refine ok_getI (ci := 12) (k := 9) dX12_clause_123 flRX12_114 rfl hZ_b0 (by decide) ?_
    refine ok_bipush (v := 59) dX12_clause_126 (by decide) ?_
    refine ok_icmp_eq (t := 133) dX12_clause_128 (by decide) (fun hc14 => ?_) (fun hc14 => ?_)
    · have h := (if_pos hc14).symm.trans h
      refine ok_aload_n dX12_clause_133 2 rfl ?_
      obtain ⟨r15, hr16, h⟩ := bd h
      refine ok_callV (d := ((d + 8) + 3)) (mt := m12_nextToken) (mc := 0) (ms := 0) (As := []) (r := []) dX12_clause_134 mo12_nextToken mv12_nextToken lkRX12_185 rfl hZ_b0 (q := (RX12, TX12, 34)) rfl rfl rfl (Nat.le_of_ble_eq_true rfl) (by show _ + 1 ≤ d + _; omega) (Nat.le_refl _) (Nat.le_refl _) (pRt_mono ?_)
      refine k12_nextToken (d + 8) hW hZ_b0 hr16 ?_
      intro _
      show Ok g _ Qx 137 [(4, .int r8.1), (3, .int z4), (0, .ref b0), (1, .int y1), (2, .int y2)] [] (Z, r15.1, r15.2, O)
      refine ok_iconst (v := 0) dX12_clause_137 (by decide) ?_
      cases h
      exact ok_iret dX12_clause_138 hQ
    · have h := (if_neg hc14).symm.trans h
      refine ok_iconst (v := 1) dX12_clause_131 (by decide) ?_
      cases h
      exact ok_iret dX12_clause_132 hQ
  · have h := (if_neg hc10).symm.trans h
    refine ok_iload dX12_clause_106 0 rfl ?_
    cases h
    exact ok_iret dX12_clause_108 hQ
def f12_clause_c29 (n : Nat) (O : (Nat → Nat → Option Nat)) (I : (Nat → Nat → Int32)) (L : (Nat → Nat → Int64)) (b0 : Nat) (y1 : Int32) : Option (Int32 × (Nat → Nat → Int32) × (Nat → Nat → Int64)) := (if (I b0 12) < 0 ∨ 4260 ≤ (I b0 12).toNatClampNeg then none else bl ((I (rO O b0 2) (I b0 12).toNatClampNeg) : Int32) fun z3 => (if z3 = (24 : Int32) then some ((6 : Int32), I, L) else (if (2 : Int32) < y1 then f12_clause_c65 n O I L b0 y1 z3 else bl (sI I b0 19 ((I b0 19) ||| ((1 : Int32) <<< (y1 &&& 31)))) fun I6 => f12_clause_c65 n O I6 L b0 y1 z3)))
set_option maxHeartbeats 4000000 in
set_option maxRecDepth 20000 in
theorem o12_clause_c29 {g : pG} {Qx : Option Value → pW → Prop} {Z : pZ} {O : (Nat → Nat → Option Nat)} {n : Nat} {res : Int32 × (Nat → Nat → Int32) × (Nat → Nat → Int64)} (d : Nat) (hW : WT Z O) (hQ : Qx (some (.int res.1)) (Z, res.2.1, res.2.2, O)) (I : (Nat → Nat → Int32)) (L : (Nat → Nat → Int64)) (b0 : Nat) (y1 : Int32) (hZ_b0 : Z[b0]? = some (12, 34)) (h : f12_clause_c29 n O I L b0 y1 = some res) : Ok g (d + 12, RX12, cX12_clause, 5, false, 0, 0, Z.length, pSl Z) Qx 29 [(0, .ref b0), (1, .int y1)] [] (Z, I, L, O) := by
  unfold f12_clause_c29 at h
  refine ok_aload_n dX12_clause_29 0 rfl ?_
  have hT1 : Z[(rO O b0 2)]? = some (13, 4260) := (wt_f (ci := 12) (k := 2) hW hZ_b0 rfl).2
  refine ok_getR (ci := 12) (k := 2) dX12_clause_30 flRX12_16 rfl hW hZ_b0 (by decide) ?_
  refine ok_aload_n dX12_clause_33 0 rfl ?_
  refine ok_getI (ci := 12) (k := 12) dX12_clause_34 flRX12_152 rfl hZ_b0 (by decide) ?_
  obtain ⟨hg2, h⟩ := gd h
  refine ok_iald2 (N := (I b0 12).toNatClampNeg) dX12_clause_37 hT1 hg2 rfl ?_
  obtain ⟨z3, ez3, h⟩ := blE h
  refine ok_nm ez3 ?_
  refine ok_istore_n (l' := [(2, .int z3), (0, .ref b0), (1, .int y1)]) dX12_clause_38 rfl (Nat.le_of_ble_eq_true rfl) rfl ?_
  refine ok_iload_n dX12_clause_39 0 rfl ?_
  refine ok_bipush (v := 24) dX12_clause_40 (by decide) ?_
  refine ok_icmp_ne (t := 48) dX12_clause_42 (by decide) (fun hc4 => ?_) (fun hc4 => ?_)
  · have h := (if_neg hc4).symm.trans h
    refine ok_iload_n dX12_clause_48 2 rfl ?_
    refine ok_iconst (v := 2) dX12_clause_49 (by decide) ?_
    refine ok_icmp_gt (t := 65) dX12_clause_50 (by decide) (fun hc5 => ?_) (fun hc5 => ?_)
    · have h := (if_pos hc5).symm.trans h
      refine ok_sub [1, 2, 0] rfl ?_
      exact o12_clause_c65 d hW hQ  I L b0 y1 z3 hZ_b0 h
    · have h := (if_neg hc5).symm.trans h
      refine ok_aload_n dX12_clause_53 1 rfl ?_
      refine ok_dup dX12_clause_54 rfl ?_
      refine ok_getI (ci := 12) (k := 19) dX12_clause_55 flRX12_249 rfl hZ_b0 (by decide) ?_
      refine ok_iconst (v := 1) dX12_clause_58 (by decide) ?_
      refine ok_iload_n dX12_clause_59 2 rfl ?_
      refine ok_ishl dX12_clause_60 ?_
      refine ok_ior dX12_clause_61 ?_
      obtain ⟨I6, eI6, h⟩ := blE h
      refine ok_putI2 (ci := 12) (k := 19) dX12_clause_62 flRX12_249 rfl (Or.inl rfl) hZ_b0 (by decide) eI6 ?_
      refine ok_sub [1, 2, 0] rfl ?_
      exact o12_clause_c65 d hW hQ  I6 L b0 y1 z3 hZ_b0 h
  · have h := (if_pos hc4).symm.trans h
    refine ok_bipush (v := 6) dX12_clause_45 (by decide) ?_
    cases h
    exact ok_iret dX12_clause_47 hQ
def f12_clause (n : Nat) (I : (Nat → Nat → Int32)) (L : (Nat → Nat → Int64)) (O : (Nat → Nat → Option Nat)) (a0 : Nat) : Option (Int32 × (Nat → Nat → Int32) × (Nat → Nat → Int64)) := (f12_sortOf I L a0).bind fun r1 => (if 0 ≤ r1 then (if (2 : Int32) < r1 then f12_clause_c29 n O I L a0 r1 else (f12_has (I a0 19) r1).bind fun r5 => (if r5 = 0 then f12_clause_c29 n O I L a0 r1 else some ((4 : Int32), I, L))) else some ((1 : Int32), I, L))
set_option maxHeartbeats 4000000 in
set_option maxRecDepth 20000 in
theorem o12_clause {g : pG} {Qx : Option Value → pW → Prop} {Z : pZ} {I : (Nat → Nat → Int32)} {L : (Nat → Nat → Int64)} {O : (Nat → Nat → Option Nat)} {n : Nat} {a0 : Nat} {res : Int32 × (Nat → Nat → Int32) × (Nat → Nat → Int64)} (d : Nat) (hW : WT Z O) (hZ0 : Z[a0]? = some (12, 34)) (h : f12_clause n I L O a0 = some res) (hQ : Qx (some (.int res.1)) (Z, res.2.1, res.2.2, O)) : Ok g (d + 12, RX12, cX12_clause, 5, false, 0, 0, Z.length, pSl Z) Qx 0 [(0, .ref a0)] [] (Z, I, L, O) := by
  unfold f12_clause at h
  refine ok_aload_n dX12_clause_0 0 rfl ?_
  obtain ⟨r1, hr2, h⟩ := bd h
  refine ok_callV (d := ((d + 4) + 7)) (mt := m12_sortOf) (mc := 0) (ms := 0) (As := []) (r := []) dX12_clause_1 mo12_sortOf mv12_sortOf lkRX12_246 rfl hZ0 (q := (RX12, TX12, 34)) rfl rfl rfl (Nat.le_of_ble_eq_true rfl) (by show _ + 1 ≤ d + _; omega) (Nat.le_refl _) (Nat.le_refl _) (pRt_mono ?_)
  refine k12_sortOf (d + 4) hW hZ0 hr2 ?_
  intro _
  show Ok g _ Qx 4 [(0, .ref a0)] [.int r1] (Z, I, L, O)
  refine ok_istore_n (l' := [(1, .int r1), (0, .ref a0)]) dX12_clause_4 rfl (Nat.le_of_ble_eq_true rfl) rfl ?_
  refine ok_iload_n dX12_clause_5 0 rfl ?_
  refine ok_if_ge (t := 11) dX12_clause_6 (by decide) (fun hc3 => ?_) (fun hc3 => ?_)
  · have h := (if_pos hc3).symm.trans h
    refine ok_iload_n dX12_clause_11 0 rfl ?_
    refine ok_iconst (v := 2) dX12_clause_12 (by decide) ?_
    refine ok_icmp_gt (t := 29) dX12_clause_13 (by decide) (fun hc4 => ?_) (fun hc4 => ?_)
    · have h := (if_pos hc4).symm.trans h
      refine ok_sub [1, 0] rfl ?_
      exact o12_clause_c29 d hW hQ  I L a0 r1 hZ0 h
    · have h := (if_neg hc4).symm.trans h
      refine ok_aload_n dX12_clause_16 1 rfl ?_
      refine ok_getI (ci := 12) (k := 19) dX12_clause_17 flRX12_249 rfl hZ0 (by decide) ?_
      refine ok_iload_n dX12_clause_20 0 rfl ?_
      obtain ⟨r5, hr6, h⟩ := bd h
      refine ok_callS (d := ((d + 9) + 2)) (mt := m12_has) (mc := 0) (ms := 0) (As := [.int (I a0 19), .int r1]) (r := []) dX12_clause_21 mo12_has mv12_has lkRX12_252 rfl rfl (Nat.le_of_ble_eq_true rfl) (by show _ + 1 ≤ d + _; omega) (Nat.le_refl _) (Nat.le_refl _) (pRt_mono ?_)
      refine k12_has (d + 9) hW  hr6 ?_
      intro hbr5
      show Ok g _ Qx 24 [(1, .int r1), (0, .ref a0)] [.int r5] (Z, I, L, O)
      refine ok_if_eq (t := 29) dX12_clause_24 (by decide) (fun hc7 => ?_) (fun hc7 => ?_)
      · have h := (if_pos hc7).symm.trans h
        refine ok_sub [1, 0] rfl ?_
        exact o12_clause_c29 d hW hQ  I L a0 r1 hZ0 h
      · have h := (if_neg hc7).symm.trans h
        refine ok_iconst (v := 4) dX12_clause_27 (by decide) ?_
        cases h
        exact ok_iret dX12_clause_28 hQ
  · have h := (if_neg hc3).symm.trans h
    refine ok_iconst (v := 1) dX12_clause_9 (by decide) ?_
    cases h
    exact ok_iret dX12_clause_10 hQ
theorem k12_clause {g : pG} {Q : Option Value → pW → Prop} {Z : pZ} {I : (Nat → Nat → Int32)} {L : (Nat → Nat → Int64)} {O : (Nat → Nat → Option Nat)} {n : Nat} {a0 : Nat} {res : Int32 × (Nat → Nat → Int32) × (Nat → Nat → Int64)} (d : Nat) (hW : WT Z O) (hZ0 : Z[a0]? = some (12, 34)) (h : f12_clause n I L O a0 = some res) (hQ : Q (some (.int res.1)) (Z, res.2.1, res.2.2, O)) : CT g (d + 12) m12_clause 0 0 [.ref a0] (Z, I, L, O) Q :=
  ct_of_ok (mt := m12_clause) (ini := false) mo12_clause.2.2.2.2 (fun h => by cases h) (Nat.le_of_ble_eq_true rfl) (o12_clause d hW hZ0 h ⟨trivial, hQ, rfl, rfl⟩)
theorem dX12_readText_0 : decode cX12_readText 0 = .ok (.aload_n 0, 1) := by decide +kernel
theorem dX12_readText_1 : decode cX12_readText 1 = .ok (.sipush 1065, 3) := by decide +kernel
theorem dX12_readText_4 : decode cX12_readText 4 = .ok (.aload_n 0, 1) := by decide +kernel
theorem dX12_readText_5 : decode cX12_readText 5 = .ok (.getfield 7, 3) := by decide +kernel
theorem dX12_readText_8 : decode cX12_readText 8 = .ok (.iconst 2, 1) := by decide +kernel
theorem dX12_readText_9 : decode cX12_readText 9 = .ok (.iaload, 1) := by decide +kernel
theorem dX12_readText_10 : decode cX12_readText 10 = .ok (.imul, 1) := by decide +kernel
theorem dX12_readText_11 : decode cX12_readText 11 = .ok (.putfield 152, 3) := by decide +kernel
theorem dX12_readText_14 : decode cX12_readText 14 = .ok (.aload_n 0, 1) := by decide +kernel
theorem dX12_readText_15 : decode cX12_readText 15 = .ok (.getfield 16, 3) := by decide +kernel
theorem dX12_readText_18 : decode cX12_readText 18 = .ok (.aload_n 0, 1) := by decide +kernel
theorem dX12_readText_19 : decode cX12_readText 19 = .ok (.getfield 152, 3) := by decide +kernel
theorem dX12_readText_22 : decode cX12_readText 22 = .ok (.iconst 0, 1) := by decide +kernel
theorem dX12_readText_23 : decode cX12_readText 23 = .ok (.iastore, 1) := by decide +kernel
theorem dX12_readText_24 : decode cX12_readText 24 = .ok (.aload_n 0, 1) := by decide +kernel
theorem dX12_readText_25 : decode cX12_readText 25 = .ok (.iconst 0, 1) := by decide +kernel
theorem dX12_readText_26 : decode cX12_readText 26 = .ok (.putfield 155, 3) := by decide +kernel
theorem dX12_readText_29 : decode cX12_readText 29 = .ok (.aload_n 0, 1) := by decide +kernel
theorem dX12_readText_30 : decode cX12_readText 30 = .ok (.iconst 0, 1) := by decide +kernel
theorem dX12_readText_31 : decode cX12_readText 31 = .ok (.putfield 249, 3) := by decide +kernel
theorem dX12_readText_34 : decode cX12_readText 34 = .ok (.aload_n 0, 1) := by decide +kernel
theorem dX12_readText_35 : decode cX12_readText 35 = .ok (.iconst 0, 1) := by decide +kernel
theorem dX12_readText_36 : decode cX12_readText 36 = .ok (.putfield 104, 3) := by decide +kernel
theorem dX12_readText_39 : decode cX12_readText 39 = .ok (.aload_n 0, 1) := by decide +kernel
theorem dX12_readText_40 : decode cX12_readText 40 = .ok (.invokevirtual 185, 3) := by decide +kernel
theorem dX12_readText_43 : decode cX12_readText 43 = .ok (.aload_n 0, 1) := by decide +kernel
theorem dX12_readText_44 : decode cX12_readText 44 = .ok (.getfield 114, 3) := by decide +kernel
theorem dX12_readText_47 : decode cX12_readText 47 = .ok (.ifCond .eq 17, 3) := by decide +kernel
theorem dX12_readText_50 : decode cX12_readText 50 = .ok (.aload_n 0, 1) := by decide +kernel
theorem dX12_readText_51 : decode cX12_readText 51 = .ok (.invokevirtual 258, 3) := by decide +kernel
theorem dX12_readText_54 : decode cX12_readText 54 = .ok (.istore_n 1, 1) := by decide +kernel
theorem dX12_readText_55 : decode cX12_readText 55 = .ok (.iload_n 1, 1) := by decide +kernel
theorem dX12_readText_56 : decode cX12_readText 56 = .ok (.ifCond .eq 5, 3) := by decide +kernel
theorem dX12_readText_59 : decode cX12_readText 59 = .ok (.iload_n 1, 1) := by decide +kernel
theorem dX12_readText_60 : decode cX12_readText 60 = .ok (.ireturn, 1) := by decide +kernel
theorem dX12_readText_61 : decode cX12_readText 61 = .ok (.goto (-18), 3) := by decide +kernel
theorem dX12_readText_64 : decode cX12_readText 64 = .ok (.iconst 0, 1) := by decide +kernel
theorem dX12_readText_65 : decode cX12_readText 65 = .ok (.ireturn, 1) := by decide +kernel
def m12_readText : pMT := (yX12_readText, cX12_readText, 2, some .int)
theorem mo12_readText : mOK m12_readText 0 := ⟨tb_i 1455 (by decide +kernel), wi_RX12, ⟨wn_RX12.1, wn_RX12.2, by decide +kernel⟩, by decide, plainFor_of_name wp_RX12⟩
theorem mv12_readText : mV m12_readText := ⟨tb_i 1454 (by decide +kernel), tb_p 61 (by decide +kernel)⟩
def f12_readText_c43 (n : Nat) (O : (Nat → Nat → Option Nat)) : Nat → (Nat → Nat → Int32) → (Nat → Nat → Int64) → Nat → Option (Int32 × (Nat → Nat → Int32) × (Nat → Nat → Int64))
  | 0, _, _, _ => none
  | m + 1, I, L, b0 => (if (I b0 9) = 0 then some ((0 : Int32), I, L) else (f12_clause n I L O b0).bind fun r2 => (if r2.1 = 0 then f12_readText_c43 n O m r2.2.1 r2.2.2 b0 else some (r2.1, r2.2.1, r2.2.2)))
set_option maxHeartbeats 4000000 in
set_option maxRecDepth 20000 in
theorem o12_readText_c43 {g : pG} {Qx : Option Value → pW → Prop} {Z : pZ} {O : (Nat → Nat → Option Nat)} {n : Nat} {res : Int32 × (Nat → Nat → Int32) × (Nat → Nat → Int64)} (d : Nat) (hW : WT Z O) (hQ : Qx (some (.int res.1)) (Z, res.2.1, res.2.2, O)) : ∀ (m : Nat) (I : (Nat → Nat → Int32)) (L : (Nat → Nat → Int64)) (b0 : Nat), (Z[b0]? = some (12, 34)) → f12_readText_c43 n O m I L b0 = some res → Ok g (d + 13, RX12, cX12_readText, 2, false, 0, 0, Z.length, pSl Z) Qx 43 [(0, .ref b0)] [] (Z, I, L, O) := by
  intro m
  induction m with
  | zero => intro I L b0 hZ_b0 h; rw [f12_readText_c43] at h; cases h
  | succ m ih =>
    intro I L b0 hZ_b0 h
    rw [f12_readText_c43] at h
    refine ok_aload_n dX12_readText_43 0 rfl ?_
    refine ok_getI (ci := 12) (k := 9) dX12_readText_44 flRX12_114 rfl hZ_b0 (by decide) ?_
    refine ok_if_eq (t := 64) dX12_readText_47 (by decide) (fun hc1 => ?_) (fun hc1 => ?_)
    · have h := (if_pos hc1).symm.trans h
      refine ok_iconst (v := 0) dX12_readText_64 (by decide) ?_
      cases h
      exact ok_iret dX12_readText_65 hQ
    · have h := (if_neg hc1).symm.trans h
      refine ok_aload_n dX12_readText_50 0 rfl ?_
      obtain ⟨r2, hr3, h⟩ := bd h
      refine ok_callV (d := ((d + 0) + 12)) (mt := m12_clause) (mc := 0) (ms := 0) (As := []) (r := []) dX12_readText_51 mo12_clause mv12_clause lkRX12_258 rfl hZ_b0 (q := (RX12, TX12, 34)) rfl rfl rfl (Nat.le_of_ble_eq_true rfl) (by show _ + 1 ≤ d + _; omega) (Nat.le_refl _) (Nat.le_refl _) (pRt_mono ?_)
      refine k12_clause (d + 0) hW hZ_b0 hr3 ?_
      intro _
      show Ok g _ Qx 54 [(0, .ref b0)] [.int r2.1] (Z, r2.2.1, r2.2.2, O)
      refine ok_istore_n (l' := [(1, .int r2.1), (0, .ref b0)]) dX12_readText_54 rfl (Nat.le_of_ble_eq_true rfl) rfl ?_
      refine ok_iload_n dX12_readText_55 0 rfl ?_
      refine ok_if_eq (t := 61) dX12_readText_56 (by decide) (fun hc4 => ?_) (fun hc4 => ?_)
      · have h := (if_pos hc4).symm.trans h
        refine ok_goto (t := 43) dX12_readText_61 (by decide) ?_
        refine ok_sub [1] rfl ?_
        exact ih r2.2.1 r2.2.2 b0 hZ_b0 h
      · have h := (if_neg hc4).symm.trans h
        refine ok_iload_n dX12_readText_59 0 rfl ?_
        cases h
        exact ok_iret dX12_readText_60 hQ
def f12_readText (n : Nat) (I : (Nat → Nat → Int32)) (L : (Nat → Nat → Int64)) (O : (Nat → Nat → Option Nat)) (a0 : Nat) : Option (Int32 × (Nat → Nat → Int32) × (Nat → Nat → Int64)) := bl (sI I a0 12 ((1065 : Int32) * (I (rO O a0 0) 2))) fun I2 => (if (I2 a0 12) < 0 ∨ 4260 ≤ (I2 a0 12).toNatClampNeg then none else bl (sI I2 (rO O a0 2) (I2 a0 12).toNatClampNeg (0 : Int32)) fun I5 => bl (sI I5 a0 13 (0 : Int32)) fun I6 => bl (sI I6 a0 19 (0 : Int32)) fun I7 => bl (sI I7 a0 7 (0 : Int32)) fun I8 => (f12_nextToken n I8 L O a0).bind fun r9 => f12_readText_c43 n O n r9.1 r9.2 a0)
set_option maxHeartbeats 4000000 in
set_option maxRecDepth 20000 in
theorem o12_readText {g : pG} {Qx : Option Value → pW → Prop} {Z : pZ} {I : (Nat → Nat → Int32)} {L : (Nat → Nat → Int64)} {O : (Nat → Nat → Option Nat)} {n : Nat} {a0 : Nat} {res : Int32 × (Nat → Nat → Int32) × (Nat → Nat → Int64)} (d : Nat) (hW : WT Z O) (hZ0 : Z[a0]? = some (12, 34)) (h : f12_readText n I L O a0 = some res) (hQ : Qx (some (.int res.1)) (Z, res.2.1, res.2.2, O)) : Ok g (d + 13, RX12, cX12_readText, 2, false, 0, 0, Z.length, pSl Z) Qx 0 [(0, .ref a0)] [] (Z, I, L, O) := by
  unfold f12_readText at h
  refine ok_aload_n dX12_readText_0 0 rfl ?_
  refine ok_sipush (v := 1065) dX12_readText_1 (by decide) ?_
  refine ok_aload_n dX12_readText_4 0 rfl ?_
  have hT1 : Z[(rO O a0 0)]? = some (13, 4371) := (wt_f (ci := 12) (k := 0) hW hZ0 rfl).2
  refine ok_getR (ci := 12) (k := 0) dX12_readText_5 flRX12_7 rfl hW hZ0 (by decide) ?_
  refine ok_iconst (v := 2) dX12_readText_8 (by decide) ?_
  refine ok_iald2 (N := 2) dX12_readText_9 hT1 (by unfold vp_in; decide) (by decide) ?_
  refine ok_imul dX12_readText_10 ?_
  obtain ⟨I2, eI2, h⟩ := blE h
  refine ok_putI2 (ci := 12) (k := 12) dX12_readText_11 flRX12_152 rfl (Or.inl rfl) hZ0 (by decide) eI2 ?_
  refine ok_aload_n dX12_readText_14 0 rfl ?_
  have hT3 : Z[(rO O a0 2)]? = some (13, 4260) := (wt_f (ci := 12) (k := 2) hW hZ0 rfl).2
  refine ok_getR (ci := 12) (k := 2) dX12_readText_15 flRX12_16 rfl hW hZ0 (by decide) ?_
  refine ok_aload_n dX12_readText_18 0 rfl ?_
  refine ok_getI (ci := 12) (k := 12) dX12_readText_19 flRX12_152 rfl hZ0 (by decide) ?_
  refine ok_iconst (v := 0) dX12_readText_22 (by decide) ?_
  obtain ⟨hg4, h⟩ := gd h
  obtain ⟨I5, eI5, h⟩ := blE h
  refine ok_iast3 dX12_readText_23 hT3 hg4 rfl eI5 ?_
  refine ok_aload_n dX12_readText_24 0 rfl ?_
  refine ok_iconst (v := 0) dX12_readText_25 (by decide) ?_
  obtain ⟨I6, eI6, h⟩ := blE h
  refine ok_putI2 (ci := 12) (k := 13) dX12_readText_26 flRX12_155 rfl (Or.inl rfl) hZ0 (by decide) eI6 ?_
  refine ok_aload_n dX12_readText_29 0 rfl ?_
  refine ok_iconst (v := 0) dX12_readText_30 (by decide) ?_
  obtain ⟨I7, eI7, h⟩ := blE h
  refine ok_putI2 (ci := 12) (k := 19) dX12_readText_31 flRX12_249 rfl (Or.inl rfl) hZ0 (by decide) eI7 ?_
  refine ok_aload_n dX12_readText_34 0 rfl ?_
  refine ok_iconst (v := 0) dX12_readText_35 (by decide) ?_
  obtain ⟨I8, eI8, h⟩ := blE h
  refine ok_putI2 (ci := 12) (k := 7) dX12_readText_36 flRX12_104 rfl (Or.inl rfl) hZ0 (by decide) eI8 ?_
  refine ok_aload_n dX12_readText_39 0 rfl ?_
  obtain ⟨r9, hr10, h⟩ := bd h
  refine ok_callV (d := ((d + 9) + 3)) (mt := m12_nextToken) (mc := 0) (ms := 0) (As := []) (r := []) dX12_readText_40 mo12_nextToken mv12_nextToken lkRX12_185 rfl hZ0 (q := (RX12, TX12, 34)) rfl rfl rfl (Nat.le_of_ble_eq_true rfl) (by show _ + 1 ≤ d + _; omega) (Nat.le_refl _) (Nat.le_refl _) (pRt_mono ?_)
  refine k12_nextToken (d + 9) hW hZ0 hr10 ?_
  intro _
  show Ok g _ Qx 43 [(0, .ref a0)] [] (Z, r9.1, r9.2, O)
  refine ok_sub [0] rfl ?_
  exact o12_readText_c43 d hW hQ  n r9.1 r9.2 a0 hZ0 h
theorem k12_readText {g : pG} {Q : Option Value → pW → Prop} {Z : pZ} {I : (Nat → Nat → Int32)} {L : (Nat → Nat → Int64)} {O : (Nat → Nat → Option Nat)} {n : Nat} {a0 : Nat} {res : Int32 × (Nat → Nat → Int32) × (Nat → Nat → Int64)} (d : Nat) (hW : WT Z O) (hZ0 : Z[a0]? = some (12, 34)) (h : f12_readText n I L O a0 = some res) (hQ : Q (some (.int res.1)) (Z, res.2.1, res.2.2, O)) : CT g (d + 13) m12_readText 0 0 [.ref a0] (Z, I, L, O) Q :=
  ct_of_ok (mt := m12_readText) (ini := false) mo12_readText.2.2.2.2 (fun h => by cases h) (Nat.le_of_ble_eq_true rfl) (o12_readText d hW hZ0 h ⟨trivial, hQ, rfl, rfl⟩)
