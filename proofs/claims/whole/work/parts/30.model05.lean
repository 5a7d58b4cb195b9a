theorem flRX12_53 : FL RX12 53 12 27 := ⟨(RX12, TX12, 34), rfl, by decide, tb_i 1332 (by decide +kernel)⟩
theorem flRX12_56 : FL RX12 56 12 28 := ⟨(RX12, TX12, 34), rfl, by decide, tb_i 1333 (by decide +kernel)⟩
theorem flRX12_62 : FL RX12 62 12 30 := ⟨(RX12, TX12, 34), rfl, by decide, tb_i 1335 (by decide +kernel)⟩
theorem flRX12_456 : FL RX12 456 12 31 := ⟨(RX12, TX12, 34), rfl, by decide, tb_i 1336 (by decide +kernel)⟩
theorem lkRX12_432 : Cond.methodLink RX12 432 yX12_unlikeFrom ∈ lw_tbl := tb_i 1876 (by decide +kernel)
theorem lkRX12_437 : Cond.methodLink RX12 437 yX12_isPhraseIn ∈ lw_tbl := tb_i 1889 (by decide +kernel)
theorem lkRX12_440 : Cond.methodLink RX12 440 yX12_isAgain ∈ lw_tbl := tb_i 1901 (by decide +kernel)
theorem lkRX12_443 : Cond.methodLink RX12 443 yX12_againBy ∈ lw_tbl := tb_i 1897 (by decide +kernel)
theorem lkRX12_446 : Cond.methodLink RX12 446 yX12_isBack ∈ lw_tbl := tb_i 1909 (by decide +kernel)
theorem lkRX12_449 : Cond.methodLink RX12 449 yX12_clashes ∈ lw_tbl := tb_i 1921 (by decide +kernel)
theorem lkRX12_453 : Cond.methodLink RX12 453 yX12_swap ∈ lw_tbl := tb_i 1950 (by decide +kernel)
theorem lkRX12_459 : Cond.methodLink RX12 459 yX12_isOver ∈ lw_tbl := tb_i 1942 (by decide +kernel)
theorem dX12_unlikeFrom_0 : decode cX12_unlikeFrom 0 = .ok (.iconst 0, 1) := by decide +kernel
theorem dX12_unlikeFrom_1 : decode cX12_unlikeFrom 1 = .ok (.istore_n 3, 1) := by decide +kernel
theorem dX12_unlikeFrom_2 : decode cX12_unlikeFrom 2 = .ok (.iconst 0, 1) := by decide +kernel
theorem dX12_unlikeFrom_3 : decode cX12_unlikeFrom 3 = .ok (.istore 4, 2) := by decide +kernel
theorem dX12_unlikeFrom_5 : decode cX12_unlikeFrom 5 = .ok (.iload 4, 2) := by decide +kernel
theorem dX12_unlikeFrom_7 : decode cX12_unlikeFrom 7 = .ok (.aload_n 0, 1) := by decide +kernel
theorem dX12_unlikeFrom_8 : decode cX12_unlikeFrom 8 = .ok (.getfield 7, 3) := by decide +kernel
theorem dX12_unlikeFrom_11 : decode cX12_unlikeFrom 11 = .ok (.iconst 5, 1) := by decide +kernel
theorem dX12_unlikeFrom_12 : decode cX12_unlikeFrom 12 = .ok (.iaload, 1) := by decide +kernel
theorem dX12_unlikeFrom_13 : decode cX12_unlikeFrom 13 = .ok (.if_icmp .ge 52, 3) := by decide +kernel
theorem dX12_unlikeFrom_16 : decode cX12_unlikeFrom 16 = .ok (.iload_n 3, 1) := by decide +kernel
theorem dX12_unlikeFrom_17 : decode cX12_unlikeFrom 17 = .ok (.aload_n 0, 1) := by decide +kernel
theorem dX12_unlikeFrom_18 : decode cX12_unlikeFrom 18 = .ok (.iload_n 1, 1) := by decide +kernel
theorem dX12_unlikeFrom_19 : decode cX12_unlikeFrom 19 = .ok (.iload_n 2, 1) := by decide +kernel
theorem dX12_unlikeFrom_20 : decode cX12_unlikeFrom 20 = .ok (.iload 4, 2) := by decide +kernel
theorem dX12_unlikeFrom_22 : decode cX12_unlikeFrom 22 = .ok (.iadd, 1) := by decide +kernel
theorem dX12_unlikeFrom_23 : decode cX12_unlikeFrom 23 = .ok (.invokevirtual 90, 3) := by decide +kernel
theorem dX12_unlikeFrom_26 : decode cX12_unlikeFrom 26 = .ok (.ifCond .ne 30, 3) := by decide +kernel
theorem dX12_unlikeFrom_29 : decode cX12_unlikeFrom 29 = .ok (.aload_n 0, 1) := by decide +kernel
theorem dX12_unlikeFrom_30 : decode cX12_unlikeFrom 30 = .ok (.iload_n 1, 1) := by decide +kernel
theorem dX12_unlikeFrom_31 : decode cX12_unlikeFrom 31 = .ok (.iload_n 2, 1) := by decide +kernel
theorem dX12_unlikeFrom_32 : decode cX12_unlikeFrom 32 = .ok (.iload 4, 2) := by decide +kernel
theorem dX12_unlikeFrom_34 : decode cX12_unlikeFrom 34 = .ok (.iadd, 1) := by decide +kernel
theorem dX12_unlikeFrom_35 : decode cX12_unlikeFrom 35 = .ok (.invokevirtual 87, 3) := by decide +kernel
theorem dX12_unlikeFrom_38 : decode cX12_unlikeFrom 38 = .ok (.aload_n 0, 1) := by decide +kernel
theorem dX12_unlikeFrom_39 : decode cX12_unlikeFrom 39 = .ok (.getfield 7, 3) := by decide +kernel
theorem dX12_unlikeFrom_42 : decode cX12_unlikeFrom 42 = .ok (.sipush 199, 3) := by decide +kernel
theorem dX12_unlikeFrom_45 : decode cX12_unlikeFrom 45 = .ok (.iload 4, 2) := by decide +kernel
theorem dX12_unlikeFrom_47 : decode cX12_unlikeFrom 47 = .ok (.iadd, 1) := by decide +kernel
theorem dX12_unlikeFrom_48 : decode cX12_unlikeFrom 48 = .ok (.iaload, 1) := by decide +kernel
theorem dX12_unlikeFrom_49 : decode cX12_unlikeFrom 49 = .ok (.if_icmp .eq 7, 3) := by decide +kernel
theorem dX12_unlikeFrom_52 : decode cX12_unlikeFrom 52 = .ok (.iconst 1, 1) := by decide +kernel
theorem dX12_unlikeFrom_53 : decode cX12_unlikeFrom 53 = .ok (.goto 4, 3) := by decide +kernel
theorem dX12_unlikeFrom_56 : decode cX12_unlikeFrom 56 = .ok (.iconst 0, 1) := by decide +kernel
theorem dX12_unlikeFrom_57 : decode cX12_unlikeFrom 57 = .ok (.iadd, 1) := by decide +kernel
theorem dX12_unlikeFrom_58 : decode cX12_unlikeFrom 58 = .ok (.istore_n 3, 1) := by decide +kernel
theorem dX12_unlikeFrom_59 : decode cX12_unlikeFrom 59 = .ok (.iinc 4 1, 3) := by decide +kernel
theorem dX12_unlikeFrom_62 : decode cX12_unlikeFrom 62 = .ok (.goto (-57), 3) := by decide +kernel
theorem dX12_unlikeFrom_65 : decode cX12_unlikeFrom 65 = .ok (.iload_n 3, 1) := by decide +kernel
theorem dX12_unlikeFrom_66 : decode cX12_unlikeFrom 66 = .ok (.ireturn, 1) := by decide +kernel
def m12_unlikeFrom : pMT := (yX12_unlikeFrom, cX12_unlikeFrom, 5, some .int)
theorem mo12_unlikeFrom : mOK m12_unlikeFrom 2 := ⟨tb_i 1879 (by decide +kernel), wi_RX12, ⟨wn_RX12.1, wn_RX12.2, by decide +kernel⟩, by decide, plainFor_of_name wp_RX12⟩
theorem mv12_unlikeFrom : mV m12_unlikeFrom := ⟨tb_i 1878 (by decide +kernel), tb_p 126 (by decide +kernel)⟩
def f12_unlikeFrom_c5 (n : Nat) (I : (Nat → Nat → Int32)) (O : (Nat → Nat → Option Nat)) : Nat → Nat → Int32 → Int32 → Int32 → Int32 → Option (Int32)
  | 0, _, _, _, _, _ => none
  | m + 1, b0, y1, y2, y3, y4 => (if (I (rO O b0 0) 5) ≤ y4 then some (y3) else (f12_isTorn I O b0 y1 (y2 + y4)).bind fun r3 => (if r3 = 0 then (f12_keyOf I O b0 y1 (y2 + y4)).bind fun r6 => (if ((199 : Int32) + y4) < 0 ∨ 4371 ≤ ((199 : Int32) + y4).toNatClampNeg then none else (if r6 = (I (rO O b0 0) ((199 : Int32) + y4).toNatClampNeg) then f12_unlikeFrom_c5 n I O m b0 y1 y2 (y3 + 0) (y4 + 1) else f12_unlikeFrom_c5 n I O m b0 y1 y2 (y3 + 1) (y4 + 1))) else f12_unlikeFrom_c5 n I O m b0 y1 y2 (y3 + 0) (y4 + 1)))
set_option maxHeartbeats 4000000 in
set_option maxRecDepth 20000 in
theorem o12_unlikeFrom_c5 {g : pG} {Qx : Option Value → pW → Prop} {Z : pZ} {I : (Nat → Nat → Int32)} {L : (Nat → Nat → Int64)} {O : (Nat → Nat → Option Nat)} {n : Nat} {res : Int32} (d : Nat) (hW : WT Z O) (hQ : Qx (some (.int res)) (Z, I, L, O)) : ∀ (m : Nat) (b0 : Nat) (y1 : Int32) (y2 : Int32) (y3 : Int32) (y4 : Int32), (Z[b0]? = some (12, 34)) → f12_unlikeFrom_c5 n I O m b0 y1 y2 y3 y4 = some res → Ok g (d + 4, RX12, cX12_unlikeFrom, 5, false, 0, 0, Z.length, pSl Z) Qx 5 [(0, .ref b0), (1, .int y1), (2, .int y2), (3, .int y3), (4, .int y4)] [] (Z, I, L, O) := by
  intro m
  induction m with
  | zero => intro b0 y1 y2 y3 y4 hZ_b0 h; rw [f12_unlikeFrom_c5] at h; cases h
  | succ m ih =>
    intro b0 y1 y2 y3 y4 hZ_b0 h
    rw [f12_unlikeFrom_c5] at h
    refine ok_iload dX12_unlikeFrom_5 4 rfl ?_
    refine ok_aload_n dX12_unlikeFrom_7 0 rfl ?_
    have hT1 : Z[(rO O b0 0)]? = some (13, 4371) := (wt_f (ci := 12) (k := 0) hW hZ_b0 rfl).2
    refine ok_getR (ci := 12) (k := 0) dX12_unlikeFrom_8 flRX12_7 rfl hW hZ_b0 (by decide) ?_
    refine ok_iconst (v := 5) dX12_unlikeFrom_11 (by decide) ?_
    refine ok_iald2 (N := 5) dX12_unlikeFrom_12 hT1 (by unfold vp_in; decide) (by decide) ?_
    refine ok_icmp_ge (t := 65) dX12_unlikeFrom_13 (by decide) (fun hc2 => ?_) (fun hc2 => ?_)
    · have h := (if_pos hc2).symm.trans h
      refine ok_iload_n dX12_unlikeFrom_65 3 rfl ?_
      cases h
      exact ok_iret dX12_unlikeFrom_66 hQ
    · have h := (if_neg hc2).symm.trans h
      refine ok_iload_n dX12_unlikeFrom_16 3 rfl ?_
      refine ok_aload_n dX12_unlikeFrom_17 0 rfl ?_
      refine ok_iload_n dX12_unlikeFrom_18 1 rfl ?_
      refine ok_iload_n dX12_unlikeFrom_19 2 rfl ?_
      refine ok_iload dX12_unlikeFrom_20 4 rfl ?_
      refine ok_iadd dX12_unlikeFrom_22 ?_
      obtain ⟨r3, hr4, h⟩ := bd h
      refine ok_callV (d := ((d + 0) + 3)) (mt := m12_isTorn) (mc := 0) (ms := 0) (As := [.int y1, .int (y2 + y4)]) (r := [.int y3]) dX12_unlikeFrom_23 mo12_isTorn mv12_isTorn lkRX12_90 rfl hZ_b0 (q := (RX12, TX12, 34)) rfl rfl rfl (Nat.le_of_ble_eq_true rfl) (by show _ + 1 ≤ d + _; omega) (Nat.le_refl _) (Nat.le_refl _) (pRt_mono ?_)
      refine k12_isTorn (d + 0) hW hZ_b0 hr4 ?_
      intro hbr3
      show Ok g _ Qx 26 [(0, .ref b0), (1, .int y1), (2, .int y2), (3, .int y3), (4, .int y4)] [.int r3, .int y3] (Z, I, L, O)
      refine ok_if_ne (t := 56) dX12_unlikeFrom_26 (by decide) (fun hc5 => ?_) (fun hc5 => ?_)
      · have h := (if_neg hc5).symm.trans h
        refine ok_iconst (v := 0) dX12_unlikeFrom_56 (by decide) ?_
        refine ok_iadd dX12_unlikeFrom_57 ?_
        refine ok_istore_n (l' := [(3, .int (y3 + 0)), (0, .ref b0), (1, .int y1), (2, .int y2), (4, .int y4)]) dX12_unlikeFrom_58 rfl (Nat.le_of_ble_eq_true rfl) rfl ?_
        refine ok_iinc (u := (y4 + 1)) (l' := [(4, .int (y4 + 1)), (3, .int (y3 + 0)), (0, .ref b0), (1, .int y1), (2, .int y2)]) dX12_unlikeFrom_59 4 rfl rfl (Nat.le_of_ble_eq_true rfl) rfl ?_
        refine ok_goto (t := 5) dX12_unlikeFrom_62 (by decide) ?_
        refine ok_sub [2, 3, 4, 1, 0] rfl ?_
        exact ih b0 y1 y2 (y3 + 0) (y4 + 1) hZ_b0 h
      · have h := (if_pos hc5).symm.trans h
        refine ok_aload_n dX12_unlikeFrom_29 0 rfl ?_
        refine ok_iload_n dX12_unlikeFrom_30 1 rfl ?_
        refine ok_iload_n dX12_unlikeFrom_31 2 rfl ?_
        refine ok_iload dX12_unlikeFrom_32 4 rfl ?_
        refine ok_iadd dX12_unlikeFrom_34 ?_
        obtain ⟨r6, hr7, h⟩ := bd h
        refine ok_callV (d := ((d + 1) + 2)) (mt := m12_keyOf) (mc := 0) (ms := 0) (As := [.int y1, .int (y2 + y4)]) (r := [.int y3]) dX12_unlikeFrom_35 mo12_keyOf mv12_keyOf lkRX12_87 rfl hZ_b0 (q := (RX12, TX12, 34)) rfl rfl rfl (Nat.le_of_ble_eq_true rfl) (by show _ + 1 ≤ d + _; omega) (Nat.le_refl _) (Nat.le_refl _) (pRt_mono ?_)
        refine k12_keyOf (d + 1) hW hZ_b0 hr7 ?_
        intro _
        show Ok g _ Qx 38 [(0, .ref b0), (1, .int y1), (2, .int y2), (3, .int y3), (4, .int y4)] [.int r6, .int y3] (Z, I, L, O)
        refine ok_aload_n dX12_unlikeFrom_38 0 rfl ?_
        refine ok_getR (ci := 12) (k := 0) dX12_unlikeFrom_39 flRX12_7 rfl hW hZ_b0 (by decide) ?_
        refine ok_sipush (v := 199) dX12_unlikeFrom_42 (by decide) ?_
        refine ok_iload dX12_unlikeFrom_45 4 rfl ?_
        refine ok_iadd dX12_unlikeFrom_47 ?_
        obtain ⟨hg8, h⟩ := gd h
        refine ok_iald2 (N := ((199 : Int32) + y4).toNatClampNeg) dX12_unlikeFrom_48 hT1 hg8 rfl ?_
        refine ok_icmp_eq (t := 56) dX12_unlikeFrom_49 (by decide) (fun hc9 => ?_) (fun hc9 => ?_)
        · have h := (if_pos hc9).symm.trans h
          refine ok_iconst (v := 0) dX12_unlikeFrom_56 (by decide) ?_
          refine ok_iadd dX12_unlikeFrom_57 ?_
          refine ok_istore_n (l' := [(3, .int (y3 + 0)), (0, .ref b0), (1, .int y1), (2, .int y2), (4, .int y4)]) dX12_unlikeFrom_58 rfl (Nat.le_of_ble_eq_true rfl) rfl ?_
          refine ok_iinc (u := (y4 + 1)) (l' := [(4, .int (y4 + 1)), (3, .int (y3 + 0)), (0, .ref b0), (1, .int y1), (2, .int y2)]) dX12_unlikeFrom_59 4 rfl rfl (Nat.le_of_ble_eq_true rfl) rfl ?_
          refine ok_goto (t := 5) dX12_unlikeFrom_62 (by decide) ?_
          refine ok_sub [2, 3, 4, 1, 0] rfl ?_
          exact ih b0 y1 y2 (y3 + 0) (y4 + 1) hZ_b0 h
        · have h := (if_neg hc9).symm.trans h
          refine ok_iconst (v := 1) dX12_unlikeFrom_52 (by decide) ?_
          refine ok_goto (t := 57) dX12_unlikeFrom_53 (by decide) ?_
          refine ok_iadd dX12_unlikeFrom_57 ?_
          refine ok_istore_n (l' := [(3, .int (y3 + 1)), (0, .ref b0), (1, .int y1), (2, .int y2), (4, .int y4)]) dX12_unlikeFrom_58 rfl (Nat.le_of_ble_eq_true rfl) rfl ?_
          refine ok_iinc (u := (y4 + 1)) (l' := [(4, .int (y4 + 1)), (3, .int (y3 + 1)), (0, .ref b0), (1, .int y1), (2, .int y2)]) dX12_unlikeFrom_59 4 rfl rfl (Nat.le_of_ble_eq_true rfl) rfl ?_
          refine ok_goto (t := 5) dX12_unlikeFrom_62 (by decide) ?_
          refine ok_sub [2, 3, 4, 1, 0] rfl ?_
          exact ih b0 y1 y2 (y3 + 1) (y4 + 1) hZ_b0 h
def f12_unlikeFrom (n : Nat) (I : (Nat → Nat → Int32)) (O : (Nat → Nat → Option Nat)) (a0 : Nat) (x1 : Int32) (x2 : Int32) : Option (Int32) := f12_unlikeFrom_c5 n I O n a0 x1 x2 (0 : Int32) (0 : Int32)
set_option maxHeartbeats 4000000 in
set_option maxRecDepth 20000 in
theorem o12_unlikeFrom {g : pG} {Qx : Option Value → pW → Prop} {Z : pZ} {I : (Nat → Nat → Int32)} {L : (Nat → Nat → Int64)} {O : (Nat → Nat → Option Nat)} {n : Nat} {a0 : Nat} {x1 : Int32} {x2 : Int32} {res : Int32} (d : Nat) (hW : WT Z O) (hZ0 : Z[a0]? = some (12, 34)) (h : f12_unlikeFrom n I O a0 x1 x2 = some res) (hQ : Qx (some (.int res)) (Z, I, L, O)) : Ok g (d + 4, RX12, cX12_unlikeFrom, 5, false, 0, 0, Z.length, pSl Z) Qx 0 [(0, .ref a0), (1, .int x1), (2, .int x2)] [] (Z, I, L, O) := by
  unfold f12_unlikeFrom at h
  refine ok_iconst (v := 0) dX12_unlikeFrom_0 (by decide) ?_
  refine ok_istore_n (l' := [(3, .int 0), (0, .ref a0), (1, .int x1), (2, .int x2)]) dX12_unlikeFrom_1 rfl (Nat.le_of_ble_eq_true rfl) rfl ?_
  refine ok_iconst (v := 0) dX12_unlikeFrom_2 (by decide) ?_
  refine ok_istore (l' := [(4, .int 0), (3, .int 0), (0, .ref a0), (1, .int x1), (2, .int x2)]) dX12_unlikeFrom_3 (Nat.le_of_ble_eq_true rfl) rfl ?_
  refine ok_sub [2, 3, 4, 1, 0] rfl ?_
  exact o12_unlikeFrom_c5 d hW hQ  n a0 x1 x2 (0 : Int32) (0 : Int32) hZ0 h
theorem k12_unlikeFrom {g : pG} {Q : Option Value → pW → Prop} {Z : pZ} {I : (Nat → Nat → Int32)} {L : (Nat → Nat → Int64)} {O : (Nat → Nat → Option Nat)} {n : Nat} {a0 : Nat} {x1 : Int32} {x2 : Int32} {res : Int32} (d : Nat) (hW : WT Z O) (hZ0 : Z[a0]? = some (12, 34)) (h : f12_unlikeFrom n I O a0 x1 x2 = some res) (hQ : Q (some (.int res)) (Z, I, L, O)) : CT g (d + 4) m12_unlikeFrom 0 0 [.ref a0, .int x1, .int x2] (Z, I, L, O) Q :=
  ct_of_ok (mt := m12_unlikeFrom) (ini := false) mo12_unlikeFrom.2.2.2.2 (fun h => by cases h) (Nat.le_of_ble_eq_true rfl) (o12_unlikeFrom d hW hZ0 h ⟨trivial, hQ, rfl, rfl⟩)
theorem dX12_fits_0 : decode cX12_fits 0 = .ok (.aload_n 0, 1) := by decide +kernel
theorem dX12_fits_1 : decode cX12_fits 1 = .ok (.iload_n 1, 1) := by decide +kernel
theorem dX12_fits_2 : decode cX12_fits 2 = .ok (.invokevirtual 79, 3) := by decide +kernel
theorem dX12_fits_5 : decode cX12_fits 5 = .ok (.ifCond .eq 13, 3) := by decide +kernel
theorem dX12_fits_8 : decode cX12_fits 8 = .ok (.iload_n 2, 1) := by decide +kernel
theorem dX12_fits_9 : decode cX12_fits 9 = .ok (.iconst 0, 1) := by decide +kernel
theorem dX12_fits_10 : decode cX12_fits 10 = .ok (.bipush 8, 2) := by decide +kernel
theorem dX12_fits_12 : decode cX12_fits 12 = .ok (.invokestatic 75, 3) := by decide +kernel
theorem dX12_fits_15 : decode cX12_fits 15 = .ok (.ifCond .ne 5, 3) := by decide +kernel
theorem dX12_fits_18 : decode cX12_fits 18 = .ok (.iconst (-1), 1) := by decide +kernel
theorem dX12_fits_19 : decode cX12_fits 19 = .ok (.ireturn, 1) := by decide +kernel
theorem dX12_fits_20 : decode cX12_fits 20 = .ok (.iconst 0, 1) := by decide +kernel
theorem dX12_fits_21 : decode cX12_fits 21 = .ok (.istore_n 3, 1) := by decide +kernel
theorem dX12_fits_22 : decode cX12_fits 22 = .ok (.iconst 0, 1) := by decide +kernel
theorem dX12_fits_23 : decode cX12_fits 23 = .ok (.istore 4, 2) := by decide +kernel
theorem dX12_fits_25 : decode cX12_fits 25 = .ok (.iload 4, 2) := by decide +kernel
theorem dX12_fits_27 : decode cX12_fits 27 = .ok (.aload_n 0, 1) := by decide +kernel
theorem dX12_fits_28 : decode cX12_fits 28 = .ok (.getfield 7, 3) := by decide +kernel
theorem dX12_fits_31 : decode cX12_fits 31 = .ok (.bipush 114, 2) := by decide +kernel
theorem dX12_fits_33 : decode cX12_fits 33 = .ok (.iload_n 1, 1) := by decide +kernel
theorem dX12_fits_34 : decode cX12_fits 34 = .ok (.iadd, 1) := by decide +kernel
theorem dX12_fits_35 : decode cX12_fits 35 = .ok (.iaload, 1) := by decide +kernel
theorem dX12_fits_36 : decode cX12_fits 36 = .ok (.if_icmp .ge 52, 3) := by decide +kernel
theorem dX12_fits_39 : decode cX12_fits 39 = .ok (.iload 4, 2) := by decide +kernel
theorem dX12_fits_41 : decode cX12_fits 41 = .ok (.aload_n 0, 1) := by decide +kernel
theorem dX12_fits_42 : decode cX12_fits 42 = .ok (.getfield 7, 3) := by decide +kernel
theorem dX12_fits_45 : decode cX12_fits 45 = .ok (.iconst 5, 1) := by decide +kernel
theorem dX12_fits_46 : decode cX12_fits 46 = .ok (.iaload, 1) := by decide +kernel
theorem dX12_fits_47 : decode cX12_fits 47 = .ok (.iadd, 1) := by decide +kernel
theorem dX12_fits_48 : decode cX12_fits 48 = .ok (.aload_n 0, 1) := by decide +kernel
theorem dX12_fits_49 : decode cX12_fits 49 = .ok (.getfield 7, 3) := by decide +kernel
theorem dX12_fits_52 : decode cX12_fits 52 = .ok (.bipush 114, 2) := by decide +kernel
theorem dX12_fits_54 : decode cX12_fits 54 = .ok (.iload_n 1, 1) := by decide +kernel
theorem dX12_fits_55 : decode cX12_fits 55 = .ok (.iadd, 1) := by decide +kernel
theorem dX12_fits_56 : decode cX12_fits 56 = .ok (.iaload, 1) := by decide +kernel
theorem dX12_fits_57 : decode cX12_fits 57 = .ok (.if_icmp .gt 31, 3) := by decide +kernel
theorem dX12_fits_60 : decode cX12_fits 60 = .ok (.iload_n 3, 1) := by decide +kernel
theorem dX12_fits_61 : decode cX12_fits 61 = .ok (.aload_n 0, 1) := by decide +kernel
theorem dX12_fits_62 : decode cX12_fits 62 = .ok (.iload_n 1, 1) := by decide +kernel
theorem dX12_fits_63 : decode cX12_fits 63 = .ok (.iload 4, 2) := by decide +kernel
theorem dX12_fits_65 : decode cX12_fits 65 = .ok (.invokevirtual 432, 3) := by decide +kernel
theorem dX12_fits_68 : decode cX12_fits 68 = .ok (.iload_n 2, 1) := by decide +kernel
theorem dX12_fits_69 : decode cX12_fits 69 = .ok (.if_icmp .gt 10, 3) := by decide +kernel
theorem dX12_fits_72 : decode cX12_fits 72 = .ok (.iconst 1, 1) := by decide +kernel
theorem dX12_fits_73 : decode cX12_fits 73 = .ok (.iload 4, 2) := by decide +kernel
theorem dX12_fits_75 : decode cX12_fits 75 = .ok (.ishl, 1) := by decide +kernel
theorem dX12_fits_76 : decode cX12_fits 76 = .ok (.goto 4, 3) := by decide +kernel
theorem dX12_fits_79 : decode cX12_fits 79 = .ok (.iconst 0, 1) := by decide +kernel
theorem dX12_fits_80 : decode cX12_fits 80 = .ok (.ior, 1) := by decide +kernel
theorem dX12_fits_81 : decode cX12_fits 81 = .ok (.istore_n 3, 1) := by decide +kernel
theorem dX12_fits_82 : decode cX12_fits 82 = .ok (.iinc 4 1, 3) := by decide +kernel
theorem dX12_fits_85 : decode cX12_fits 85 = .ok (.goto (-60), 3) := by decide +kernel
theorem dX12_fits_88 : decode cX12_fits 88 = .ok (.iload_n 3, 1) := by decide +kernel
theorem dX12_fits_89 : decode cX12_fits 89 = .ok (.ireturn, 1) := by decide +kernel
def m12_fits : pMT := (yX12_fits, cX12_fits, 5, some .int)
theorem mo12_fits : mOK m12_fits 2 := ⟨tb_i 1875 (by decide +kernel), wi_RX12, ⟨wn_RX12.1, wn_RX12.2, by decide +kernel⟩, by decide, plainFor_of_name wp_RX12⟩
theorem mv12_fits : mV m12_fits := ⟨tb_i 1873 (by decide +kernel), tb_i 1874 (by decide +kernel)⟩
def f12_fits_c25 (n : Nat) (I : (Nat → Nat → Int32)) (O : (Nat → Nat → Option Nat)) : Nat → Nat → Int32 → Int32 → Int32 → Int32 → Option (Int32)
  | 0, _, _, _, _, _ => none
  | m + 1, b0, y1, y2, y3, y4 => (if ((114 : Int32) + y1) < 0 ∨ 4371 ≤ ((114 : Int32) + y1).toNatClampNeg then none else (if (I (rO O b0 0) ((114 : Int32) + y1).toNatClampNeg) ≤ y4 then some (y3) else (if ((114 : Int32) + y1) < 0 ∨ 4371 ≤ ((114 : Int32) + y1).toNatClampNeg then none else (if (I (rO O b0 0) ((114 : Int32) + y1).toNatClampNeg) < (y4 + (I (rO O b0 0) 5)) then some (y3) else (f12_unlikeFrom n I O b0 y1 y4).bind fun r6 => (if y2 < r6 then f12_fits_c25 n I O m b0 y1 y2 (y3 ||| 0) (y4 + 1) else bl ((y3 ||| ((1 : Int32) <<< (y4 &&& 31))) : Int32) fun z9 => f12_fits_c25 n I O m b0 y1 y2 z9 (y4 + 1))))))
set_option maxHeartbeats 4000000 in
set_option maxRecDepth 20000 in
theorem o12_fits_c25 {g : pG} {Qx : Option Value → pW → Prop} {Z : pZ} {I : (Nat → Nat → Int32)} {L : (Nat → Nat → Int64)} {O : (Nat → Nat → Option Nat)} {n : Nat} {res : Int32} (d : Nat) (hW : WT Z O) (hQ : Qx (some (.int res)) (Z, I, L, O)) : ∀ (m : Nat) (b0 : Nat) (y1 : Int32) (y2 : Int32) (y3 : Int32) (y4 : Int32), (Z[b0]? = some (12, 34)) → f12_fits_c25 n I O m b0 y1 y2 y3 y4 = some res → Ok g (d + 5, RX12, cX12_fits, 5, false, 0, 0, Z.length, pSl Z) Qx 25 [(0, .ref b0), (1, .int y1), (2, .int y2), (3, .int y3), (4, .int y4)] [] (Z, I, L, O) := by
  intro m
  induction m with
  | zero => intro b0 y1 y2 y3 y4 hZ_b0 h; rw [f12_fits_c25] at h; cases h
  | succ m ih =>
    intro b0 y1 y2 y3 y4 hZ_b0 h
    rw [f12_fits_c25] at h
    refine ok_iload dX12_fits_25 4 rfl ?_
    refine ok_aload_n dX12_fits_27 0 rfl ?_
    have hT1 : Z[(rO O b0 0)]? = some (13, 4371) := (wt_f (ci := 12) (k := 0) hW hZ_b0 rfl).2
    refine ok_getR (ci := 12) (k := 0) dX12_fits_28 flRX12_7 rfl hW hZ_b0 (by decide) ?_
    refine ok_bipush (v := 114) dX12_fits_31 (by decide) ?_
    refine ok_iload_n dX12_fits_33 1 rfl ?_
    refine ok_iadd dX12_fits_34 ?_
    obtain ⟨hg2, h⟩ := gd h
    refine ok_iald2 (N := ((114 : Int32) + y1).toNatClampNeg) dX12_fits_35 hT1 hg2 rfl ?_
    refine ok_icmp_ge (t := 88) dX12_fits_36 (by decide) (fun hc3 => ?_) (fun hc3 => ?_)
    · have h := (if_pos hc3).symm.trans h
      refine ok_iload_n dX12_fits_88 3 rfl ?_
      cases h
      exact ok_iret dX12_fits_89 hQ
    · have h := (if_neg hc3).symm.trans h
      refine ok_iload dX12_fits_39 4 rfl ?_
      refine ok_aload_n dX12_fits_41 0 rfl ?_
      refine ok_getR (ci := 12) (k := 0) dX12_fits_42 flRX12_7 rfl hW hZ_b0 (by decide) ?_
      refine ok_iconst (v := 5) dX12_fits_45 (by decide) ?_
      refine ok_iald2 (N := 5) dX12_fits_46 hT1 (by unfold vp_in; decide) (by decide) ?_
      refine ok_iadd dX12_fits_47 ?_
      refine ok_aload_n dX12_fits_48 0 rfl ?_
      refine ok_getR (ci := 12) (k := 0) dX12_fits_49 flRX12_7 rfl hW hZ_b0 (by decide) ?_
      refine ok_bipush (v := 114) dX12_fits_52 (by decide) ?_
      refine ok_iload_n dX12_fits_54 1 rfl ?_
      refine ok_iadd dX12_fits_55 ?_
      obtain ⟨hg4, h⟩ := gd h
      refine ok_iald2 (N := ((114 : Int32) + y1).toNatClampNeg) dX12_fits_56 hT1 hg4 rfl ?_
      refine ok_icmp_gt (t := 88) dX12_fits_57 (by decide) (fun hc5 => ?_) (fun hc5 => ?_)
      · have h := (if_pos hc5).symm.trans h
        refine ok_iload_n dX12_fits_88 3 rfl ?_
        cases h
        exact ok_iret dX12_fits_89 hQ
      · have h := (if_neg hc5).symm.trans h
        refine ok_iload_n dX12_fits_60 3 rfl ?_
        refine ok_aload_n dX12_fits_61 0 rfl ?_
        refine ok_iload_n dX12_fits_62 1 rfl ?_
        refine ok_iload dX12_fits_63 4 rfl ?_
        obtain ⟨r6, hr7, h⟩ := bd h
        refine ok_callV (d := ((d + 0) + 4)) (mt := m12_unlikeFrom) (mc := 0) (ms := 0) (As := [.int y1, .int y4]) (r := [.int y3]) dX12_fits_65 mo12_unlikeFrom mv12_unlikeFrom lkRX12_432 rfl hZ_b0 (q := (RX12, TX12, 34)) rfl rfl rfl (Nat.le_of_ble_eq_true rfl) (by show _ + 1 ≤ d + _; omega) (Nat.le_refl _) (Nat.le_refl _) (pRt_mono ?_)
        refine k12_unlikeFrom (d + 0) hW hZ_b0 hr7 ?_
        intro _
        show Ok g _ Qx 68 [(0, .ref b0), (1, .int y1), (2, .int y2), (3, .int y3), (4, .int y4)] [.int r6, .int y3] (Z, I, L, O)
        refine ok_iload_n dX12_fits_68 2 rfl ?_
        refine ok_icmp_gt (t := 79) dX12_fits_69 (by decide) (fun hc8 => ?_) (fun hc8 => ?_)
        · have h := (if_pos hc8).symm.trans h
          refine ok_iconst (v := 0) dX12_fits_79 (by decide) ?_
          refine ok_ior dX12_fits_80 ?_
          refine ok_istore_n (l' := [(3, .int (y3 ||| 0)), (0, .ref b0), (1, .int y1), (2, .int y2), (4, .int y4)]) dX12_fits_81 rfl (Nat.le_of_ble_eq_true rfl) rfl ?_
          refine ok_iinc (u := (y4 + 1)) (l' := [(4, .int (y4 + 1)), (3, .int (y3 ||| 0)), (0, .ref b0), (1, .int y1), (2, .int y2)]) dX12_fits_82 4 rfl rfl (Nat.le_of_ble_eq_true rfl) rfl ?_
          refine ok_goto (t := 25) dX12_fits_85 (by decide) ?_
          refine ok_sub [2, 3, 4, 1, 0] rfl ?_
          exact ih b0 y1 y2 (y3 ||| 0) (y4 + 1) hZ_b0 h
        · have h := (if_neg hc8).symm.trans h
          refine ok_iconst (v := 1) dX12_fits_72 (by decide) ?_
          refine ok_iload dX12_fits_73 4 rfl ?_
          refine ok_ishl dX12_fits_75 ?_
          refine ok_goto (t := 80) dX12_fits_76 (by decide) ?_
          refine ok_ior dX12_fits_80 ?_
          obtain ⟨z9, ez9, h⟩ := blE h
          refine ok_nm ez9 ?_
          refine ok_istore_n (l' := [(3, .int z9), (0, .ref b0), (1, .int y1), (2, .int y2), (4, .int y4)]) dX12_fits_81 rfl (Nat.le_of_ble_eq_true rfl) rfl ?_
          refine ok_iinc (u := (y4 + 1)) (l' := [(4, .int (y4 + 1)), (3, .int z9), (0, .ref b0), (1, .int y1), (2, .int y2)]) dX12_fits_82 4 rfl rfl (Nat.le_of_ble_eq_true rfl) rfl ?_
          refine ok_goto (t := 25) dX12_fits_85 (by decide) ?_
          refine ok_sub [2, 3, 4, 1, 0] rfl ?_
          exact ih b0 y1 y2 z9 (y4 + 1) hZ_b0 h
def f12_fits (n : Nat) (I : (Nat → Nat → Int32)) (O : (Nat → Nat → Option Nat)) (a0 : Nat) (x1 : Int32) (x2 : Int32) : Option (Int32) := (f12_isRoll I O a0 x1).bind fun r1 => (if r1 = 0 then some (((-1) : Int32)) else (f12_isIn x2 (0 : Int32) (8 : Int32)).bind fun r4 => (if r4 = 0 then some (((-1) : Int32)) else f12_fits_c25 n I O n a0 x1 x2 (0 : Int32) (0 : Int32)))
set_option maxHeartbeats 4000000 in
set_option maxRecDepth 20000 in
theorem o12_fits {g : pG} {Qx : Option Value → pW → Prop} {Z : pZ} {I : (Nat → Nat → Int32)} {L : (Nat → Nat → Int64)} {O : (Nat → Nat → Option Nat)} {n : Nat} {a0 : Nat} {x1 : Int32} {x2 : Int32} {res : Int32} (d : Nat) (hW : WT Z O) (hZ0 : Z[a0]? = some (12, 34)) (h : f12_fits n I O a0 x1 x2 = some res) (hQ : Qx (some (.int res)) (Z, I, L, O)) : Ok g (d + 5, RX12, cX12_fits, 5, false, 0, 0, Z.length, pSl Z) Qx 0 [(0, .ref a0), (1, .int x1), (2, .int x2)] [] (Z, I, L, O) := by
  unfold f12_fits at h
  refine ok_aload_n dX12_fits_0 0 rfl ?_
  refine ok_iload_n dX12_fits_1 1 rfl ?_
  obtain ⟨r1, hr2, h⟩ := bd h
  refine ok_callV (d := ((d + 1) + 3)) (mt := m12_isRoll) (mc := 0) (ms := 0) (As := [.int x1]) (r := []) dX12_fits_2 mo12_isRoll mv12_isRoll lkRX12_79 rfl hZ0 (q := (RX12, TX12, 34)) rfl rfl rfl (Nat.le_of_ble_eq_true rfl) (by show _ + 1 ≤ d + _; omega) (Nat.le_refl _) (Nat.le_refl _) (pRt_mono ?_)
  refine k12_isRoll (d + 1) hW hZ0 hr2 ?_
  intro hbr1
  show Ok g _ Qx 5 [(0, .ref a0), (1, .int x1), (2, .int x2)] [.int r1] (Z, I, L, O)
  refine ok_if_eq (t := 18) dX12_fits_5 (by decide) (fun hc3 => ?_) (fun hc3 => ?_)
  · have h := (if_pos hc3).symm.trans h
    refine ok_iconst (v := (-1)) dX12_fits_18 (by decide) ?_
    cases h
    exact ok_iret dX12_fits_19 hQ
  · have h := (if_neg hc3).symm.trans h
    refine ok_iload_n dX12_fits_8 2 rfl ?_
    refine ok_iconst (v := 0) dX12_fits_9 (by decide) ?_
    refine ok_bipush (v := 8) dX12_fits_10 (by decide) ?_
    obtain ⟨r4, hr5, h⟩ := bd h
    refine ok_callS (d := ((d + 2) + 2)) (mt := m12_isIn) (mc := 0) (ms := 0) (As := [.int x2, .int 0, .int 8]) (r := []) dX12_fits_12 mo12_isIn mv12_isIn lkRX12_75 rfl rfl (Nat.le_of_ble_eq_true rfl) (by show _ + 1 ≤ d + _; omega) (Nat.le_refl _) (Nat.le_refl _) (pRt_mono ?_)
    refine k12_isIn (d + 2) hW  hr5 ?_
    intro hbr4
    show Ok g _ Qx 15 [(0, .ref a0), (1, .int x1), (2, .int x2)] [.int r4] (Z, I, L, O)
    refine ok_if_ne (t := 20) dX12_fits_15 (by decide) (fun hc6 => ?_) (fun hc6 => ?_)
    · have h := (if_neg hc6).symm.trans h
      refine ok_iconst (v := 0) dX12_fits_20 (by decide) ?_
      refine ok_istore_n (l' := [(3, .int 0), (0, .ref a0), (1, .int x1), (2, .int x2)]) dX12_fits_21 rfl (Nat.le_of_ble_eq_true rfl) rfl ?_
      refine ok_iconst (v := 0) dX12_fits_22 (by decide) ?_
      refine ok_istore (l' := [(4, .int 0), (3, .int 0), (0, .ref a0), (1, .int x1), (2, .int x2)]) dX12_fits_23 (Nat.le_of_ble_eq_true rfl) rfl ?_
      refine ok_sub [2, 3, 4, 1, 0] rfl ?_
      exact o12_fits_c25 d hW hQ  n a0 x1 x2 (0 : Int32) (0 : Int32) hZ0 h
    · have h := (if_pos hc6).symm.trans h
      refine ok_iconst (v := (-1)) dX12_fits_18 (by decide) ?_
      cases h
      exact ok_iret dX12_fits_19 hQ
theorem k12_fits {g : pG} {Q : Option Value → pW → Prop} {Z : pZ} {I : (Nat → Nat → Int32)} {L : (Nat → Nat → Int64)} {O : (Nat → Nat → Option Nat)} {n : Nat} {a0 : Nat} {x1 : Int32} {x2 : Int32} {res : Int32} (d : Nat) (hW : WT Z O) (hZ0 : Z[a0]? = some (12, 34)) (h : f12_fits n I O a0 x1 x2 = some res) (hQ : Q (some (.int res)) (Z, I, L, O)) : CT g (d + 5) m12_fits 0 0 [.ref a0, .int x1, .int x2] (Z, I, L, O) Q :=
  ct_of_ok (mt := m12_fits) (ini := false) mo12_fits.2.2.2.2 (fun h => by cases h) (Nat.le_of_ble_eq_true rfl) (o12_fits d hW hZ0 h ⟨trivial, hQ, rfl, rfl⟩)
theorem dX12_nearest_0 : decode cX12_nearest 0 = .ok (.aload_n 0, 1) := by decide +kernel
theorem dX12_nearest_1 : decode cX12_nearest 1 = .ok (.iload_n 1, 1) := by decide +kernel
theorem dX12_nearest_2 : decode cX12_nearest 2 = .ok (.invokevirtual 79, 3) := by decide +kernel
theorem dX12_nearest_5 : decode cX12_nearest 5 = .ok (.ifCond .eq 30, 3) := by decide +kernel
theorem dX12_nearest_8 : decode cX12_nearest 8 = .ok (.aload_n 0, 1) := by decide +kernel
theorem dX12_nearest_9 : decode cX12_nearest 9 = .ok (.getfield 7, 3) := by decide +kernel
theorem dX12_nearest_12 : decode cX12_nearest 12 = .ok (.iconst 5, 1) := by decide +kernel
theorem dX12_nearest_13 : decode cX12_nearest 13 = .ok (.iaload, 1) := by decide +kernel
theorem dX12_nearest_14 : decode cX12_nearest 14 = .ok (.ifCond .eq 21, 3) := by decide +kernel
theorem dX12_nearest_17 : decode cX12_nearest 17 = .ok (.aload_n 0, 1) := by decide +kernel
theorem dX12_nearest_18 : decode cX12_nearest 18 = .ok (.getfield 7, 3) := by decide +kernel
theorem dX12_nearest_21 : decode cX12_nearest 21 = .ok (.iconst 5, 1) := by decide +kernel
theorem dX12_nearest_22 : decode cX12_nearest 22 = .ok (.iaload, 1) := by decide +kernel
theorem dX12_nearest_23 : decode cX12_nearest 23 = .ok (.aload_n 0, 1) := by decide +kernel
theorem dX12_nearest_24 : decode cX12_nearest 24 = .ok (.getfield 7, 3) := by decide +kernel
theorem dX12_nearest_27 : decode cX12_nearest 27 = .ok (.bipush 114, 2) := by decide +kernel
theorem dX12_nearest_29 : decode cX12_nearest 29 = .ok (.iload_n 1, 1) := by decide +kernel
theorem dX12_nearest_30 : decode cX12_nearest 30 = .ok (.iadd, 1) := by decide +kernel
theorem dX12_nearest_31 : decode cX12_nearest 31 = .ok (.iaload, 1) := by decide +kernel
theorem dX12_nearest_32 : decode cX12_nearest 32 = .ok (.if_icmp .le 5, 3) := by decide +kernel
theorem dX12_nearest_35 : decode cX12_nearest 35 = .ok (.iconst (-1), 1) := by decide +kernel
theorem dX12_nearest_36 : decode cX12_nearest 36 = .ok (.ireturn, 1) := by decide +kernel
theorem dX12_nearest_37 : decode cX12_nearest 37 = .ok (.iconst 0, 1) := by decide +kernel
theorem dX12_nearest_38 : decode cX12_nearest 38 = .ok (.istore_n 2, 1) := by decide +kernel
theorem dX12_nearest_39 : decode cX12_nearest 39 = .ok (.iconst 1, 1) := by decide +kernel
theorem dX12_nearest_40 : decode cX12_nearest 40 = .ok (.istore_n 3, 1) := by decide +kernel
theorem dX12_nearest_41 : decode cX12_nearest 41 = .ok (.iload_n 3, 1) := by decide +kernel
theorem dX12_nearest_42 : decode cX12_nearest 42 = .ok (.aload_n 0, 1) := by decide +kernel
theorem dX12_nearest_43 : decode cX12_nearest 43 = .ok (.getfield 7, 3) := by decide +kernel
theorem dX12_nearest_46 : decode cX12_nearest 46 = .ok (.iconst 5, 1) := by decide +kernel
theorem dX12_nearest_47 : decode cX12_nearest 47 = .ok (.iaload, 1) := by decide +kernel
theorem dX12_nearest_48 : decode cX12_nearest 48 = .ok (.iadd, 1) := by decide +kernel
theorem dX12_nearest_49 : decode cX12_nearest 49 = .ok (.aload_n 0, 1) := by decide +kernel
theorem dX12_nearest_50 : decode cX12_nearest 50 = .ok (.getfield 7, 3) := by decide +kernel
theorem dX12_nearest_53 : decode cX12_nearest 53 = .ok (.bipush 114, 2) := by decide +kernel
theorem dX12_nearest_55 : decode cX12_nearest 55 = .ok (.iload_n 1, 1) := by decide +kernel
theorem dX12_nearest_56 : decode cX12_nearest 56 = .ok (.iadd, 1) := by decide +kernel
theorem dX12_nearest_57 : decode cX12_nearest 57 = .ok (.iaload, 1) := by decide +kernel
theorem dX12_nearest_58 : decode cX12_nearest 58 = .ok (.if_icmp .gt 26, 3) := by decide +kernel
theorem dX12_nearest_61 : decode cX12_nearest 61 = .ok (.aload_n 0, 1) := by decide +kernel
theorem dX12_nearest_62 : decode cX12_nearest 62 = .ok (.iload_n 1, 1) := by decide +kernel
theorem dX12_nearest_63 : decode cX12_nearest 63 = .ok (.iload_n 3, 1) := by decide +kernel
theorem dX12_nearest_64 : decode cX12_nearest 64 = .ok (.invokevirtual 432, 3) := by decide +kernel
theorem dX12_nearest_67 : decode cX12_nearest 67 = .ok (.aload_n 0, 1) := by decide +kernel
theorem dX12_nearest_68 : decode cX12_nearest 68 = .ok (.iload_n 1, 1) := by decide +kernel
theorem dX12_nearest_69 : decode cX12_nearest 69 = .ok (.iload_n 2, 1) := by decide +kernel
theorem dX12_nearest_70 : decode cX12_nearest 70 = .ok (.invokevirtual 432, 3) := by decide +kernel
theorem dX12_nearest_73 : decode cX12_nearest 73 = .ok (.if_icmp .ge 5, 3) := by decide +kernel
theorem dX12_nearest_76 : decode cX12_nearest 76 = .ok (.iload_n 3, 1) := by decide +kernel
theorem dX12_nearest_77 : decode cX12_nearest 77 = .ok (.istore_n 2, 1) := by decide +kernel
theorem dX12_nearest_78 : decode cX12_nearest 78 = .ok (.iinc 3 1, 3) := by decide +kernel
theorem dX12_nearest_81 : decode cX12_nearest 81 = .ok (.goto (-40), 3) := by decide +kernel
theorem dX12_nearest_84 : decode cX12_nearest 84 = .ok (.iload_n 2, 1) := by decide +kernel
theorem dX12_nearest_85 : decode cX12_nearest 85 = .ok (.ireturn, 1) := by decide +kernel
def m12_nearest : pMT := (yX12_nearest, cX12_nearest, 4, some .int)
theorem mo12_nearest : mOK m12_nearest 1 := ⟨tb_i 1883 (by decide +kernel), wi_RX12, ⟨wn_RX12.1, wn_RX12.2, by decide +kernel⟩, by decide, plainFor_of_name wp_RX12⟩
theorem mv12_nearest : mV m12_nearest := ⟨tb_i 1881 (by decide +kernel), tb_i 1882 (by decide +kernel)⟩
def f12_nearest_c41 (n : Nat) (I : (Nat → Nat → Int32)) (O : (Nat → Nat → Option Nat)) : Nat → Nat → Int32 → Int32 → Int32 → Option (Int32)
  | 0, _, _, _, _ => none
  | m + 1, b0, y1, y2, y3 => (if ((114 : Int32) + y1) < 0 ∨ 4371 ≤ ((114 : Int32) + y1).toNatClampNeg then none else (if (I (rO O b0 0) ((114 : Int32) + y1).toNatClampNeg) < (y3 + (I (rO O b0 0) 5)) then some (y2) else (f12_unlikeFrom n I O b0 y1 y3).bind fun r4 => (f12_unlikeFrom n I O b0 y1 y2).bind fun r6 => (if r6 ≤ r4 then f12_nearest_c41 n I O m b0 y1 y2 (y3 + 1) else f12_nearest_c41 n I O m b0 y1 y3 (y3 + 1))))
set_option maxHeartbeats 4000000 in
set_option maxRecDepth 20000 in
theorem o12_nearest_c41 {g : pG} {Qx : Option Value → pW → Prop} {Z : pZ} {I : (Nat → Nat → Int32)} {L : (Nat → Nat → Int64)} {O : (Nat → Nat → Option Nat)} {n : Nat} {res : Int32} (d : Nat) (hW : WT Z O) (hQ : Qx (some (.int res)) (Z, I, L, O)) : ∀ (m : Nat) (b0 : Nat) (y1 : Int32) (y2 : Int32) (y3 : Int32), (Z[b0]? = some (12, 34)) → f12_nearest_c41 n I O m b0 y1 y2 y3 = some res → Ok g (d + 5, RX12, cX12_nearest, 4, false, 0, 0, Z.length, pSl Z) Qx 41 [(0, .ref b0), (1, .int y1), (2, .int y2), (3, .int y3)] [] (Z, I, L, O) := by
  intro m
  induction m with
  | zero => intro b0 y1 y2 y3 hZ_b0 h; rw [f12_nearest_c41] at h; cases h
  | succ m ih =>
    intro b0 y1 y2 y3 hZ_b0 h
    rw [f12_nearest_c41] at h
    refine ok_iload_n dX12_nearest_41 3 rfl ?_
    refine ok_aload_n dX12_nearest_42 0 rfl ?_
    have hT1 : Z[(rO O b0 0)]? = some (13, 4371) := (wt_f (ci := 12) (k := 0) hW hZ_b0 rfl).2
    refine ok_getR (ci := 12) (k := 0) dX12_nearest_43 flRX12_7 rfl hW hZ_b0 (by decide) ?_
    refine ok_iconst (v := 5) dX12_nearest_46 (by decide) ?_
    refine ok_iald2 (N := 5) dX12_nearest_47 hT1 (by unfold vp_in; decide) (by decide) ?_
    refine ok_iadd dX12_nearest_48 ?_
    refine ok_aload_n dX12_nearest_49 0 rfl ?_
    refine ok_getR (ci := 12) (k := 0) dX12_nearest_50 flRX12_7 rfl hW hZ_b0 (by decide) ?_
    refine ok_bipush (v := 114) dX12_nearest_53 (by decide) ?_
    refine ok_iload_n dX12_nearest_55 1 rfl ?_
    refine ok_iadd dX12_nearest_56 ?_
    obtain ⟨hg2, h⟩ := gd h
    refine ok_iald2 (N := ((114 : Int32) + y1).toNatClampNeg) dX12_nearest_57 hT1 hg2 rfl ?_
    refine ok_icmp_gt (t := 84) dX12_nearest_58 (by decide) (fun hc3 => ?_) (fun hc3 => ?_)
    · have h := (if_pos hc3).symm.trans h
      refine ok_iload_n dX12_nearest_84 2 rfl ?_
      cases h
      exact ok_iret dX12_nearest_85 hQ
    · have h := (if_neg hc3).symm.trans h
      refine ok_aload_n dX12_nearest_61 0 rfl ?_
      refine ok_iload_n dX12_nearest_62 1 rfl ?_
      refine ok_iload_n dX12_nearest_63 3 rfl ?_
      obtain ⟨r4, hr5, h⟩ := bd h
      refine ok_callV (d := ((d + 0) + 4)) (mt := m12_unlikeFrom) (mc := 0) (ms := 0) (As := [.int y1, .int y3]) (r := []) dX12_nearest_64 mo12_unlikeFrom mv12_unlikeFrom lkRX12_432 rfl hZ_b0 (q := (RX12, TX12, 34)) rfl rfl rfl (Nat.le_of_ble_eq_true rfl) (by show _ + 1 ≤ d + _; omega) (Nat.le_refl _) (Nat.le_refl _) (pRt_mono ?_)
      refine k12_unlikeFrom (d + 0) hW hZ_b0 hr5 ?_
      intro _
      show Ok g _ Qx 67 [(0, .ref b0), (1, .int y1), (2, .int y2), (3, .int y3)] [.int r4] (Z, I, L, O)
      refine ok_aload_n dX12_nearest_67 0 rfl ?_
      refine ok_iload_n dX12_nearest_68 1 rfl ?_
      refine ok_iload_n dX12_nearest_69 2 rfl ?_
      obtain ⟨r6, hr7, h⟩ := bd h
      refine ok_callV (d := ((d + 0) + 4)) (mt := m12_unlikeFrom) (mc := 0) (ms := 0) (As := [.int y1, .int y2]) (r := [.int r4]) dX12_nearest_70 mo12_unlikeFrom mv12_unlikeFrom lkRX12_432 rfl hZ_b0 (q := (RX12, TX12, 34)) rfl rfl rfl (Nat.le_of_ble_eq_true rfl) (by show _ + 1 ≤ d + _; omega) (Nat.le_refl _) (Nat.le_refl _) (pRt_mono ?_)
      refine k12_unlikeFrom (d + 0) hW hZ_b0 hr7 ?_
      intro _
      show Ok g _ Qx 73 [(0, .ref b0), (1, .int y1), (2, .int y2), (3, .int y3)] [.int r6, .int r4] (Z, I, L, O)
      refine ok_icmp_ge (t := 78) dX12_nearest_73 (by decide) (fun hc8 => ?_) (fun hc8 => ?_)
      · have h := (if_pos hc8).symm.trans h
        refine ok_iinc (u := (y3 + 1)) (l' := [(3, .int (y3 + 1)), (0, .ref b0), (1, .int y1), (2, .int y2)]) dX12_nearest_78 3 rfl rfl (Nat.le_of_ble_eq_true rfl) rfl ?_
        refine ok_goto (t := 41) dX12_nearest_81 (by decide) ?_
        refine ok_sub [1, 2, 3, 0] rfl ?_
        exact ih b0 y1 y2 (y3 + 1) hZ_b0 h
      · have h := (if_neg hc8).symm.trans h
        refine ok_iload_n dX12_nearest_76 3 rfl ?_
        refine ok_istore_n (l' := [(2, .int y3), (0, .ref b0), (1, .int y1), (3, .int y3)]) dX12_nearest_77 rfl (Nat.le_of_ble_eq_true rfl) rfl ?_
        refine ok_iinc (u := (y3 + 1)) (l' := [(3, .int (y3 + 1)), (2, .int y3), (0, .ref b0), (1, .int y1)]) dX12_nearest_78 3 rfl rfl (Nat.le_of_ble_eq_true rfl) rfl ?_
        refine ok_goto (t := 41) dX12_nearest_81 (by decide) ?_
        refine ok_sub [2, 3, 1, 0] rfl ?_
        exact ih b0 y1 y3 (y3 + 1) hZ_b0 h
def f12_nearest (n : Nat) (I : (Nat → Nat → Int32)) (O : (Nat → Nat → Option Nat)) (a0 : Nat) (x1 : Int32) : Option (Int32) := (f12_isRoll I O a0 x1).bind fun r1 => (if r1 = 0 then some (((-1) : Int32)) else (if (I (rO O a0 0) 5) = 0 then some (((-1) : Int32)) else (if ((114 : Int32) + x1) < 0 ∨ 4371 ≤ ((114 : Int32) + x1).toNatClampNeg then none else (if (I (rO O a0 0) 5) ≤ (I (rO O a0 0) ((114 : Int32) + x1).toNatClampNeg) then f12_nearest_c41 n I O n a0 x1 (0 : Int32) (1 : Int32) else some (((-1) : Int32))))))
set_option maxHeartbeats 4000000 in
set_option maxRecDepth 20000 in
theorem o12_nearest {g : pG} {Qx : Option Value → pW → Prop} {Z : pZ} {I : (Nat → Nat → Int32)} {L : (Nat → Nat → Int64)} {O : (Nat → Nat → Option Nat)} {n : Nat} {a0 : Nat} {x1 : Int32} {res : Int32} (d : Nat) (hW : WT Z O) (hZ0 : Z[a0]? = some (12, 34)) (h : f12_nearest n I O a0 x1 = some res) (hQ : Qx (some (.int res)) (Z, I, L, O)) : Ok g (d + 5, RX12, cX12_nearest, 4, false, 0, 0, Z.length, pSl Z) Qx 0 [(0, .ref a0), (1, .int x1)] [] (Z, I, L, O) := by
  unfold f12_nearest at h
  refine ok_aload_n dX12_nearest_0 0 rfl ?_
  refine ok_iload_n dX12_nearest_1 1 rfl ?_
  obtain ⟨r1, hr2, h⟩ := bd h
  refine ok_callV (d := ((d + 1) + 3)) (mt := m12_isRoll) (mc := 0) (ms := 0) (As := [.int x1]) (r := []) dX12_nearest_2 mo12_isRoll mv12_isRoll lkRX12_79 rfl hZ0 (q := (RX12, TX12, 34)) rfl rfl rfl (Nat.le_of_ble_eq_true rfl) (by show _ + 1 ≤ d + _; omega) (Nat.le_refl _) (Nat.le_refl _) (pRt_mono ?_)
  refine k12_isRoll (d + 1) hW hZ0 hr2 ?_
  intro hbr1
  show Ok g _ Qx 5 [(0, .ref a0), (1, .int x1)] [.int r1] (Z, I, L, O)
  refine ok_if_eq (t := 35) dX12_nearest_5 (by decide) (fun hc3 => ?_) (fun hc3 => ?_)
  · have h := (if_pos hc3).symm.trans h
    refine ok_iconst (v := (-1)) dX12_nearest_35 (by decide) ?_
    cases h
    exact ok_iret dX12_nearest_36 hQ
  · have h := (if_neg hc3).symm.trans h
    refine ok_aload_n dX12_nearest_8 0 rfl ?_
    have hT4 : Z[(rO O a0 0)]? = some (13, 4371) := (wt_f (ci := 12) (k := 0) hW hZ0 rfl).2
    refine ok_getR (ci := 12) (k := 0) dX12_nearest_9 flRX12_7 rfl hW hZ0 (by decide) ?_
    refine ok_iconst (v := 5) dX12_nearest_12 (by decide) ?_
    refine ok_iald2 (N := 5) dX12_nearest_13 hT4 (by unfold vp_in; decide) (by decide) ?_
    refine ok_if_eq (t := 35) dX12_nearest_14 (by decide) (fun hc5 => ?_) (fun hc5 => ?_)
    · have h := (if_pos hc5).symm.trans h
      refine ok_iconst (v := (-1)) dX12_nearest_35 (by decide) ?_
      cases h
      exact ok_iret dX12_nearest_36 hQ
    · have h := (if_neg hc5).symm.trans h
      refine ok_aload_n dX12_nearest_17 0 rfl ?_
      refine ok_getR (ci := 12) (k := 0) dX12_nearest_18 flRX12_7 rfl hW hZ0 (by decide) ?_
      refine ok_iconst (v := 5) dX12_nearest_21 (by decide) ?_
      refine ok_iald2 (N := 5) dX12_nearest_22 hT4 (by unfold vp_in; decide) (by decide) ?_
      refine ok_aload_n dX12_nearest_23 0 rfl ?_
      refine ok_getR (ci := 12) (k := 0) dX12_nearest_24 flRX12_7 rfl hW hZ0 (by decide) ?_
      refine ok_bipush (v := 114) dX12_nearest_27 (by decide) ?_
      refine ok_iload_n dX12_nearest_29 1 rfl ?_
      refine ok_iadd dX12_nearest_30 ?_
      obtain ⟨hg6, h⟩ := gd h
      refine ok_iald2 (N := ((114 : Int32) + x1).toNatClampNeg) dX12_nearest_31 hT4 hg6 rfl ?_
      refine ok_icmp_le (t := 37) dX12_nearest_32 (by decide) (fun hc7 => ?_) (fun hc7 => ?_)
      · have h := (if_pos hc7).symm.trans h
        refine ok_iconst (v := 0) dX12_nearest_37 (by decide) ?_
        refine ok_istore_n (l' := [(2, .int 0), (0, .ref a0), (1, .int x1)]) dX12_nearest_38 rfl (Nat.le_of_ble_eq_true rfl) rfl ?_
        refine ok_iconst (v := 1) dX12_nearest_39 (by decide) ?_
        refine ok_istore_n (l' := [(3, .int 1), (2, .int 0), (0, .ref a0), (1, .int x1)]) dX12_nearest_40 rfl (Nat.le_of_ble_eq_true rfl) rfl ?_
        refine ok_sub [2, 3, 1, 0] rfl ?_
        exact o12_nearest_c41 d hW hQ  n a0 x1 (0 : Int32) (1 : Int32) hZ0 h
      · have h := (if_neg hc7).symm.trans h
        refine ok_iconst (v := (-1)) dX12_nearest_35 (by decide) ?_
        cases h
        exact ok_iret dX12_nearest_36 hQ
theorem k12_nearest {g : pG} {Q : Option Value → pW → Prop} {Z : pZ} {I : (Nat → Nat → Int32)} {L : (Nat → Nat → Int64)} {O : (Nat → Nat → Option Nat)} {n : Nat} {a0 : Nat} {x1 : Int32} {res : Int32} (d : Nat) (hW : WT Z O) (hZ0 : Z[a0]? = some (12, 34)) (h : f12_nearest n I O a0 x1 = some res) (hQ : Q (some (.int res)) (Z, I, L, O)) : CT g (d + 5) m12_nearest 0 0 [.ref a0, .int x1] (Z, I, L, O) Q :=
  ct_of_ok (mt := m12_nearest) (ini := false) mo12_nearest.2.2.2.2 (fun h => by cases h) (Nat.le_of_ble_eq_true rfl) (o12_nearest d hW hZ0 h ⟨trivial, hQ, rfl, rfl⟩)
theorem dX12_isPhraseIn_0 : decode cX12_isPhraseIn 0 = .ok (.iconst 0, 1) := by decide +kernel
theorem dX12_isPhraseIn_1 : decode cX12_isPhraseIn 1 = .ok (.istore_n 2, 1) := by decide +kernel
theorem dX12_isPhraseIn_2 : decode cX12_isPhraseIn 2 = .ok (.iload_n 2, 1) := by decide +kernel
theorem dX12_isPhraseIn_3 : decode cX12_isPhraseIn 3 = .ok (.aload_n 0, 1) := by decide +kernel
theorem dX12_isPhraseIn_4 : decode cX12_isPhraseIn 4 = .ok (.getfield 7, 3) := by decide +kernel
theorem dX12_isPhraseIn_7 : decode cX12_isPhraseIn 7 = .ok (.iconst 5, 1) := by decide +kernel
theorem dX12_isPhraseIn_8 : decode cX12_isPhraseIn 8 = .ok (.iaload, 1) := by decide +kernel
theorem dX12_isPhraseIn_9 : decode cX12_isPhraseIn 9 = .ok (.iadd, 1) := by decide +kernel
theorem dX12_isPhraseIn_10 : decode cX12_isPhraseIn 10 = .ok (.aload_n 0, 1) := by decide +kernel
theorem dX12_isPhraseIn_11 : decode cX12_isPhraseIn 11 = .ok (.getfield 7, 3) := by decide +kernel
theorem dX12_isPhraseIn_14 : decode cX12_isPhraseIn 14 = .ok (.bipush 114, 2) := by decide +kernel
theorem dX12_isPhraseIn_16 : decode cX12_isPhraseIn 16 = .ok (.iload_n 1, 1) := by decide +kernel
theorem dX12_isPhraseIn_17 : decode cX12_isPhraseIn 17 = .ok (.iadd, 1) := by decide +kernel
theorem dX12_isPhraseIn_18 : decode cX12_isPhraseIn 18 = .ok (.iaload, 1) := by decide +kernel
theorem dX12_isPhraseIn_19 : decode cX12_isPhraseIn 19 = .ok (.if_icmp .gt 60, 3) := by decide +kernel
theorem dX12_isPhraseIn_22 : decode cX12_isPhraseIn 22 = .ok (.iconst 0, 1) := by decide +kernel
theorem dX12_isPhraseIn_23 : decode cX12_isPhraseIn 23 = .ok (.istore_n 3, 1) := by decide +kernel
theorem dX12_isPhraseIn_24 : decode cX12_isPhraseIn 24 = .ok (.iload_n 3, 1) := by decide +kernel
theorem dX12_isPhraseIn_25 : decode cX12_isPhraseIn 25 = .ok (.aload_n 0, 1) := by decide +kernel
theorem dX12_isPhraseIn_26 : decode cX12_isPhraseIn 26 = .ok (.getfield 7, 3) := by decide +kernel
theorem dX12_isPhraseIn_29 : decode cX12_isPhraseIn 29 = .ok (.iconst 5, 1) := by decide +kernel
theorem dX12_isPhraseIn_30 : decode cX12_isPhraseIn 30 = .ok (.iaload, 1) := by decide +kernel
theorem dX12_isPhraseIn_31 : decode cX12_isPhraseIn 31 = .ok (.if_icmp .ge 30, 3) := by decide +kernel
theorem dX12_isPhraseIn_34 : decode cX12_isPhraseIn 34 = .ok (.aload_n 0, 1) := by decide +kernel
theorem dX12_isPhraseIn_35 : decode cX12_isPhraseIn 35 = .ok (.getfield 53, 3) := by decide +kernel
theorem dX12_isPhraseIn_38 : decode cX12_isPhraseIn 38 = .ok (.iload_n 2, 1) := by decide +kernel
theorem dX12_isPhraseIn_39 : decode cX12_isPhraseIn 39 = .ok (.iload_n 3, 1) := by decide +kernel
theorem dX12_isPhraseIn_40 : decode cX12_isPhraseIn 40 = .ok (.iadd, 1) := by decide +kernel
theorem dX12_isPhraseIn_41 : decode cX12_isPhraseIn 41 = .ok (.iaload, 1) := by decide +kernel
theorem dX12_isPhraseIn_42 : decode cX12_isPhraseIn 42 = .ok (.aload_n 0, 1) := by decide +kernel
theorem dX12_isPhraseIn_43 : decode cX12_isPhraseIn 43 = .ok (.getfield 7, 3) := by decide +kernel
theorem dX12_isPhraseIn_46 : decode cX12_isPhraseIn 46 = .ok (.sipush 199, 3) := by decide +kernel
theorem dX12_isPhraseIn_49 : decode cX12_isPhraseIn 49 = .ok (.iload_n 3, 1) := by decide +kernel
theorem dX12_isPhraseIn_50 : decode cX12_isPhraseIn 50 = .ok (.iadd, 1) := by decide +kernel
theorem dX12_isPhraseIn_51 : decode cX12_isPhraseIn 51 = .ok (.iaload, 1) := by decide +kernel
theorem dX12_isPhraseIn_52 : decode cX12_isPhraseIn 52 = .ok (.if_icmp .ne 9, 3) := by decide +kernel
theorem dX12_isPhraseIn_55 : decode cX12_isPhraseIn 55 = .ok (.iinc 3 1, 3) := by decide +kernel
theorem dX12_isPhraseIn_58 : decode cX12_isPhraseIn 58 = .ok (.goto (-34), 3) := by decide +kernel
theorem dX12_isPhraseIn_61 : decode cX12_isPhraseIn 61 = .ok (.iload_n 3, 1) := by decide +kernel
theorem dX12_isPhraseIn_62 : decode cX12_isPhraseIn 62 = .ok (.aload_n 0, 1) := by decide +kernel
theorem dX12_isPhraseIn_63 : decode cX12_isPhraseIn 63 = .ok (.getfield 7, 3) := by decide +kernel
theorem dX12_isPhraseIn_66 : decode cX12_isPhraseIn 66 = .ok (.iconst 5, 1) := by decide +kernel
theorem dX12_isPhraseIn_67 : decode cX12_isPhraseIn 67 = .ok (.iaload, 1) := by decide +kernel
theorem dX12_isPhraseIn_68 : decode cX12_isPhraseIn 68 = .ok (.if_icmp .ne 5, 3) := by decide +kernel
theorem dX12_isPhraseIn_71 : decode cX12_isPhraseIn 71 = .ok (.iconst 1, 1) := by decide +kernel
theorem dX12_isPhraseIn_72 : decode cX12_isPhraseIn 72 = .ok (.ireturn, 1) := by decide +kernel
theorem dX12_isPhraseIn_73 : decode cX12_isPhraseIn 73 = .ok (.iinc 2 1, 3) := by decide +kernel
theorem dX12_isPhraseIn_76 : decode cX12_isPhraseIn 76 = .ok (.goto (-74), 3) := by decide +kernel
theorem dX12_isPhraseIn_79 : decode cX12_isPhraseIn 79 = .ok (.iconst 0, 1) := by decide +kernel
theorem dX12_isPhraseIn_80 : decode cX12_isPhraseIn 80 = .ok (.ireturn, 1) := by decide +kernel
def m12_isPhraseIn : pMT := (yX12_isPhraseIn, cX12_isPhraseIn, 4, some .boolean)
theorem mo12_isPhraseIn : mOK m12_isPhraseIn 1 := ⟨tb_i 1892 (by decide +kernel), wi_RX12, ⟨wn_RX12.1, wn_RX12.2, by decide +kernel⟩, by decide, plainFor_of_name wp_RX12⟩
theorem mv12_isPhraseIn : mV m12_isPhraseIn := ⟨tb_i 1891 (by decide +kernel), tb_p 127 (by decide +kernel)⟩
def f12_isPhraseIn_c24 (n : Nat) (I : (Nat → Nat → Int32)) (O : (Nat → Nat → Option Nat)) (k2 : (Nat → Int32 → Int32 → Option (Int32))) : Nat → Nat → Int32 → Int32 → Int32 → Option (Int32)
  | 0, _, _, _, _ => none
  | m + 1, b0, y1, y2, y3 => (if (I (rO O b0 0) 5) ≤ y3 then (if y3 = (I (rO O b0 0) 5) then some ((1 : Int32)) else k2 b0 y1 (y2 + 1)) else (if (y2 + y3) < 0 ∨ 16 ≤ (y2 + y3).toNatClampNeg then none else (if ((199 : Int32) + y3) < 0 ∨ 4371 ≤ ((199 : Int32) + y3).toNatClampNeg then none else (if (I (rO O b0 27) (y2 + y3).toNatClampNeg) = (I (rO O b0 0) ((199 : Int32) + y3).toNatClampNeg) then f12_isPhraseIn_c24 n I O k2 m b0 y1 y2 (y3 + 1) else (if y3 = (I (rO O b0 0) 5) then some ((1 : Int32)) else k2 b0 y1 (y2 + 1))))))
set_option maxHeartbeats 4000000 in
set_option maxRecDepth 20000 in
theorem o12_isPhraseIn_c24 {g : pG} {Qx : Option Value → pW → Prop} {Z : pZ} {I : (Nat → Nat → Int32)} {L : (Nat → Nat → Int64)} {O : (Nat → Nat → Option Nat)} {n : Nat} {k2 : (Nat → Int32 → Int32 → Option (Int32))} {res : Int32} (d : Nat) (hW : WT Z O) (hQ : (res = 0 ∨ res = 1) → Qx (some (.int res)) (Z, I, L, O)) (hk2 : ∀ (b0 : Nat) (y1 : Int32) (y2 : Int32), (Z[b0]? = some (12, 34)) → k2 b0 y1 y2 = some res → Ok g (d + 2, RX12, cX12_isPhraseIn, 4, false, 0, 0, Z.length, pSl Z) Qx 2 [(0, .ref b0), (1, .int y1), (2, .int y2)] [] (Z, I, L, O)) : ∀ (m : Nat) (b0 : Nat) (y1 : Int32) (y2 : Int32) (y3 : Int32), (Z[b0]? = some (12, 34)) → f12_isPhraseIn_c24 n I O k2 m b0 y1 y2 y3 = some res → Ok g (d + 2, RX12, cX12_isPhraseIn, 4, false, 0, 0, Z.length, pSl Z) Qx 24 [(0, .ref b0), (1, .int y1), (2, .int y2), (3, .int y3)] [] (Z, I, L, O) := by
  intro m
  induction m with
  | zero => intro b0 y1 y2 y3 hZ_b0 h; rw [f12_isPhraseIn_c24] at h; cases h
  | succ m ih =>
    intro b0 y1 y2 y3 hZ_b0 h
    rw [f12_isPhraseIn_c24] at h
    refine ok_iload_n dX12_isPhraseIn_24 3 rfl ?_
    refine ok_aload_n dX12_isPhraseIn_25 0 rfl ?_
    have hT1 : Z[(rO O b0 0)]? = some (13, 4371) := (wt_f (ci := 12) (k := 0) hW hZ_b0 rfl).2
    refine ok_getR (ci := 12) (k := 0) dX12_isPhraseIn_26 flRX12_7 rfl hW hZ_b0 (by decide) ?_
    refine ok_iconst (v := 5) dX12_isPhraseIn_29 (by decide) ?_
    refine ok_iald2 (N := 5) dX12_isPhraseIn_30 hT1 (by unfold vp_in; decide) (by decide) ?_
    refine ok_icmp_ge (t := 61) dX12_isPhraseIn_31 (by decide) (fun hc2 => ?_) (fun hc2 => ?_)
    · have h := (if_pos hc2).symm.trans h
      refine ok_iload_n dX12_isPhraseIn_61 3 rfl ?_
      refine ok_aload_n dX12_isPhraseIn_62 0 rfl ?_
      refine ok_getR (ci := 12) (k := 0) dX12_isPhraseIn_63 flRX12_7 rfl hW hZ_b0 (by decide) ?_
      refine ok_iconst (v := 5) dX12_isPhraseIn_66 (by decide) ?_
      refine ok_iald2 (N := 5) dX12_isPhraseIn_67 hT1 (by unfold vp_in; decide) (by decide) ?_
      refine ok_icmp_ne (t := 73) dX12_isPhraseIn_68 (by decide) (fun hc3 => ?_) (fun hc3 => ?_)
      · have h := (if_neg hc3).symm.trans h
        refine ok_iinc (u := (y2 + 1)) (l' := [(2, .int (y2 + 1)), (0, .ref b0), (1, .int y1), (3, .int y3)]) dX12_isPhraseIn_73 2 rfl rfl (Nat.le_of_ble_eq_true rfl) rfl ?_
        refine ok_goto (t := 2) dX12_isPhraseIn_76 (by decide) ?_
        refine ok_sub [1, 2, 0] rfl ?_
        exact hk2 b0 y1 (y2 + 1) hZ_b0 h
      · have h := (if_pos hc3).symm.trans h
        refine ok_iconst (v := 1) dX12_isPhraseIn_71 (by decide) ?_
        cases h
        exact ok_iret dX12_isPhraseIn_72 (hQ (Or.inr rfl))
    · have h := (if_neg hc2).symm.trans h
      refine ok_aload_n dX12_isPhraseIn_34 0 rfl ?_
      have hT4 : Z[(rO O b0 27)]? = some (13, 16) := (wt_f (ci := 12) (k := 27) hW hZ_b0 rfl).2
      refine ok_getR (ci := 12) (k := 27) dX12_isPhraseIn_35 flRX12_53 rfl hW hZ_b0 (by decide) ?_
      refine ok_iload_n dX12_isPhraseIn_38 2 rfl ?_
      refine ok_iload_n dX12_isPhraseIn_39 3 rfl ?_
      refine ok_iadd dX12_isPhraseIn_40 ?_
      obtain ⟨hg5, h⟩ := gd h
      refine ok_iald2 (N := (y2 + y3).toNatClampNeg) dX12_isPhraseIn_41 hT4 hg5 rfl ?_
      refine ok_aload_n dX12_isPhraseIn_42 0 rfl ?_
      refine ok_getR (ci := 12) (k := 0) dX12_isPhraseIn_43 flRX12_7 rfl hW hZ_b0 (by decide) ?_
      refine ok_sipush (v := 199) dX12_isPhraseIn_46 (by decide) ?_
      refine ok_iload_n dX12_isPhraseIn_49 3 rfl ?_
      refine ok_iadd dX12_isPhraseIn_50 ?_
      obtain ⟨hg6, h⟩ := gd h
      refine ok_iald2 (N := ((199 : Int32) + y3).toNatClampNeg) dX12_isPhraseIn_51 hT1 hg6 rfl ?_
      refine ok_icmp_ne (t := 61) dX12_isPhraseIn_52 (by decide) (fun hc7 => ?_) (fun hc7 => ?_)
      · have h := (if_neg hc7).symm.trans h
        refine ok_iload_n dX12_isPhraseIn_61 3 rfl ?_
        refine ok_aload_n dX12_isPhraseIn_62 0 rfl ?_
        refine ok_getR (ci := 12) (k := 0) dX12_isPhraseIn_63 flRX12_7 rfl hW hZ_b0 (by decide) ?_
        refine ok_iconst (v := 5) dX12_isPhraseIn_66 (by decide) ?_
        refine ok_iald2 (N := 5) dX12_isPhraseIn_67 hT1 (by unfold vp_in; decide) (by decide) ?_
        refine ok_icmp_ne (t := 73) dX12_isPhraseIn_68 (by decide) (fun hc8 => ?_) (fun hc8 => ?_)
        · have h := (if_neg hc8).symm.trans h
          refine ok_iinc (u := (y2 + 1)) (l' := [(2, .int (y2 + 1)), (0, .ref b0), (1, .int y1), (3, .int y3)]) dX12_isPhraseIn_73 2 rfl rfl (Nat.le_of_ble_eq_true rfl) rfl ?_
          refine ok_goto (t := 2) dX12_isPhraseIn_76 (by decide) ?_
          refine ok_sub [1, 2, 0] rfl ?_
          exact hk2 b0 y1 (y2 + 1) hZ_b0 h
        · have h := (if_pos hc8).symm.trans h
          refine ok_iconst (v := 1) dX12_isPhraseIn_71 (by decide) ?_
          cases h
          exact ok_iret dX12_isPhraseIn_72 (hQ (Or.inr rfl))
      · have h := (if_pos hc7).symm.trans h
        refine ok_iinc (u := (y3 + 1)) (l' := [(3, .int (y3 + 1)), (0, .ref b0), (1, .int y1), (2, .int y2)]) dX12_isPhraseIn_55 3 rfl rfl (Nat.le_of_ble_eq_true rfl) rfl ?_
        refine ok_goto (t := 24) dX12_isPhraseIn_58 (by decide) ?_
        refine ok_sub [1, 2, 3, 0] rfl ?_
        exact ih b0 y1 y2 (y3 + 1) hZ_b0 h
def f12_isPhraseIn_c2 (n : Nat) (I : (Nat → Nat → Int32)) (O : (Nat → Nat → Option Nat)) : Nat → Nat → Int32 → Int32 → Option (Int32)
  | 0, _, _, _ => none
  | m + 1, b0, y1, y2 => (if ((114 : Int32) + y1) < 0 ∨ 4371 ≤ ((114 : Int32) + y1).toNatClampNeg then none else (if (I (rO O b0 0) ((114 : Int32) + y1).toNatClampNeg) < (y2 + (I (rO O b0 0) 5)) then some ((0 : Int32)) else f12_isPhraseIn_c24 n I O (f12_isPhraseIn_c2 n I O m) n b0 y1 y2 (0 : Int32)))
set_option maxHeartbeats 4000000 in
set_option maxRecDepth 20000 in
theorem o12_isPhraseIn_c2 {g : pG} {Qx : Option Value → pW → Prop} {Z : pZ} {I : (Nat → Nat → Int32)} {L : (Nat → Nat → Int64)} {O : (Nat → Nat → Option Nat)} {n : Nat} {res : Int32} (d : Nat) (hW : WT Z O) (hQ : (res = 0 ∨ res = 1) → Qx (some (.int res)) (Z, I, L, O)) : ∀ (m : Nat) (b0 : Nat) (y1 : Int32) (y2 : Int32), (Z[b0]? = some (12, 34)) → f12_isPhraseIn_c2 n I O m b0 y1 y2 = some res → Ok g (d + 2, RX12, cX12_isPhraseIn, 4, false, 0, 0, Z.length, pSl Z) Qx 2 [(0, .ref b0), (1, .int y1), (2, .int y2)] [] (Z, I, L, O) := by
  intro m
  induction m with
  | zero => intro b0 y1 y2 hZ_b0 h; rw [f12_isPhraseIn_c2] at h; cases h
  | succ m ih =>
    intro b0 y1 y2 hZ_b0 h
    rw [f12_isPhraseIn_c2] at h
    refine ok_iload_n dX12_isPhraseIn_2 2 rfl ?_
    refine ok_aload_n dX12_isPhraseIn_3 0 rfl ?_
    have hT1 : Z[(rO O b0 0)]? = some (13, 4371) := (wt_f (ci := 12) (k := 0) hW hZ_b0 rfl).2
    refine ok_getR (ci := 12) (k := 0) dX12_isPhraseIn_4 flRX12_7 rfl hW hZ_b0 (by decide) ?_
    refine ok_iconst (v := 5) dX12_isPhraseIn_7 (by decide) ?_
    refine ok_iald2 (N := 5) dX12_isPhraseIn_8 hT1 (by unfold vp_in; decide) (by decide) ?_
    refine ok_iadd dX12_isPhraseIn_9 ?_
    refine ok_aload_n dX12_isPhraseIn_10 0 rfl ?_
    refine ok_getR (ci := 12) (k := 0) dX12_isPhraseIn_11 flRX12_7 rfl hW hZ_b0 (by decide) ?_
    refine ok_bipush (v := 114) dX12_isPhraseIn_14 (by decide) ?_
    refine ok_iload_n dX12_isPhraseIn_16 1 rfl ?_
    refine ok_iadd dX12_isPhraseIn_17 ?_
    obtain ⟨hg2, h⟩ := gd h
    refine ok_iald2 (N := ((114 : Int32) + y1).toNatClampNeg) dX12_isPhraseIn_18 hT1 hg2 rfl ?_
    refine ok_icmp_gt (t := 79) dX12_isPhraseIn_19 (by decide) (fun hc3 => ?_) (fun hc3 => ?_)
    · have h := (if_pos hc3).symm.trans h
      refine ok_iconst (v := 0) dX12_isPhraseIn_79 (by decide) ?_
      cases h
      exact ok_iret dX12_isPhraseIn_80 (hQ (Or.inl rfl))
    · have h := (if_neg hc3).symm.trans h
      refine ok_iconst (v := 0) dX12_isPhraseIn_22 (by decide) ?_
      refine ok_istore_n (l' := [(3, .int 0), (0, .ref b0), (1, .int y1), (2, .int y2)]) dX12_isPhraseIn_23 rfl (Nat.le_of_ble_eq_true rfl) rfl ?_
      refine ok_sub [1, 2, 3, 0] rfl ?_
      exact o12_isPhraseIn_c24 d hW hQ ih n b0 y1 y2 (0 : Int32) hZ_b0 h
def f12_isPhraseIn (n : Nat) (I : (Nat → Nat → Int32)) (O : (Nat → Nat → Option Nat)) (a0 : Nat) (x1 : Int32) : Option (Int32) := f12_isPhraseIn_c2 n I O n a0 x1 (0 : Int32)
set_option maxHeartbeats 4000000 in
set_option maxRecDepth 20000 in
theorem o12_isPhraseIn {g : pG} {Qx : Option Value → pW → Prop} {Z : pZ} {I : (Nat → Nat → Int32)} {L : (Nat → Nat → Int64)} {O : (Nat → Nat → Option Nat)} {n : Nat} {a0 : Nat} {x1 : Int32} {res : Int32} (d : Nat) (hW : WT Z O) (hZ0 : Z[a0]? = some (12, 34)) (h : f12_isPhraseIn n I O a0 x1 = some res) (hQ : (res = 0 ∨ res = 1) → Qx (some (.int res)) (Z, I, L, O)) : Ok g (d + 2, RX12, cX12_isPhraseIn, 4, false, 0, 0, Z.length, pSl Z) Qx 0 [(0, .ref a0), (1, .int x1)] [] (Z, I, L, O) := by
  unfold f12_isPhraseIn at h
  refine ok_iconst (v := 0) dX12_isPhraseIn_0 (by decide) ?_
  refine ok_istore_n (l' := [(2, .int 0), (0, .ref a0), (1, .int x1)]) dX12_isPhraseIn_1 rfl (Nat.le_of_ble_eq_true rfl) rfl ?_
  refine ok_sub [1, 2, 0] rfl ?_
  exact o12_isPhraseIn_c2 d hW hQ  n a0 x1 (0 : Int32) hZ0 h
theorem k12_isPhraseIn {g : pG} {Q : Option Value → pW → Prop} {Z : pZ} {I : (Nat → Nat → Int32)} {L : (Nat → Nat → Int64)} {O : (Nat → Nat → Option Nat)} {n : Nat} {a0 : Nat} {x1 : Int32} {res : Int32} (d : Nat) (hW : WT Z O) (hZ0 : Z[a0]? = some (12, 34)) (h : f12_isPhraseIn n I O a0 x1 = some res) (hQ : Q (some (.int res)) (Z, I, L, O)) : CT g (d + 2) m12_isPhraseIn 0 0 [.ref a0, .int x1] (Z, I, L, O) Q :=
  ct_of_ok (mt := m12_isPhraseIn) (ini := false) mo12_isPhraseIn.2.2.2.2 (fun h => by cases h) (Nat.le_of_ble_eq_true rfl) (o12_isPhraseIn d hW hZ0 h (fun hb => ⟨hb, hQ, rfl, rfl⟩))
theorem dX12_fills_0 : decode cX12_fills 0 = .ok (.aload_n 0, 1) := by decide +kernel
theorem dX12_fills_1 : decode cX12_fills 1 = .ok (.iload_n 1, 1) := by decide +kernel
theorem dX12_fills_2 : decode cX12_fills 2 = .ok (.invokevirtual 79, 3) := by decide +kernel
theorem dX12_fills_5 : decode cX12_fills 5 = .ok (.ifCond .eq 15, 3) := by decide +kernel
theorem dX12_fills_8 : decode cX12_fills 8 = .ok (.aload_n 0, 1) := by decide +kernel
theorem dX12_fills_9 : decode cX12_fills 9 = .ok (.iload_n 1, 1) := by decide +kernel
theorem dX12_fills_10 : decode cX12_fills 10 = .ok (.invokevirtual 401, 3) := by decide +kernel
theorem dX12_fills_13 : decode cX12_fills 13 = .ok (.invokestatic 413, 3) := by decide +kernel
theorem dX12_fills_16 : decode cX12_fills 16 = .ok (.iconst 4, 1) := by decide +kernel
theorem dX12_fills_17 : decode cX12_fills 17 = .ok (.if_icmp .le 7, 3) := by decide +kernel
theorem dX12_fills_20 : decode cX12_fills 20 = .ok (.ldc2_w 435, 3) := by decide +kernel
theorem dX12_fills_23 : decode cX12_fills 23 = .ok (.lreturn, 1) := by decide +kernel
theorem dX12_fills_24 : decode cX12_fills 24 = .ok (.iconst 1, 1) := by decide +kernel
theorem dX12_fills_25 : decode cX12_fills 25 = .ok (.istore_n 2, 1) := by decide +kernel
theorem dX12_fills_26 : decode cX12_fills 26 = .ok (.iconst 0, 1) := by decide +kernel
theorem dX12_fills_27 : decode cX12_fills 27 = .ok (.istore_n 3, 1) := by decide +kernel
theorem dX12_fills_28 : decode cX12_fills 28 = .ok (.iload_n 3, 1) := by decide +kernel
theorem dX12_fills_29 : decode cX12_fills 29 = .ok (.aload_n 0, 1) := by decide +kernel
theorem dX12_fills_30 : decode cX12_fills 30 = .ok (.iload_n 1, 1) := by decide +kernel
theorem dX12_fills_31 : decode cX12_fills 31 = .ok (.invokevirtual 401, 3) := by decide +kernel
theorem dX12_fills_34 : decode cX12_fills 34 = .ok (.invokestatic 413, 3) := by decide +kernel
theorem dX12_fills_37 : decode cX12_fills 37 = .ok (.if_icmp .ge 14, 3) := by decide +kernel
theorem dX12_fills_40 : decode cX12_fills 40 = .ok (.iload_n 2, 1) := by decide +kernel
theorem dX12_fills_41 : decode cX12_fills 41 = .ok (.bipush 6, 2) := by decide +kernel
theorem dX12_fills_43 : decode cX12_fills 43 = .ok (.imul, 1) := by decide +kernel
theorem dX12_fills_44 : decode cX12_fills 44 = .ok (.istore_n 2, 1) := by decide +kernel
theorem dX12_fills_45 : decode cX12_fills 45 = .ok (.iinc 3 1, 3) := by decide +kernel
theorem dX12_fills_48 : decode cX12_fills 48 = .ok (.goto (-20), 3) := by decide +kernel
theorem dX12_fills_51 : decode cX12_fills 51 = .ok (.lconst 0, 1) := by decide +kernel
theorem dX12_fills_52 : decode cX12_fills 52 = .ok (.lstore_n 3, 1) := by decide +kernel
theorem dX12_fills_53 : decode cX12_fills 53 = .ok (.iconst 0, 1) := by decide +kernel
theorem dX12_fills_54 : decode cX12_fills 54 = .ok (.istore 5, 2) := by decide +kernel
theorem dX12_fills_56 : decode cX12_fills 56 = .ok (.iload 5, 2) := by decide +kernel
theorem dX12_fills_58 : decode cX12_fills 58 = .ok (.iload_n 2, 1) := by decide +kernel
theorem dX12_fills_59 : decode cX12_fills 59 = .ok (.if_icmp .ge 105, 3) := by decide +kernel
theorem dX12_fills_62 : decode cX12_fills 62 = .ok (.iload 5, 2) := by decide +kernel
theorem dX12_fills_64 : decode cX12_fills 64 = .ok (.istore 6, 2) := by decide +kernel
theorem dX12_fills_66 : decode cX12_fills 66 = .ok (.iconst 0, 1) := by decide +kernel
theorem dX12_fills_67 : decode cX12_fills 67 = .ok (.istore 7, 2) := by decide +kernel
theorem dX12_fills_69 : decode cX12_fills 69 = .ok (.iload 7, 2) := by decide +kernel
theorem dX12_fills_71 : decode cX12_fills 71 = .ok (.aload_n 0, 1) := by decide +kernel
theorem dX12_fills_72 : decode cX12_fills 72 = .ok (.getfield 7, 3) := by decide +kernel
theorem dX12_fills_75 : decode cX12_fills 75 = .ok (.bipush 114, 2) := by decide +kernel
theorem dX12_fills_77 : decode cX12_fills 77 = .ok (.iload_n 1, 1) := by decide +kernel
theorem dX12_fills_78 : decode cX12_fills 78 = .ok (.iadd, 1) := by decide +kernel
theorem dX12_fills_79 : decode cX12_fills 79 = .ok (.iaload, 1) := by decide +kernel
theorem dX12_fills_80 : decode cX12_fills 80 = .ok (.if_icmp .ge 62, 3) := by decide +kernel
theorem dX12_fills_83 : decode cX12_fills 83 = .ok (.aload_n 0, 1) := by decide +kernel
theorem dX12_fills_84 : decode cX12_fills 84 = .ok (.getfield 53, 3) := by decide +kernel
theorem dX12_fills_87 : decode cX12_fills 87 = .ok (.iload 7, 2) := by decide +kernel
theorem dX12_fills_89 : decode cX12_fills 89 = .ok (.aload_n 0, 1) := by decide +kernel
theorem dX12_fills_90 : decode cX12_fills 90 = .ok (.iload_n 1, 1) := by decide +kernel
theorem dX12_fills_91 : decode cX12_fills 91 = .ok (.iload 7, 2) := by decide +kernel
theorem dX12_fills_93 : decode cX12_fills 93 = .ok (.invokevirtual 90, 3) := by decide +kernel
theorem dX12_fills_96 : decode cX12_fills 96 = .ok (.ifCond .eq 11, 3) := by decide +kernel
theorem dX12_fills_99 : decode cX12_fills 99 = .ok (.iload 6, 2) := by decide +kernel
theorem dX12_fills_101 : decode cX12_fills 101 = .ok (.bipush 6, 2) := by decide +kernel
theorem dX12_fills_103 : decode cX12_fills 103 = .ok (.irem, 1) := by decide +kernel
theorem dX12_fills_104 : decode cX12_fills 104 = .ok (.goto 10, 3) := by decide +kernel
theorem dX12_fills_107 : decode cX12_fills 107 = .ok (.aload_n 0, 1) := by decide +kernel
theorem dX12_fills_108 : decode cX12_fills 108 = .ok (.iload_n 1, 1) := by decide +kernel
theorem dX12_fills_109 : decode cX12_fills 109 = .ok (.iload 7, 2) := by decide +kernel
theorem dX12_fills_111 : decode cX12_fills 111 = .ok (.invokevirtual 87, 3) := by decide +kernel
theorem dX12_fills_114 : decode cX12_fills 114 = .ok (.iastore, 1) := by decide +kernel
theorem dX12_fills_115 : decode cX12_fills 115 = .ok (.iload 6, 2) := by decide +kernel
theorem dX12_fills_117 : decode cX12_fills 117 = .ok (.aload_n 0, 1) := by decide +kernel
theorem dX12_fills_118 : decode cX12_fills 118 = .ok (.iload_n 1, 1) := by decide +kernel
theorem dX12_fills_119 : decode cX12_fills 119 = .ok (.iload 7, 2) := by decide +kernel
theorem dX12_fills_121 : decode cX12_fills 121 = .ok (.invokevirtual 90, 3) := by decide +kernel
theorem dX12_fills_124 : decode cX12_fills 124 = .ok (.ifCond .eq 8, 3) := by decide +kernel
theorem dX12_fills_127 : decode cX12_fills 127 = .ok (.bipush 6, 2) := by decide +kernel
theorem dX12_fills_129 : decode cX12_fills 129 = .ok (.goto 4, 3) := by decide +kernel
theorem dX12_fills_132 : decode cX12_fills 132 = .ok (.iconst 1, 1) := by decide +kernel
theorem dX12_fills_133 : decode cX12_fills 133 = .ok (.idiv, 1) := by decide +kernel
theorem dX12_fills_134 : decode cX12_fills 134 = .ok (.istore 6, 2) := by decide +kernel
theorem dX12_fills_136 : decode cX12_fills 136 = .ok (.iinc 7 1, 3) := by decide +kernel
theorem dX12_fills_139 : decode cX12_fills 139 = .ok (.goto (-70), 3) := by decide +kernel
theorem dX12_fills_142 : decode cX12_fills 142 = .ok (.lload_n 3, 1) := by decide +kernel
theorem dX12_fills_143 : decode cX12_fills 143 = .ok (.aload_n 0, 1) := by decide +kernel
theorem dX12_fills_144 : decode cX12_fills 144 = .ok (.iload_n 1, 1) := by decide +kernel
theorem dX12_fills_145 : decode cX12_fills 145 = .ok (.invokevirtual 437, 3) := by decide +kernel
theorem dX12_fills_148 : decode cX12_fills 148 = .ok (.ifCond .eq 7, 3) := by decide +kernel
theorem dX12_fills_151 : decode cX12_fills 151 = .ok (.lconst 1, 1) := by decide +kernel
theorem dX12_fills_152 : decode cX12_fills 152 = .ok (.goto 4, 3) := by decide +kernel
theorem dX12_fills_155 : decode cX12_fills 155 = .ok (.lconst 0, 1) := by decide +kernel
theorem dX12_fills_156 : decode cX12_fills 156 = .ok (.ladd, 1) := by decide +kernel
theorem dX12_fills_157 : decode cX12_fills 157 = .ok (.lstore_n 3, 1) := by decide +kernel
theorem dX12_fills_158 : decode cX12_fills 158 = .ok (.iinc 5 1, 3) := by decide +kernel
theorem dX12_fills_161 : decode cX12_fills 161 = .ok (.goto (-105), 3) := by decide +kernel
theorem dX12_fills_164 : decode cX12_fills 164 = .ok (.lload_n 3, 1) := by decide +kernel
theorem dX12_fills_165 : decode cX12_fills 165 = .ok (.lreturn, 1) := by decide +kernel
def m12_fills : pMT := (yX12_fills, cX12_fills, 8, some .long)
theorem mo12_fills : mOK m12_fills 1 := ⟨tb_i 1887 (by decide +kernel), wi_RX12, ⟨wn_RX12.1, wn_RX12.2, by decide +kernel⟩, by decide, plainFor_of_name wp_RX12⟩
theorem mv12_fills : mV m12_fills := ⟨tb_i 1885 (by decide +kernel), tb_i 1886 (by decide +kernel)⟩
def f12_fills_c114 (n : Nat) (O : (Nat → Nat → Option Nat)) (k56 : ((Nat → Nat → Int32) → Nat → Int32 → Int32 → Int64 → Int32 → Option (Int64 × (Nat → Nat → Int32)))) (k69 : ((Nat → Nat → Int32) → Nat → Int32 → Int32 → Int64 → Int32 → Int32 → Int32 → Option (Int64 × (Nat → Nat → Int32)))) (I : (Nat → Nat → Int32)) (b0 : Nat) (y1 : Int32) (y2 : Int32) (y3 : Int64) (y5 : Int32) (y6 : Int32) (y7 : Int32) (t0 : Int32) (t1 : Int32) (t2 : Nat) : Option (Int64 × (Nat → Nat → Int32)) := (if t1 < 0 ∨ 16 ≤ t1.toNatClampNeg then none else bl (sI I t2 t1.toNatClampNeg t0) fun I2 => (f12_isTorn I2 O b0 y1 y7).bind fun r3 => (if r3 = 0 then k69 I2 b0 y1 y2 y3 y5 (y6 / 1) (y7 + 1) else k69 I2 b0 y1 y2 y3 y5 (y6 / 6) (y7 + 1)))
set_option maxHeartbeats 4000000 in
set_option maxRecDepth 20000 in
theorem o12_fills_c114 {g : pG} {Qx : Option Value → pW → Prop} {Z : pZ} {L : (Nat → Nat → Int64)} {O : (Nat → Nat → Option Nat)} {n : Nat} {k56 : ((Nat → Nat → Int32) → Nat → Int32 → Int32 → Int64 → Int32 → Option (Int64 × (Nat → Nat → Int32)))} {k69 : ((Nat → Nat → Int32) → Nat → Int32 → Int32 → Int64 → Int32 → Int32 → Int32 → Option (Int64 × (Nat → Nat → Int32)))} {res : Int64 × (Nat → Nat → Int32)} (d : Nat) (hW : WT Z O) (hQ : Qx (some (.long res.1)) (Z, res.2, L, O)) (hk56 : ∀ (I : (Nat → Nat → Int32)) (b0 : Nat) (y1 : Int32) (y2 : Int32) (y3 : Int64) (y5 : Int32), (Z[b0]? = some (12, 34)) → k56 I b0 y1 y2 y3 y5 = some res → Ok g (d + 5, RX12, cX12_fills, 8, false, 0, 0, Z.length, pSl Z) Qx 56 [(0, .ref b0), (1, .int y1), (2, .int y2), (3, .long y3), (5, .int y5)] [] (Z, I, L, O)) (hk69 : ∀ (I : (Nat → Nat → Int32)) (b0 : Nat) (y1 : Int32) (y2 : Int32) (y3 : Int64) (y5 : Int32) (y6 : Int32) (y7 : Int32), (Z[b0]? = some (12, 34)) → k69 I b0 y1 y2 y3 y5 y6 y7 = some res → Ok g (d + 5, RX12, cX12_fills, 8, false, 0, 0, Z.length, pSl Z) Qx 69 [(0, .ref b0), (1, .int y1), (2, .int y2), (3, .long y3), (5, .int y5), (6, .int y6), (7, .int y7)] [] (Z, I, L, O)) (I : (Nat → Nat → Int32)) (b0 : Nat) (y1 : Int32) (y2 : Int32) (y3 : Int64) (y5 : Int32) (y6 : Int32) (y7 : Int32) (t0 : Int32) (t1 : Int32) (t2 : Nat) (hZ_b0 : Z[b0]? = some (12, 34)) (hZ_t2 : Z[t2]? = some (13, 16)) (h : f12_fills_c114 n O k56 k69 I b0 y1 y2 y3 y5 y6 y7 t0 t1 t2 = some res) : Ok g (d + 5, RX12, cX12_fills, 8, false, 0, 0, Z.length, pSl Z) Qx 114 [(0, .ref b0), (1, .int y1), (2, .int y2), (3, .long y3), (5, .int y5), (6, .int y6), (7, .int y7)] [.int t0, .int t1, .ref t2] (Z, I, L, O) := by
  unfold f12_fills_c114 at h
  obtain ⟨hg1, h⟩ := gd h
  obtain ⟨I2, eI2, h⟩ := blE h
  refine ok_iast3 dX12_fills_114 hZ_t2 hg1 rfl eI2 ?_
  refine ok_iload dX12_fills_115 5 rfl ?_
  refine ok_aload_n dX12_fills_117 0 rfl ?_
  refine ok_iload_n dX12_fills_118 1 rfl ?_
  refine ok_iload dX12_fills_119 6 rfl ?_
  obtain ⟨r3, hr4, h⟩ := bd h
  refine ok_callV (d := ((d + 1) + 3)) (mt := m12_isTorn) (mc := 0) (ms := 0) (As := [.int y1, .int y7]) (r := [.int y6]) dX12_fills_121 mo12_isTorn mv12_isTorn lkRX12_90 rfl hZ_b0 (q := (RX12, TX12, 34)) rfl rfl rfl (Nat.le_of_ble_eq_true rfl) (by show _ + 1 ≤ d + _; omega) (Nat.le_refl _) (Nat.le_refl _) (pRt_mono ?_)
  refine k12_isTorn (d + 1) hW hZ_b0 hr4 ?_
  intro hbr3
  show Ok g _ Qx 124 [(0, .ref b0), (1, .int y1), (2, .int y2), (3, .long y3), (5, .int y5), (6, .int y6), (7, .int y7)] [.int r3, .int y6] (Z, I2, L, O)
  refine ok_if_eq (t := 132) dX12_fills_124 (by decide) (fun hc5 => ?_) (fun hc5 => ?_)
  · have h := (if_pos hc5).symm.trans h
    refine ok_iconst (v := 1) dX12_fills_132 (by decide) ?_
    refine ok_idiv dX12_fills_133 (by decide) ?_
    refine ok_istore (l' := [(6, .int (y6 / 1)), (0, .ref b0), (1, .int y1), (2, .int y2), (3, .long y3), (5, .int y5), (7, .int y7)]) dX12_fills_134 (Nat.le_of_ble_eq_true rfl) rfl ?_
    refine ok_iinc (u := (y7 + 1)) (l' := [(7, .int (y7 + 1)), (6, .int (y6 / 1)), (0, .ref b0), (1, .int y1), (2, .int y2), (3, .long y3), (5, .int y5)]) dX12_fills_136 6 rfl rfl (Nat.le_of_ble_eq_true rfl) rfl ?_
    refine ok_goto (t := 69) dX12_fills_139 (by decide) ?_
    refine ok_sub [2, 3, 4, 5, 6, 1, 0] rfl ?_
    exact hk69 I2 b0 y1 y2 y3 y5 (y6 / 1) (y7 + 1) hZ_b0 h
  · have h := (if_neg hc5).symm.trans h
    refine ok_bipush (v := 6) dX12_fills_127 (by decide) ?_
    refine ok_goto (t := 133) dX12_fills_129 (by decide) ?_
    refine ok_idiv dX12_fills_133 (by decide) ?_
    refine ok_istore (l' := [(6, .int (y6 / 6)), (0, .ref b0), (1, .int y1), (2, .int y2), (3, .long y3), (5, .int y5), (7, .int y7)]) dX12_fills_134 (Nat.le_of_ble_eq_true rfl) rfl ?_
    refine ok_iinc (u := (y7 + 1)) (l' := [(7, .int (y7 + 1)), (6, .int (y6 / 6)), (0, .ref b0), (1, .int y1), (2, .int y2), (3, .long y3), (5, .int y5)]) dX12_fills_136 6 rfl rfl (Nat.le_of_ble_eq_true rfl) rfl ?_
    refine ok_goto (t := 69) dX12_fills_139 (by decide) ?_
    refine ok_sub [2, 3, 4, 5, 6, 1, 0] rfl ?_
    exact hk69 I2 b0 y1 y2 y3 y5 (y6 / 6) (y7 + 1) hZ_b0 h
def f12_fills_c69 (n : Nat) (O : (Nat → Nat → Option Nat)) (k56 : ((Nat → Nat → Int32) → Nat → Int32 → Int32 → Int64 → Int32 → Option (Int64 × (Nat → Nat → Int32)))) : Nat → (Nat → Nat → Int32) → Nat → Int32 → Int32 → Int64 → Int32 → Int32 → Int32 → Option (Int64 × (Nat → Nat → Int32))
  | 0, _, _, _, _, _, _, _, _ => none
  | m + 1, I, b0, y1, y2, y3, y5, y6, y7 => (if ((114 : Int32) + y1) < 0 ∨ 4371 ≤ ((114 : Int32) + y1).toNatClampNeg then none else (if (I (rO O b0 0) ((114 : Int32) + y1).toNatClampNeg) ≤ y7 then (f12_isPhraseIn n I O b0 y1).bind fun r4 => (if r4 = 0 then k56 I b0 y1 y2 (y3 + 0) (y5 + 1) else k56 I b0 y1 y2 (y3 + 1) (y5 + 1)) else (f12_isTorn I O b0 y1 y7).bind fun r8 => (if r8 = 0 then (f12_keyOf I O b0 y1 y7).bind fun r11 => f12_fills_c114 n O k56 (f12_fills_c69 n O k56 m) I b0 y1 y2 y3 y5 y6 y7 r11 y7 (rO O b0 27) else f12_fills_c114 n O k56 (f12_fills_c69 n O k56 m) I b0 y1 y2 y3 y5 y6 y7 (y6 - y6 / 6 * 6) y7 (rO O b0 27))))
set_option maxHeartbeats 4000000 in
set_option maxRecDepth 20000 in
theorem o12_fills_c69 {g : pG} {Qx : Option Value → pW → Prop} {Z : pZ} {L : (Nat → Nat → Int64)} {O : (Nat → Nat → Option Nat)} {n : Nat} {k56 : ((Nat → Nat → Int32) → Nat → Int32 → Int32 → Int64 → Int32 → Option (Int64 × (Nat → Nat → Int32)))} {res : Int64 × (Nat → Nat → Int32)} (d : Nat) (hW : WT Z O) (hQ : Qx (some (.long res.1)) (Z, res.2, L, O)) (hk56 : ∀ (I : (Nat → Nat → Int32)) (b0 : Nat) (y1 : Int32) (y2 : Int32) (y3 : Int64) (y5 : Int32), (Z[b0]? = some (12, 34)) → k56 I b0 y1 y2 y3 y5 = some res → Ok g (d + 5, RX12, cX12_fills, 8, false, 0, 0, Z.length, pSl Z) Qx 56 [(0, .ref b0), (1, .int y1), (2, .int y2), (3, .long y3), (5, .int y5)] [] (Z, I, L, O)) : ∀ (m : Nat) (I : (Nat → Nat → Int32)) (b0 : Nat) (y1 : Int32) (y2 : Int32) (y3 : Int64) (y5 : Int32) (y6 : Int32) (y7 : Int32), (Z[b0]? = some (12, 34)) → f12_fills_c69 n O k56 m I b0 y1 y2 y3 y5 y6 y7 = some res → Ok g (d + 5, RX12, cX12_fills, 8, false, 0, 0, Z.length, pSl Z) Qx 69 [(0, .ref b0), (1, .int y1), (2, .int y2), (3, .long y3), (5, .int y5), (6, .int y6), (7, .int y7)] [] (Z, I, L, O) := by
  intro m
  induction m with
  | zero => intro I b0 y1 y2 y3 y5 y6 y7 hZ_b0 h; rw [f12_fills_c69] at h; cases h
  | succ m ih =>
    intro I b0 y1 y2 y3 y5 y6 y7 hZ_b0 h
    rw [f12_fills_c69] at h
    refine ok_iload dX12_fills_69 6 rfl ?_
    refine ok_aload_n dX12_fills_71 0 rfl ?_
    have hT1 : Z[(rO O b0 0)]? = some (13, 4371) := (wt_f (ci := 12) (k := 0) hW hZ_b0 rfl).2
    refine ok_getR (ci := 12) (k := 0) dX12_fills_72 flRX12_7 rfl hW hZ_b0 (by decide) ?_
    refine ok_bipush (v := 114) dX12_fills_75 (by decide) ?_
    refine ok_iload_n dX12_fills_77 1 rfl ?_
    refine ok_iadd dX12_fills_78 ?_
    obtain ⟨hg2, h⟩ := gd h
    refine ok_iald2 (N := ((114 : Int32) + y1).toNatClampNeg) dX12_fills_79 hT1 hg2 rfl ?_
    refine ok_icmp_ge (t := 142) dX12_fills_80 (by decide) (fun hc3 => ?_) (fun hc3 => ?_)
    · have h := (if_pos hc3).symm.trans h
      refine ok_lload_n dX12_fills_142 3 rfl ?_
      refine ok_aload_n dX12_fills_143 0 rfl ?_
      refine ok_iload_n dX12_fills_144 1 rfl ?_
      obtain ⟨r4, hr5, h⟩ := bd h
      refine ok_callV (d := ((d + 2) + 2)) (mt := m12_isPhraseIn) (mc := 0) (ms := 0) (As := [.int y1]) (r := [.long y3]) dX12_fills_145 mo12_isPhraseIn mv12_isPhraseIn lkRX12_437 rfl hZ_b0 (q := (RX12, TX12, 34)) rfl rfl rfl (Nat.le_of_ble_eq_true rfl) (by show _ + 1 ≤ d + _; omega) (Nat.le_refl _) (Nat.le_refl _) (pRt_mono ?_)
      refine k12_isPhraseIn (d + 2) hW hZ_b0 hr5 ?_
      intro hbr4
      show Ok g _ Qx 148 [(0, .ref b0), (1, .int y1), (2, .int y2), (3, .long y3), (5, .int y5), (6, .int y6), (7, .int y7)] [.int r4, .long y3] (Z, I, L, O)
      refine ok_if_eq (t := 155) dX12_fills_148 (by decide) (fun hc6 => ?_) (fun hc6 => ?_)
      · have h := (if_pos hc6).symm.trans h
        refine ok_lconst (v := 0) dX12_fills_155 (by decide) ?_
        refine ok_ladd dX12_fills_156 ?_
        refine ok_lstore_n (l' := [(3, .long (y3 + 0)), (0, .ref b0), (1, .int y1), (2, .int y2), (5, .int y5), (6, .int y6), (7, .int y7)]) dX12_fills_157 rfl (Nat.le_of_ble_eq_true rfl) rfl ?_
        refine ok_iinc (u := (y5 + 1)) (l' := [(5, .int (y5 + 1)), (3, .long (y3 + 0)), (0, .ref b0), (1, .int y1), (2, .int y2), (6, .int y6), (7, .int y7)]) dX12_fills_158 4 rfl rfl (Nat.le_of_ble_eq_true rfl) rfl ?_
        refine ok_goto (t := 56) dX12_fills_161 (by decide) ?_
        refine ok_sub [2, 3, 4, 1, 0] rfl ?_
        exact hk56 I b0 y1 y2 (y3 + 0) (y5 + 1) hZ_b0 h
      · have h := (if_neg hc6).symm.trans h
        refine ok_lconst (v := 1) dX12_fills_151 (by decide) ?_
        refine ok_goto (t := 156) dX12_fills_152 (by decide) ?_
        refine ok_ladd dX12_fills_156 ?_
        refine ok_lstore_n (l' := [(3, .long (y3 + 1)), (0, .ref b0), (1, .int y1), (2, .int y2), (5, .int y5), (6, .int y6), (7, .int y7)]) dX12_fills_157 rfl (Nat.le_of_ble_eq_true rfl) rfl ?_
        refine ok_iinc (u := (y5 + 1)) (l' := [(5, .int (y5 + 1)), (3, .long (y3 + 1)), (0, .ref b0), (1, .int y1), (2, .int y2), (6, .int y6), (7, .int y7)]) dX12_fills_158 4 rfl rfl (Nat.le_of_ble_eq_true rfl) rfl ?_
        refine ok_goto (t := 56) dX12_fills_161 (by decide) ?_
        refine ok_sub [2, 3, 4, 1, 0] rfl ?_
        exact hk56 I b0 y1 y2 (y3 + 1) (y5 + 1) hZ_b0 h
    · have h := (if_neg hc3).symm.trans h
      refine ok_aload_n dX12_fills_83 0 rfl ?_
      have hT7 : Z[(rO O b0 27)]? = some (13, 16) := (wt_f (ci := 12) (k := 27) hW hZ_b0 rfl).2
      refine ok_getR (ci := 12) (k := 27) dX12_fills_84 flRX12_53 rfl hW hZ_b0 (by decide) ?_
      refine ok_iload dX12_fills_87 6 rfl ?_
      refine ok_aload_n dX12_fills_89 0 rfl ?_
      refine ok_iload_n dX12_fills_90 1 rfl ?_
      refine ok_iload dX12_fills_91 6 rfl ?_
      obtain ⟨r8, hr9, h⟩ := bd h
      refine ok_callV (d := ((d + 1) + 3)) (mt := m12_isTorn) (mc := 0) (ms := 0) (As := [.int y1, .int y7]) (r := [.int y7, .ref (rO O b0 27)]) dX12_fills_93 mo12_isTorn mv12_isTorn lkRX12_90 rfl hZ_b0 (q := (RX12, TX12, 34)) rfl rfl rfl (Nat.le_of_ble_eq_true rfl) (by show _ + 1 ≤ d + _; omega) (Nat.le_refl _) (Nat.le_refl _) (pRt_mono ?_)
      refine k12_isTorn (d + 1) hW hZ_b0 hr9 ?_
      intro hbr8
      show Ok g _ Qx 96 [(0, .ref b0), (1, .int y1), (2, .int y2), (3, .long y3), (5, .int y5), (6, .int y6), (7, .int y7)] [.int r8, .int y7, .ref (rO O b0 27)] (Z, I, L, O)
      refine ok_if_eq (t := 107) dX12_fills_96 (by decide) (fun hc10 => ?_) (fun hc10 => ?_)
      · have h := (if_pos hc10).symm.trans h
        refine ok_aload_n dX12_fills_107 0 rfl ?_
        refine ok_iload_n dX12_fills_108 1 rfl ?_
        refine ok_iload dX12_fills_109 6 rfl ?_
        obtain ⟨r11, hr12, h⟩ := bd h
        refine ok_callV (d := ((d + 2) + 2)) (mt := m12_keyOf) (mc := 0) (ms := 0) (As := [.int y1, .int y7]) (r := [.int y7, .ref (rO O b0 27)]) dX12_fills_111 mo12_keyOf mv12_keyOf lkRX12_87 rfl hZ_b0 (q := (RX12, TX12, 34)) rfl rfl rfl (Nat.le_of_ble_eq_true rfl) (by show _ + 1 ≤ d + _; omega) (Nat.le_refl _) (Nat.le_refl _) (pRt_mono ?_)
        refine k12_keyOf (d + 2) hW hZ_b0 hr12 ?_
        intro _
        show Ok g _ Qx 114 [(0, .ref b0), (1, .int y1), (2, .int y2), (3, .long y3), (5, .int y5), (6, .int y6), (7, .int y7)] [.int r11, .int y7, .ref (rO O b0 27)] (Z, I, L, O)
        refine ok_sub [0, 1, 2, 3, 4, 5, 6] rfl ?_
        exact o12_fills_c114 d hW hQ hk56 ih I b0 y1 y2 y3 y5 y6 y7 r11 y7 (rO O b0 27) hZ_b0 hT7 h
      · have h := (if_neg hc10).symm.trans h
        refine ok_iload dX12_fills_99 5 rfl ?_
        refine ok_bipush (v := 6) dX12_fills_101 (by decide) ?_
        refine ok_irem dX12_fills_103 (by decide) ?_
        refine ok_goto (t := 114) dX12_fills_104 (by decide) ?_
        refine ok_sub [0, 1, 2, 3, 4, 5, 6] rfl ?_
        exact o12_fills_c114 d hW hQ hk56 ih I b0 y1 y2 y3 y5 y6 y7 (y6 - y6 / 6 * 6) y7 (rO O b0 27) hZ_b0 hT7 h
def f12_fills_c56 (n : Nat) (O : (Nat → Nat → Option Nat)) : Nat → (Nat → Nat → Int32) → Nat → Int32 → Int32 → Int64 → Int32 → Option (Int64 × (Nat → Nat → Int32))
  | 0, _, _, _, _, _, _ => none
  | m + 1, I, b0, y1, y2, y3, y5 => (if y2 ≤ y5 then some (y3, I) else f12_fills_c69 n O (f12_fills_c56 n O m) n I b0 y1 y2 y3 y5 y5 (0 : Int32))
set_option maxHeartbeats 4000000 in
set_option maxRecDepth 20000 in
theorem o12_fills_c56 {g : pG} {Qx : Option Value → pW → Prop} {Z : pZ} {L : (Nat → Nat → Int64)} {O : (Nat → Nat → Option Nat)} {n : Nat} {res : Int64 × (Nat → Nat → Int32)} (d : Nat) (hW : WT Z O) (hQ : Qx (some (.long res.1)) (Z, res.2, L, O)) : ∀ (m : Nat) (I : (Nat → Nat → Int32)) (b0 : Nat) (y1 : Int32) (y2 : Int32) (y3 : Int64) (y5 : Int32), (Z[b0]? = some (12, 34)) → f12_fills_c56 n O m I b0 y1 y2 y3 y5 = some res → Ok g (d + 5, RX12, cX12_fills, 8, false, 0, 0, Z.length, pSl Z) Qx 56 [(0, .ref b0), (1, .int y1), (2, .int y2), (3, .long y3), (5, .int y5)] [] (Z, I, L, O) := by
  intro m
  induction m with
  | zero => intro I b0 y1 y2 y3 y5 hZ_b0 h; rw [f12_fills_c56] at h; cases h
  | succ m ih =>
    intro I b0 y1 y2 y3 y5 hZ_b0 h
    rw [f12_fills_c56] at h
    refine ok_iload dX12_fills_56 4 rfl ?_
    refine ok_iload_n dX12_fills_58 2 rfl ?_
    refine ok_icmp_ge (t := 164) dX12_fills_59 (by decide) (fun hc1 => ?_) (fun hc1 => ?_)
    · have h := (if_pos hc1).symm.trans h
      refine ok_lload_n dX12_fills_164 3 rfl ?_
      cases h
      exact ok_lret dX12_fills_165 hQ
    · have h := (if_neg hc1).symm.trans h
      refine ok_iload dX12_fills_62 4 rfl ?_
      refine ok_istore (l' := [(6, .int y5), (0, .ref b0), (1, .int y1), (2, .int y2), (3, .long y3), (5, .int y5)]) dX12_fills_64 (Nat.le_of_ble_eq_true rfl) rfl ?_
      refine ok_iconst (v := 0) dX12_fills_66 (by decide) ?_
      refine ok_istore (l' := [(7, .int 0), (6, .int y5), (0, .ref b0), (1, .int y1), (2, .int y2), (3, .long y3), (5, .int y5)]) dX12_fills_67 (Nat.le_of_ble_eq_true rfl) rfl ?_
      refine ok_sub [2, 3, 4, 5, 6, 1, 0] rfl ?_
      exact o12_fills_c69 d hW hQ ih n I b0 y1 y2 y3 y5 y5 (0 : Int32) hZ_b0 h
def f12_fills_c28 (n : Nat) (O : (Nat → Nat → Option Nat)) : Nat → (Nat → Nat → Int32) → Nat → Int32 → Int32 → Int32 → Option (Int64 × (Nat → Nat → Int32))
  | 0, _, _, _, _, _ => none
  | m + 1, I, b0, y1, y2, y3 => (f12_tornIn n I O b0 y1).bind fun r1 => (f12_bits n r1).bind fun r3 => (if r3 ≤ y3 then f12_fills_c56 n O n I b0 y1 y2 (0 : Int64) (0 : Int32) else f12_fills_c28 n O m I b0 y1 (y2 * 6) (y3 + 1))
set_option maxHeartbeats 4000000 in
set_option maxRecDepth 20000 in
theorem o12_fills_c28 {g : pG} {Qx : Option Value → pW → Prop} {Z : pZ} {L : (Nat → Nat → Int64)} {O : (Nat → Nat → Option Nat)} {n : Nat} {res : Int64 × (Nat → Nat → Int32)} (d : Nat) (hW : WT Z O) (hQ : Qx (some (.long res.1)) (Z, res.2, L, O)) : ∀ (m : Nat) (I : (Nat → Nat → Int32)) (b0 : Nat) (y1 : Int32) (y2 : Int32) (y3 : Int32), (Z[b0]? = some (12, 34)) → f12_fills_c28 n O m I b0 y1 y2 y3 = some res → Ok g (d + 5, RX12, cX12_fills, 8, false, 0, 0, Z.length, pSl Z) Qx 28 [(0, .ref b0), (1, .int y1), (2, .int y2), (3, .int y3)] [] (Z, I, L, O) := by
  intro m
  induction m with
  | zero => intro I b0 y1 y2 y3 hZ_b0 h; rw [f12_fills_c28] at h; cases h
  | succ m ih =>
    intro I b0 y1 y2 y3 hZ_b0 h
    rw [f12_fills_c28] at h
    refine ok_iload_n dX12_fills_28 3 rfl ?_
    refine ok_aload_n dX12_fills_29 0 rfl ?_
    refine ok_iload_n dX12_fills_30 1 rfl ?_
    obtain ⟨r1, hr2, h⟩ := bd h
    refine ok_callV (d := ((d + 0) + 4)) (mt := m12_tornIn) (mc := 0) (ms := 0) (As := [.int y1]) (r := [.int y3]) dX12_fills_31 mo12_tornIn mv12_tornIn lkRX12_401 rfl hZ_b0 (q := (RX12, TX12, 34)) rfl rfl rfl (Nat.le_of_ble_eq_true rfl) (by show _ + 1 ≤ d + _; omega) (Nat.le_refl _) (Nat.le_refl _) (pRt_mono ?_)
    refine k12_tornIn (d + 0) hW hZ_b0 hr2 ?_
    intro _
    show Ok g _ Qx 34 [(0, .ref b0), (1, .int y1), (2, .int y2), (3, .int y3)] [.int r1, .int y3] (Z, I, L, O)
    obtain ⟨r3, hr4, h⟩ := bd h
    refine ok_callS (d := ((d + 2) + 2)) (mt := m12_bits) (mc := 0) (ms := 0) (As := [.int r1]) (r := [.int y3]) dX12_fills_34 mo12_bits mv12_bits lkRX12_413 rfl rfl (Nat.le_of_ble_eq_true rfl) (by show _ + 1 ≤ d + _; omega) (Nat.le_refl _) (Nat.le_refl _) (pRt_mono ?_)
    refine k12_bits (d + 2) hW  hr4 ?_
    intro _
    show Ok g _ Qx 37 [(0, .ref b0), (1, .int y1), (2, .int y2), (3, .int y3)] [.int r3, .int y3] (Z, I, L, O)
    refine ok_icmp_ge (t := 51) dX12_fills_37 (by decide) (fun hc5 => ?_) (fun hc5 => ?_)
    · have h := (if_pos hc5).symm.trans h
      refine ok_lconst (v := 0) dX12_fills_51 (by decide) ?_
      refine ok_lstore_n (l' := [(3, .long 0), (0, .ref b0), (1, .int y1), (2, .int y2)]) dX12_fills_52 rfl (Nat.le_of_ble_eq_true rfl) rfl ?_
      refine ok_iconst (v := 0) dX12_fills_53 (by decide) ?_
      refine ok_istore (l' := [(5, .int 0), (3, .long 0), (0, .ref b0), (1, .int y1), (2, .int y2)]) dX12_fills_54 (Nat.le_of_ble_eq_true rfl) rfl ?_
      refine ok_sub [2, 3, 4, 1, 0] rfl ?_
      exact o12_fills_c56 d hW hQ  n I b0 y1 y2 (0 : Int64) (0 : Int32) hZ_b0 h
    · have h := (if_neg hc5).symm.trans h
      refine ok_iload_n dX12_fills_40 2 rfl ?_
      refine ok_bipush (v := 6) dX12_fills_41 (by decide) ?_
      refine ok_imul dX12_fills_43 ?_
      refine ok_istore_n (l' := [(2, .int (y2 * 6)), (0, .ref b0), (1, .int y1), (3, .int y3)]) dX12_fills_44 rfl (Nat.le_of_ble_eq_true rfl) rfl ?_
      refine ok_iinc (u := (y3 + 1)) (l' := [(3, .int (y3 + 1)), (2, .int (y2 * 6)), (0, .ref b0), (1, .int y1)]) dX12_fills_45 3 rfl rfl (Nat.le_of_ble_eq_true rfl) rfl ?_
      refine ok_goto (t := 28) dX12_fills_48 (by decide) ?_
      refine ok_sub [2, 3, 1, 0] rfl ?_
      exact ih I b0 y1 (y2 * 6) (y3 + 1) hZ_b0 h
def f12_fills (n : Nat) (I : (Nat → Nat → Int32)) (O : (Nat → Nat → Option Nat)) (a0 : Nat) (x1 : Int32) : Option (Int64 × (Nat → Nat → Int32)) := (f12_isRoll I O a0 x1).bind fun r1 => (if r1 = 0 then some (((-1) : Int64), I) else (f12_tornIn n I O a0 x1).bind fun r4 => (f12_bits n r4).bind fun r6 => (if r6 ≤ (4 : Int32) then f12_fills_c28 n O n I a0 x1 (1 : Int32) (0 : Int32) else some (((-1) : Int64), I)))
set_option maxHeartbeats 4000000 in
set_option maxRecDepth 20000 in
theorem o12_fills {g : pG} {Qx : Option Value → pW → Prop} {Z : pZ} {I : (Nat → Nat → Int32)} {L : (Nat → Nat → Int64)} {O : (Nat → Nat → Option Nat)} {n : Nat} {a0 : Nat} {x1 : Int32} {res : Int64 × (Nat → Nat → Int32)} (d : Nat) (hW : WT Z O) (hZ0 : Z[a0]? = some (12, 34)) (h : f12_fills n I O a0 x1 = some res) (hQ : Qx (some (.long res.1)) (Z, res.2, L, O)) : Ok g (d + 5, RX12, cX12_fills, 8, false, 0, 0, Z.length, pSl Z) Qx 0 [(0, .ref a0), (1, .int x1)] [] (Z, I, L, O) := by
  unfold f12_fills at h
  refine ok_aload_n dX12_fills_0 0 rfl ?_
  refine ok_iload_n dX12_fills_1 1 rfl ?_
  obtain ⟨r1, hr2, h⟩ := bd h
  refine ok_callV (d := ((d + 1) + 3)) (mt := m12_isRoll) (mc := 0) (ms := 0) (As := [.int x1]) (r := []) dX12_fills_2 mo12_isRoll mv12_isRoll lkRX12_79 rfl hZ0 (q := (RX12, TX12, 34)) rfl rfl rfl (Nat.le_of_ble_eq_true rfl) (by show _ + 1 ≤ d + _; omega) (Nat.le_refl _) (Nat.le_refl _) (pRt_mono ?_)
  refine k12_isRoll (d + 1) hW hZ0 hr2 ?_
  intro hbr1
  show Ok g _ Qx 5 [(0, .ref a0), (1, .int x1)] [.int r1] (Z, I, L, O)
  refine ok_if_eq (t := 20) dX12_fills_5 (by decide) (fun hc3 => ?_) (fun hc3 => ?_)
  · have h := (if_pos hc3).symm.trans h
    refine ok_ldc2 (v := (-1)) dX12_fills_20 (tb_i (c := Cond.constantLong RX12 435 (-1)) 1888 (by decide +kernel)) ?_
    cases h
    exact ok_lret dX12_fills_23 hQ
  · have h := (if_neg hc3).symm.trans h
    refine ok_aload_n dX12_fills_8 0 rfl ?_
    refine ok_iload_n dX12_fills_9 1 rfl ?_
    obtain ⟨r4, hr5, h⟩ := bd h
    refine ok_callV (d := ((d + 0) + 4)) (mt := m12_tornIn) (mc := 0) (ms := 0) (As := [.int x1]) (r := []) dX12_fills_10 mo12_tornIn mv12_tornIn lkRX12_401 rfl hZ0 (q := (RX12, TX12, 34)) rfl rfl rfl (Nat.le_of_ble_eq_true rfl) (by show _ + 1 ≤ d + _; omega) (Nat.le_refl _) (Nat.le_refl _) (pRt_mono ?_)
    refine k12_tornIn (d + 0) hW hZ0 hr5 ?_
    intro _
    show Ok g _ Qx 13 [(0, .ref a0), (1, .int x1)] [.int r4] (Z, I, L, O)
    obtain ⟨r6, hr7, h⟩ := bd h
    refine ok_callS (d := ((d + 2) + 2)) (mt := m12_bits) (mc := 0) (ms := 0) (As := [.int r4]) (r := []) dX12_fills_13 mo12_bits mv12_bits lkRX12_413 rfl rfl (Nat.le_of_ble_eq_true rfl) (by show _ + 1 ≤ d + _; omega) (Nat.le_refl _) (Nat.le_refl _) (pRt_mono ?_)
    refine k12_bits (d + 2) hW  hr7 ?_
    intro _
    show Ok g _ Qx 16 [(0, .ref a0), (1, .int x1)] [.int r6] (Z, I, L, O)
    refine ok_iconst (v := 4) dX12_fills_16 (by decide) ?_
    refine ok_icmp_le (t := 24) dX12_fills_17 (by decide) (fun hc8 => ?_) (fun hc8 => ?_)
    · have h := (if_pos hc8).symm.trans h
      refine ok_iconst (v := 1) dX12_fills_24 (by decide) ?_
      refine ok_istore_n (l' := [(2, .int 1), (0, .ref a0), (1, .int x1)]) dX12_fills_25 rfl (Nat.le_of_ble_eq_true rfl) rfl ?_
      refine ok_iconst (v := 0) dX12_fills_26 (by decide) ?_
      refine ok_istore_n (l' := [(3, .int 0), (2, .int 1), (0, .ref a0), (1, .int x1)]) dX12_fills_27 rfl (Nat.le_of_ble_eq_true rfl) rfl ?_
      refine ok_sub [2, 3, 1, 0] rfl ?_
      exact o12_fills_c28 d hW hQ  n I a0 x1 (1 : Int32) (0 : Int32) hZ0 h
    · have h := (if_neg hc8).symm.trans h
      refine ok_ldc2 (v := (-1)) dX12_fills_20 (tb_i (c := Cond.constantLong RX12 435 (-1)) 1888 (by decide +kernel)) ?_
      cases h
      exact ok_lret dX12_fills_23 hQ
theorem k12_fills {g : pG} {Q : Option Value → pW → Prop} {Z : pZ} {I : (Nat → Nat → Int32)} {L : (Nat → Nat → Int64)} {O : (Nat → Nat → Option Nat)} {n : Nat} {a0 : Nat} {x1 : Int32} {res : Int64 × (Nat → Nat → Int32)} (d : Nat) (hW : WT Z O) (hZ0 : Z[a0]? = some (12, 34)) (h : f12_fills n I O a0 x1 = some res) (hQ : Q (some (.long res.1)) (Z, res.2, L, O)) : CT g (d + 5) m12_fills 0 0 [.ref a0, .int x1] (Z, I, L, O) Q :=
  ct_of_ok (mt := m12_fills) (ini := false) mo12_fills.2.2.2.2 (fun h => by cases h) (Nat.le_of_ble_eq_true rfl) (o12_fills d hW hZ0 h ⟨trivial, hQ, rfl, rfl⟩)
theorem dX12_isAgain_0 : decode cX12_isAgain 0 = .ok (.aload_n 0, 1) := by decide +kernel
theorem dX12_isAgain_1 : decode cX12_isAgain 1 = .ok (.iload_n 1, 1) := by decide +kernel
theorem dX12_isAgain_2 : decode cX12_isAgain 2 = .ok (.iload_n 2, 1) := by decide +kernel
theorem dX12_isAgain_3 : decode cX12_isAgain 3 = .ok (.invokevirtual 90, 3) := by decide +kernel
theorem dX12_isAgain_6 : decode cX12_isAgain 6 = .ok (.ifCond .ne 31, 3) := by decide +kernel
theorem dX12_isAgain_9 : decode cX12_isAgain 9 = .ok (.aload_n 0, 1) := by decide +kernel
theorem dX12_isAgain_10 : decode cX12_isAgain 10 = .ok (.iload_n 1, 1) := by decide +kernel
theorem dX12_isAgain_11 : decode cX12_isAgain 11 = .ok (.iload_n 3, 1) := by decide +kernel
theorem dX12_isAgain_12 : decode cX12_isAgain 12 = .ok (.invokevirtual 90, 3) := by decide +kernel
theorem dX12_isAgain_15 : decode cX12_isAgain 15 = .ok (.ifCond .ne 22, 3) := by decide +kernel
theorem dX12_isAgain_18 : decode cX12_isAgain 18 = .ok (.aload_n 0, 1) := by decide +kernel
theorem dX12_isAgain_19 : decode cX12_isAgain 19 = .ok (.iload_n 1, 1) := by decide +kernel
theorem dX12_isAgain_20 : decode cX12_isAgain 20 = .ok (.iload_n 2, 1) := by decide +kernel
theorem dX12_isAgain_21 : decode cX12_isAgain 21 = .ok (.invokevirtual 87, 3) := by decide +kernel
theorem dX12_isAgain_24 : decode cX12_isAgain 24 = .ok (.aload_n 0, 1) := by decide +kernel
theorem dX12_isAgain_25 : decode cX12_isAgain 25 = .ok (.iload_n 1, 1) := by decide +kernel
theorem dX12_isAgain_26 : decode cX12_isAgain 26 = .ok (.iload_n 3, 1) := by decide +kernel
theorem dX12_isAgain_27 : decode cX12_isAgain 27 = .ok (.invokevirtual 87, 3) := by decide +kernel
theorem dX12_isAgain_30 : decode cX12_isAgain 30 = .ok (.if_icmp .ne 7, 3) := by decide +kernel
theorem dX12_isAgain_33 : decode cX12_isAgain 33 = .ok (.iconst 1, 1) := by decide +kernel
theorem dX12_isAgain_34 : decode cX12_isAgain 34 = .ok (.goto 4, 3) := by decide +kernel
theorem dX12_isAgain_37 : decode cX12_isAgain 37 = .ok (.iconst 0, 1) := by decide +kernel
theorem dX12_isAgain_38 : decode cX12_isAgain 38 = .ok (.ireturn, 1) := by decide +kernel
def m12_isAgain : pMT := (yX12_isAgain, cX12_isAgain, 4, some .boolean)
theorem mo12_isAgain : mOK m12_isAgain 3 := ⟨tb_i 1904 (by decide +kernel), wi_RX12, ⟨wn_RX12.1, wn_RX12.2, by decide +kernel⟩, by decide, plainFor_of_name wp_RX12⟩
theorem mv12_isAgain : mV m12_isAgain := ⟨tb_i 1903 (by decide +kernel), tb_p 129 (by decide +kernel)⟩
def f12_isAgain (I : (Nat → Nat → Int32)) (O : (Nat → Nat → Option Nat)) (a0 : Nat) (x1 : Int32) (x2 : Int32) (x3 : Int32) : Option (Int32) := (f12_isTorn I O a0 x1 x2).bind fun r1 => (if r1 = 0 then (f12_isTorn I O a0 x1 x3).bind fun r4 => (if r4 = 0 then (f12_keyOf I O a0 x1 x2).bind fun r7 => (f12_keyOf I O a0 x1 x3).bind fun r9 => (if r7 = r9 then some ((1 : Int32)) else some ((0 : Int32))) else some ((0 : Int32))) else some ((0 : Int32)))
set_option maxHeartbeats 4000000 in
set_option maxRecDepth 20000 in
theorem o12_isAgain {g : pG} {Qx : Option Value → pW → Prop} {Z : pZ} {I : (Nat → Nat → Int32)} {L : (Nat → Nat → Int64)} {O : (Nat → Nat → Option Nat)} {a0 : Nat} {x1 : Int32} {x2 : Int32} {x3 : Int32} {res : Int32} (d : Nat) (hW : WT Z O) (hZ0 : Z[a0]? = some (12, 34)) (h : f12_isAgain I O a0 x1 x2 x3 = some res) (hQ : (res = 0 ∨ res = 1) → Qx (some (.int res)) (Z, I, L, O)) : Ok g (d + 4, RX12, cX12_isAgain, 4, false, 0, 0, Z.length, pSl Z) Qx 0 [(0, .ref a0), (1, .int x1), (2, .int x2), (3, .int x3)] [] (Z, I, L, O) := by
  unfold f12_isAgain at h
  refine ok_aload_n dX12_isAgain_0 0 rfl ?_
  refine ok_iload_n dX12_isAgain_1 1 rfl ?_
  refine ok_iload_n dX12_isAgain_2 2 rfl ?_
  obtain ⟨r1, hr2, h⟩ := bd h
  refine ok_callV (d := ((d + 0) + 3)) (mt := m12_isTorn) (mc := 0) (ms := 0) (As := [.int x1, .int x2]) (r := []) dX12_isAgain_3 mo12_isTorn mv12_isTorn lkRX12_90 rfl hZ0 (q := (RX12, TX12, 34)) rfl rfl rfl (Nat.le_of_ble_eq_true rfl) (by show _ + 1 ≤ d + _; omega) (Nat.le_refl _) (Nat.le_refl _) (pRt_mono ?_)
  refine k12_isTorn (d + 0) hW hZ0 hr2 ?_
  intro hbr1
  show Ok g _ Qx 6 [(0, .ref a0), (1, .int x1), (2, .int x2), (3, .int x3)] [.int r1] (Z, I, L, O)
  refine ok_if_ne (t := 37) dX12_isAgain_6 (by decide) (fun hc3 => ?_) (fun hc3 => ?_)
  · have h := (if_neg hc3).symm.trans h
    refine ok_iconst (v := 0) dX12_isAgain_37 (by decide) ?_
    cases h
    exact ok_iret dX12_isAgain_38 (hQ (Or.inl rfl))
  · have h := (if_pos hc3).symm.trans h
    refine ok_aload_n dX12_isAgain_9 0 rfl ?_
    refine ok_iload_n dX12_isAgain_10 1 rfl ?_
    refine ok_iload_n dX12_isAgain_11 3 rfl ?_
    obtain ⟨r4, hr5, h⟩ := bd h
    refine ok_callV (d := ((d + 0) + 3)) (mt := m12_isTorn) (mc := 0) (ms := 0) (As := [.int x1, .int x3]) (r := []) dX12_isAgain_12 mo12_isTorn mv12_isTorn lkRX12_90 rfl hZ0 (q := (RX12, TX12, 34)) rfl rfl rfl (Nat.le_of_ble_eq_true rfl) (by show _ + 1 ≤ d + _; omega) (Nat.le_refl _) (Nat.le_refl _) (pRt_mono ?_)
    refine k12_isTorn (d + 0) hW hZ0 hr5 ?_
    intro hbr4
    show Ok g _ Qx 15 [(0, .ref a0), (1, .int x1), (2, .int x2), (3, .int x3)] [.int r4] (Z, I, L, O)
    refine ok_if_ne (t := 37) dX12_isAgain_15 (by decide) (fun hc6 => ?_) (fun hc6 => ?_)
    · have h := (if_neg hc6).symm.trans h
      refine ok_iconst (v := 0) dX12_isAgain_37 (by decide) ?_
      cases h
      exact ok_iret dX12_isAgain_38 (hQ (Or.inl rfl))
    · have h := (if_pos hc6).symm.trans h
      refine ok_aload_n dX12_isAgain_18 0 rfl ?_
      refine ok_iload_n dX12_isAgain_19 1 rfl ?_
      refine ok_iload_n dX12_isAgain_20 2 rfl ?_
      obtain ⟨r7, hr8, h⟩ := bd h
      refine ok_callV (d := ((d + 1) + 2)) (mt := m12_keyOf) (mc := 0) (ms := 0) (As := [.int x1, .int x2]) (r := []) dX12_isAgain_21 mo12_keyOf mv12_keyOf lkRX12_87 rfl hZ0 (q := (RX12, TX12, 34)) rfl rfl rfl (Nat.le_of_ble_eq_true rfl) (by show _ + 1 ≤ d + _; omega) (Nat.le_refl _) (Nat.le_refl _) (pRt_mono ?_)
      refine k12_keyOf (d + 1) hW hZ0 hr8 ?_
      intro _
      show Ok g _ Qx 24 [(0, .ref a0), (1, .int x1), (2, .int x2), (3, .int x3)] [.int r7] (Z, I, L, O)
      refine ok_aload_n dX12_isAgain_24 0 rfl ?_
      refine ok_iload_n dX12_isAgain_25 1 rfl ?_
      refine ok_iload_n dX12_isAgain_26 3 rfl ?_
      obtain ⟨r9, hr10, h⟩ := bd h
      refine ok_callV (d := ((d + 1) + 2)) (mt := m12_keyOf) (mc := 0) (ms := 0) (As := [.int x1, .int x3]) (r := [.int r7]) dX12_isAgain_27 mo12_keyOf mv12_keyOf lkRX12_87 rfl hZ0 (q := (RX12, TX12, 34)) rfl rfl rfl (Nat.le_of_ble_eq_true rfl) (by show _ + 1 ≤ d + _; omega) (Nat.le_refl _) (Nat.le_refl _) (pRt_mono ?_)
      refine k12_keyOf (d + 1) hW hZ0 hr10 ?_
      intro _
      show Ok g _ Qx 30 [(0, .ref a0), (1, .int x1), (2, .int x2), (3, .int x3)] [.int r9, .int r7] (Z, I, L, O)
      refine ok_icmp_ne (t := 37) dX12_isAgain_30 (by decide) (fun hc11 => ?_) (fun hc11 => ?_)
      · have h := (if_neg hc11).symm.trans h
        refine ok_iconst (v := 0) dX12_isAgain_37 (by decide) ?_
        cases h
        exact ok_iret dX12_isAgain_38 (hQ (Or.inl rfl))
      · have h := (if_pos hc11).symm.trans h
        refine ok_iconst (v := 1) dX12_isAgain_33 (by decide) ?_
        refine ok_goto (t := 38) dX12_isAgain_34 (by decide) ?_
        cases h
        exact ok_iret dX12_isAgain_38 (hQ (Or.inr rfl))
theorem k12_isAgain {g : pG} {Q : Option Value → pW → Prop} {Z : pZ} {I : (Nat → Nat → Int32)} {L : (Nat → Nat → Int64)} {O : (Nat → Nat → Option Nat)} {a0 : Nat} {x1 : Int32} {x2 : Int32} {x3 : Int32} {res : Int32} (d : Nat) (hW : WT Z O) (hZ0 : Z[a0]? = some (12, 34)) (h : f12_isAgain I O a0 x1 x2 x3 = some res) (hQ : Q (some (.int res)) (Z, I, L, O)) : CT g (d + 4) m12_isAgain 0 0 [.ref a0, .int x1, .int x2, .int x3] (Z, I, L, O) Q :=
  ct_of_ok (mt := m12_isAgain) (ini := false) mo12_isAgain.2.2.2.2 (fun h => by cases h) (Nat.le_of_ble_eq_true rfl) (o12_isAgain d hW hZ0 h (fun hb => ⟨hb, hQ, rfl, rfl⟩))
theorem dX12_againBy_0 : decode cX12_againBy 0 = .ok (.iconst 0, 1) := by decide +kernel
theorem dX12_againBy_1 : decode cX12_againBy 1 = .ok (.istore 4, 2) := by decide +kernel
theorem dX12_againBy_3 : decode cX12_againBy 3 = .ok (.iload_n 3, 1) := by decide +kernel
theorem dX12_againBy_4 : decode cX12_againBy 4 = .ok (.iload 4, 2) := by decide +kernel
theorem dX12_againBy_6 : decode cX12_againBy 6 = .ok (.iadd, 1) := by decide +kernel
theorem dX12_againBy_7 : decode cX12_againBy 7 = .ok (.aload_n 0, 1) := by decide +kernel
theorem dX12_againBy_8 : decode cX12_againBy 8 = .ok (.getfield 7, 3) := by decide +kernel
theorem dX12_againBy_11 : decode cX12_againBy 11 = .ok (.bipush 114, 2) := by decide +kernel
theorem dX12_againBy_13 : decode cX12_againBy 13 = .ok (.iload_n 1, 1) := by decide +kernel
theorem dX12_againBy_14 : decode cX12_againBy 14 = .ok (.iadd, 1) := by decide +kernel
theorem dX12_againBy_15 : decode cX12_againBy 15 = .ok (.iaload, 1) := by decide +kernel
theorem dX12_againBy_16 : decode cX12_againBy 16 = .ok (.if_icmp .ge 25, 3) := by decide +kernel
theorem dX12_againBy_19 : decode cX12_againBy 19 = .ok (.aload_n 0, 1) := by decide +kernel
theorem dX12_againBy_20 : decode cX12_againBy 20 = .ok (.iload_n 1, 1) := by decide +kernel
theorem dX12_againBy_21 : decode cX12_againBy 21 = .ok (.iload_n 2, 1) := by decide +kernel
theorem dX12_againBy_22 : decode cX12_againBy 22 = .ok (.iload 4, 2) := by decide +kernel
theorem dX12_againBy_24 : decode cX12_againBy 24 = .ok (.iadd, 1) := by decide +kernel
theorem dX12_againBy_25 : decode cX12_againBy 25 = .ok (.iload_n 3, 1) := by decide +kernel
theorem dX12_againBy_26 : decode cX12_againBy 26 = .ok (.iload 4, 2) := by decide +kernel
theorem dX12_againBy_28 : decode cX12_againBy 28 = .ok (.iadd, 1) := by decide +kernel
theorem dX12_againBy_29 : decode cX12_againBy 29 = .ok (.invokevirtual 440, 3) := by decide +kernel
theorem dX12_againBy_32 : decode cX12_againBy 32 = .ok (.ifCond .eq 9, 3) := by decide +kernel
theorem dX12_againBy_35 : decode cX12_againBy 35 = .ok (.iinc 4 1, 3) := by decide +kernel
theorem dX12_againBy_38 : decode cX12_againBy 38 = .ok (.goto (-35), 3) := by decide +kernel
theorem dX12_againBy_41 : decode cX12_againBy 41 = .ok (.iload 4, 2) := by decide +kernel
theorem dX12_againBy_43 : decode cX12_againBy 43 = .ok (.ireturn, 1) := by decide +kernel
def m12_againBy : pMT := (yX12_againBy, cX12_againBy, 5, some .int)
theorem mo12_againBy : mOK m12_againBy 3 := ⟨tb_i 1900 (by decide +kernel), wi_RX12, ⟨wn_RX12.1, wn_RX12.2, by decide +kernel⟩, by decide, plainFor_of_name wp_RX12⟩
theorem mv12_againBy : mV m12_againBy := ⟨tb_i 1899 (by decide +kernel), tb_p 128 (by decide +kernel)⟩
def f12_againBy_c3 (n : Nat) (I : (Nat → Nat → Int32)) (O : (Nat → Nat → Option Nat)) : Nat → Nat → Int32 → Int32 → Int32 → Int32 → Option (Int32)
  | 0, _, _, _, _, _ => none
  | m + 1, b0, y1, y2, y3, y4 => (if ((114 : Int32) + y1) < 0 ∨ 4371 ≤ ((114 : Int32) + y1).toNatClampNeg then none else (if (I (rO O b0 0) ((114 : Int32) + y1).toNatClampNeg) ≤ (y3 + y4) then some (y4) else (f12_isAgain I O b0 y1 (y2 + y4) (y3 + y4)).bind fun r4 => (if r4 = 0 then some (y4) else f12_againBy_c3 n I O m b0 y1 y2 y3 (y4 + 1))))
set_option maxHeartbeats 4000000 in
set_option maxRecDepth 20000 in
theorem o12_againBy_c3 {g : pG} {Qx : Option Value → pW → Prop} {Z : pZ} {I : (Nat → Nat → Int32)} {L : (Nat → Nat → Int64)} {O : (Nat → Nat → Option Nat)} {n : Nat} {res : Int32} (d : Nat) (hW : WT Z O) (hQ : Qx (some (.int res)) (Z, I, L, O)) : ∀ (m : Nat) (b0 : Nat) (y1 : Int32) (y2 : Int32) (y3 : Int32) (y4 : Int32), (Z[b0]? = some (12, 34)) → f12_againBy_c3 n I O m b0 y1 y2 y3 y4 = some res → Ok g (d + 5, RX12, cX12_againBy, 5, false, 0, 0, Z.length, pSl Z) Qx 3 [(0, .ref b0), (1, .int y1), (2, .int y2), (3, .int y3), (4, .int y4)] [] (Z, I, L, O) := by
  intro m
  induction m with
  | zero => intro b0 y1 y2 y3 y4 hZ_b0 h; rw [f12_againBy_c3] at h; cases h
  | succ m ih =>
    intro b0 y1 y2 y3 y4 hZ_b0 h
    rw [f12_againBy_c3] at h
    refine ok_iload_n dX12_againBy_3 3 rfl ?_
    refine ok_iload dX12_againBy_4 4 rfl ?_
    refine ok_iadd dX12_againBy_6 ?_
    refine ok_aload_n dX12_againBy_7 0 rfl ?_
    have hT1 : Z[(rO O b0 0)]? = some (13, 4371) := (wt_f (ci := 12) (k := 0) hW hZ_b0 rfl).2
    refine ok_getR (ci := 12) (k := 0) dX12_againBy_8 flRX12_7 rfl hW hZ_b0 (by decide) ?_
    refine ok_bipush (v := 114) dX12_againBy_11 (by decide) ?_
    refine ok_iload_n dX12_againBy_13 1 rfl ?_
    refine ok_iadd dX12_againBy_14 ?_
    obtain ⟨hg2, h⟩ := gd h
    refine ok_iald2 (N := ((114 : Int32) + y1).toNatClampNeg) dX12_againBy_15 hT1 hg2 rfl ?_
    refine ok_icmp_ge (t := 41) dX12_againBy_16 (by decide) (fun hc3 => ?_) (fun hc3 => ?_)
    · have h := (if_pos hc3).symm.trans h
      refine ok_iload dX12_againBy_41 4 rfl ?_
      cases h
      exact ok_iret dX12_againBy_43 hQ
    · have h := (if_neg hc3).symm.trans h
      refine ok_aload_n dX12_againBy_19 0 rfl ?_
      refine ok_iload_n dX12_againBy_20 1 rfl ?_
      refine ok_iload_n dX12_againBy_21 2 rfl ?_
      refine ok_iload dX12_againBy_22 4 rfl ?_
      refine ok_iadd dX12_againBy_24 ?_
      refine ok_iload_n dX12_againBy_25 3 rfl ?_
      refine ok_iload dX12_againBy_26 4 rfl ?_
      refine ok_iadd dX12_againBy_28 ?_
      obtain ⟨r4, hr5, h⟩ := bd h
      refine ok_callV (d := ((d + 0) + 4)) (mt := m12_isAgain) (mc := 0) (ms := 0) (As := [.int y1, .int (y2 + y4), .int (y3 + y4)]) (r := []) dX12_againBy_29 mo12_isAgain mv12_isAgain lkRX12_440 rfl hZ_b0 (q := (RX12, TX12, 34)) rfl rfl rfl (Nat.le_of_ble_eq_true rfl) (by show _ + 1 ≤ d + _; omega) (Nat.le_refl _) (Nat.le_refl _) (pRt_mono ?_)
      refine k12_isAgain (d + 0) hW hZ_b0 hr5 ?_
      intro hbr4
      show Ok g _ Qx 32 [(0, .ref b0), (1, .int y1), (2, .int y2), (3, .int y3), (4, .int y4)] [.int r4] (Z, I, L, O)
      refine ok_if_eq (t := 41) dX12_againBy_32 (by decide) (fun hc6 => ?_) (fun hc6 => ?_)
      · have h := (if_pos hc6).symm.trans h
        refine ok_iload dX12_againBy_41 4 rfl ?_
        cases h
        exact ok_iret dX12_againBy_43 hQ
      · have h := (if_neg hc6).symm.trans h
        refine ok_iinc (u := (y4 + 1)) (l' := [(4, .int (y4 + 1)), (0, .ref b0), (1, .int y1), (2, .int y2), (3, .int y3)]) dX12_againBy_35 4 rfl rfl (Nat.le_of_ble_eq_true rfl) rfl ?_
        refine ok_goto (t := 3) dX12_againBy_38 (by decide) ?_
        refine ok_sub [1, 2, 3, 4, 0] rfl ?_
        exact ih b0 y1 y2 y3 (y4 + 1) hZ_b0 h
def f12_againBy (n : Nat) (I : (Nat → Nat → Int32)) (O : (Nat → Nat → Option Nat)) (a0 : Nat) (x1 : Int32) (x2 : Int32) (x3 : Int32) : Option (Int32) := f12_againBy_c3 n I O n a0 x1 x2 x3 (0 : Int32)
set_option maxHeartbeats 4000000 in
set_option maxRecDepth 20000 in
theorem o12_againBy {g : pG} {Qx : Option Value → pW → Prop} {Z : pZ} {I : (Nat → Nat → Int32)} {L : (Nat → Nat → Int64)} {O : (Nat → Nat → Option Nat)} {n : Nat} {a0 : Nat} {x1 : Int32} {x2 : Int32} {x3 : Int32} {res : Int32} (d : Nat) (hW : WT Z O) (hZ0 : Z[a0]? = some (12, 34)) (h : f12_againBy n I O a0 x1 x2 x3 = some res) (hQ : Qx (some (.int res)) (Z, I, L, O)) : Ok g (d + 5, RX12, cX12_againBy, 5, false, 0, 0, Z.length, pSl Z) Qx 0 [(0, .ref a0), (1, .int x1), (2, .int x2), (3, .int x3)] [] (Z, I, L, O) := by
  unfold f12_againBy at h
  refine ok_iconst (v := 0) dX12_againBy_0 (by decide) ?_
  refine ok_istore (l' := [(4, .int 0), (0, .ref a0), (1, .int x1), (2, .int x2), (3, .int x3)]) dX12_againBy_1 (Nat.le_of_ble_eq_true rfl) rfl ?_
  refine ok_sub [1, 2, 3, 4, 0] rfl ?_
  exact o12_againBy_c3 d hW hQ  n a0 x1 x2 x3 (0 : Int32) hZ0 h
theorem k12_againBy {g : pG} {Q : Option Value → pW → Prop} {Z : pZ} {I : (Nat → Nat → Int32)} {L : (Nat → Nat → Int64)} {O : (Nat → Nat → Option Nat)} {n : Nat} {a0 : Nat} {x1 : Int32} {x2 : Int32} {x3 : Int32} {res : Int32} (d : Nat) (hW : WT Z O) (hZ0 : Z[a0]? = some (12, 34)) (h : f12_againBy n I O a0 x1 x2 x3 = some res) (hQ : Q (some (.int res)) (Z, I, L, O)) : CT g (d + 5) m12_againBy 0 0 [.ref a0, .int x1, .int x2, .int x3] (Z, I, L, O) Q :=
  ct_of_ok (mt := m12_againBy) (ini := false) mo12_againBy.2.2.2.2 (fun h => by cases h) (Nat.le_of_ble_eq_true rfl) (o12_againBy d hW hZ0 h ⟨trivial, hQ, rfl, rfl⟩)
theorem dX12_motif_0 : decode cX12_motif 0 = .ok (.aload_n 0, 1) := by decide +kernel
theorem dX12_motif_1 : decode cX12_motif 1 = .ok (.iload_n 1, 1) := by decide +kernel
theorem dX12_motif_2 : decode cX12_motif 2 = .ok (.invokevirtual 79, 3) := by decide +kernel
theorem dX12_motif_5 : decode cX12_motif 5 = .ok (.ifCond .ne 6, 3) := by decide +kernel
theorem dX12_motif_8 : decode cX12_motif 8 = .ok (.bipush (-2), 2) := by decide +kernel
theorem dX12_motif_10 : decode cX12_motif 10 = .ok (.ireturn, 1) := by decide +kernel
theorem dX12_motif_11 : decode cX12_motif 11 = .ok (.iconst 0, 1) := by decide +kernel
theorem dX12_motif_12 : decode cX12_motif 12 = .ok (.istore_n 3, 1) := by decide +kernel
theorem dX12_motif_13 : decode cX12_motif 13 = .ok (.iconst (-1), 1) := by decide +kernel
theorem dX12_motif_14 : decode cX12_motif 14 = .ok (.istore 4, 2) := by decide +kernel
theorem dX12_motif_16 : decode cX12_motif 16 = .ok (.iconst 0, 1) := by decide +kernel
theorem dX12_motif_17 : decode cX12_motif 17 = .ok (.istore 5, 2) := by decide +kernel
theorem dX12_motif_19 : decode cX12_motif 19 = .ok (.iload 5, 2) := by decide +kernel
theorem dX12_motif_21 : decode cX12_motif 21 = .ok (.aload_n 0, 1) := by decide +kernel
theorem dX12_motif_22 : decode cX12_motif 22 = .ok (.getfield 7, 3) := by decide +kernel
theorem dX12_motif_25 : decode cX12_motif 25 = .ok (.bipush 114, 2) := by decide +kernel
theorem dX12_motif_27 : decode cX12_motif 27 = .ok (.iload_n 1, 1) := by decide +kernel
theorem dX12_motif_28 : decode cX12_motif 28 = .ok (.iadd, 1) := by decide +kernel
theorem dX12_motif_29 : decode cX12_motif 29 = .ok (.iaload, 1) := by decide +kernel
theorem dX12_motif_30 : decode cX12_motif 30 = .ok (.if_icmp .ge 65, 3) := by decide +kernel
theorem dX12_motif_33 : decode cX12_motif 33 = .ok (.iload 5, 2) := by decide +kernel
theorem dX12_motif_35 : decode cX12_motif 35 = .ok (.iconst 1, 1) := by decide +kernel
theorem dX12_motif_36 : decode cX12_motif 36 = .ok (.iadd, 1) := by decide +kernel
theorem dX12_motif_37 : decode cX12_motif 37 = .ok (.istore 6, 2) := by decide +kernel
theorem dX12_motif_39 : decode cX12_motif 39 = .ok (.iload 6, 2) := by decide +kernel
theorem dX12_motif_41 : decode cX12_motif 41 = .ok (.aload_n 0, 1) := by decide +kernel
theorem dX12_motif_42 : decode cX12_motif 42 = .ok (.getfield 7, 3) := by decide +kernel
theorem dX12_motif_45 : decode cX12_motif 45 = .ok (.bipush 114, 2) := by decide +kernel
theorem dX12_motif_47 : decode cX12_motif 47 = .ok (.iload_n 1, 1) := by decide +kernel
theorem dX12_motif_48 : decode cX12_motif 48 = .ok (.iadd, 1) := by decide +kernel
theorem dX12_motif_49 : decode cX12_motif 49 = .ok (.iaload, 1) := by decide +kernel
theorem dX12_motif_50 : decode cX12_motif 50 = .ok (.if_icmp .ge 39, 3) := by decide +kernel
theorem dX12_motif_53 : decode cX12_motif 53 = .ok (.aload_n 0, 1) := by decide +kernel
theorem dX12_motif_54 : decode cX12_motif 54 = .ok (.iload_n 1, 1) := by decide +kernel
theorem dX12_motif_55 : decode cX12_motif 55 = .ok (.iload 5, 2) := by decide +kernel
theorem dX12_motif_57 : decode cX12_motif 57 = .ok (.iload 6, 2) := by decide +kernel
theorem dX12_motif_59 : decode cX12_motif 59 = .ok (.invokevirtual 443, 3) := by decide +kernel
theorem dX12_motif_62 : decode cX12_motif 62 = .ok (.iload_n 3, 1) := by decide +kernel
theorem dX12_motif_63 : decode cX12_motif 63 = .ok (.if_icmp .gt 6, 3) := by decide +kernel
theorem dX12_motif_66 : decode cX12_motif 66 = .ok (.goto 17, 3) := by decide +kernel
theorem dX12_motif_69 : decode cX12_motif 69 = .ok (.aload_n 0, 1) := by decide +kernel
theorem dX12_motif_70 : decode cX12_motif 70 = .ok (.iload_n 1, 1) := by decide +kernel
theorem dX12_motif_71 : decode cX12_motif 71 = .ok (.iload 5, 2) := by decide +kernel
theorem dX12_motif_73 : decode cX12_motif 73 = .ok (.iload 6, 2) := by decide +kernel
theorem dX12_motif_75 : decode cX12_motif 75 = .ok (.invokevirtual 443, 3) := by decide +kernel
theorem dX12_motif_78 : decode cX12_motif 78 = .ok (.istore_n 3, 1) := by decide +kernel
theorem dX12_motif_79 : decode cX12_motif 79 = .ok (.iload 5, 2) := by decide +kernel
theorem dX12_motif_81 : decode cX12_motif 81 = .ok (.istore 4, 2) := by decide +kernel
theorem dX12_motif_83 : decode cX12_motif 83 = .ok (.iinc 6 1, 3) := by decide +kernel
theorem dX12_motif_86 : decode cX12_motif 86 = .ok (.goto (-47), 3) := by decide +kernel
theorem dX12_motif_89 : decode cX12_motif 89 = .ok (.iinc 5 1, 3) := by decide +kernel
theorem dX12_motif_92 : decode cX12_motif 92 = .ok (.goto (-73), 3) := by decide +kernel
theorem dX12_motif_95 : decode cX12_motif 95 = .ok (.iload_n 2, 1) := by decide +kernel
theorem dX12_motif_96 : decode cX12_motif 96 = .ok (.ifCond .eq 8, 3) := by decide +kernel
theorem dX12_motif_99 : decode cX12_motif 99 = .ok (.iload 4, 2) := by decide +kernel
theorem dX12_motif_101 : decode cX12_motif 101 = .ok (.goto 4, 3) := by decide +kernel
theorem dX12_motif_104 : decode cX12_motif 104 = .ok (.iload_n 3, 1) := by decide +kernel
theorem dX12_motif_105 : decode cX12_motif 105 = .ok (.ireturn, 1) := by decide +kernel
def m12_motif : pMT := (yX12_motif, cX12_motif, 7, some .int)
theorem mo12_motif : mOK m12_motif 2 := ⟨tb_i 1896 (by decide +kernel), wi_RX12, ⟨wn_RX12.1, wn_RX12.2, by decide +kernel⟩, by decide, plainFor_of_name wp_RX12⟩
theorem mv12_motif : mV m12_motif := ⟨tb_i 1894 (by decide +kernel), tb_i 1895 (by decide +kernel)⟩
def f12_motif_c39 (n : Nat) (I : (Nat → Nat → Int32)) (O : (Nat → Nat → Option Nat)) (k19 : (Nat → Int32 → Int32 → Int32 → Int32 → Int32 → Option (Int32))) : Nat → Nat → Int32 → Int32 → Int32 → Int32 → Int32 → Int32 → Option (Int32)
  | 0, _, _, _, _, _, _, _ => none
  | m + 1, b0, y1, y2, y3, y4, y5, y6 => (if ((114 : Int32) + y1) < 0 ∨ 4371 ≤ ((114 : Int32) + y1).toNatClampNeg then none else (if (I (rO O b0 0) ((114 : Int32) + y1).toNatClampNeg) ≤ y6 then k19 b0 y1 y2 y3 y4 (y5 + 1) else (f12_againBy n I O b0 y1 y5 y6).bind fun r4 => (if y3 < r4 then (f12_againBy n I O b0 y1 y5 y6).bind fun r7 => f12_motif_c39 n I O k19 m b0 y1 y2 r7 y5 y5 (y6 + 1) else f12_motif_c39 n I O k19 m b0 y1 y2 y3 y4 y5 (y6 + 1))))
set_option maxHeartbeats 4000000 in
set_option maxRecDepth 20000 in
theorem o12_motif_c39 {g : pG} {Qx : Option Value → pW → Prop} {Z : pZ} {I : (Nat → Nat → Int32)} {L : (Nat → Nat → Int64)} {O : (Nat → Nat → Option Nat)} {n : Nat} {k19 : (Nat → Int32 → Int32 → Int32 → Int32 → Int32 → Option (Int32))} {res : Int32} (d : Nat) (hW : WT Z O) (hQ : Qx (some (.int res)) (Z, I, L, O)) (hk19 : ∀ (b0 : Nat) (y1 : Int32) (y2 : Int32) (y3 : Int32) (y4 : Int32) (y5 : Int32), (Z[b0]? = some (12, 34)) → k19 b0 y1 y2 y3 y4 y5 = some res → Ok g (d + 6, RX12, cX12_motif, 7, false, 0, 0, Z.length, pSl Z) Qx 19 [(0, .ref b0), (1, .int y1), (2, .int y2), (3, .int y3), (4, .int y4), (5, .int y5)] [] (Z, I, L, O)) : ∀ (m : Nat) (b0 : Nat) (y1 : Int32) (y2 : Int32) (y3 : Int32) (y4 : Int32) (y5 : Int32) (y6 : Int32), (Z[b0]? = some (12, 34)) → f12_motif_c39 n I O k19 m b0 y1 y2 y3 y4 y5 y6 = some res → Ok g (d + 6, RX12, cX12_motif, 7, false, 0, 0, Z.length, pSl Z) Qx 39 [(0, .ref b0), (1, .int y1), (2, .int y2), (3, .int y3), (4, .int y4), (5, .int y5), (6, .int y6)] [] (Z, I, L, O) := by
  intro m
  induction m with
  | zero => intro b0 y1 y2 y3 y4 y5 y6 hZ_b0 h; rw [f12_motif_c39] at h; cases h
  | succ m ih =>
    intro b0 y1 y2 y3 y4 y5 y6 hZ_b0 h
    rw [f12_motif_c39] at h
    refine ok_iload dX12_motif_39 6 rfl ?_
    refine ok_aload_n dX12_motif_41 0 rfl ?_
    have hT1 : Z[(rO O b0 0)]? = some (13, 4371) := (wt_f (ci := 12) (k := 0) hW hZ_b0 rfl).2
    refine ok_getR (ci := 12) (k := 0) dX12_motif_42 flRX12_7 rfl hW hZ_b0 (by decide) ?_
    refine ok_bipush (v := 114) dX12_motif_45 (by decide) ?_
    refine ok_iload_n dX12_motif_47 1 rfl ?_
    refine ok_iadd dX12_motif_48 ?_
    obtain ⟨hg2, h⟩ := gd h
    refine ok_iald2 (N := ((114 : Int32) + y1).toNatClampNeg) dX12_motif_49 hT1 hg2 rfl ?_
    refine ok_icmp_ge (t := 89) dX12_motif_50 (by decide) (fun hc3 => ?_) (fun hc3 => ?_)
    · have h := (if_pos hc3).symm.trans h
      refine ok_iinc (u := (y5 + 1)) (l' := [(5, .int (y5 + 1)), (0, .ref b0), (1, .int y1), (2, .int y2), (3, .int y3), (4, .int y4), (6, .int y6)]) dX12_motif_89 5 rfl rfl (Nat.le_of_ble_eq_true rfl) rfl ?_
      refine ok_goto (t := 19) dX12_motif_92 (by decide) ?_
      refine ok_sub [1, 2, 3, 4, 5, 0] rfl ?_
      exact hk19 b0 y1 y2 y3 y4 (y5 + 1) hZ_b0 h
    · have h := (if_neg hc3).symm.trans h
      refine ok_aload_n dX12_motif_53 0 rfl ?_
      refine ok_iload_n dX12_motif_54 1 rfl ?_
      refine ok_iload dX12_motif_55 5 rfl ?_
      refine ok_iload dX12_motif_57 6 rfl ?_
      obtain ⟨r4, hr5, h⟩ := bd h
      refine ok_callV (d := ((d + 0) + 5)) (mt := m12_againBy) (mc := 0) (ms := 0) (As := [.int y1, .int y5, .int y6]) (r := []) dX12_motif_59 mo12_againBy mv12_againBy lkRX12_443 rfl hZ_b0 (q := (RX12, TX12, 34)) rfl rfl rfl (Nat.le_of_ble_eq_true rfl) (by show _ + 1 ≤ d + _; omega) (Nat.le_refl _) (Nat.le_refl _) (pRt_mono ?_)
      refine k12_againBy (d + 0) hW hZ_b0 hr5 ?_
      intro _
      show Ok g _ Qx 62 [(0, .ref b0), (1, .int y1), (2, .int y2), (3, .int y3), (4, .int y4), (5, .int y5), (6, .int y6)] [.int r4] (Z, I, L, O)
      refine ok_iload_n dX12_motif_62 3 rfl ?_
      refine ok_icmp_gt (t := 69) dX12_motif_63 (by decide) (fun hc6 => ?_) (fun hc6 => ?_)
      · have h := (if_pos hc6).symm.trans h
        refine ok_aload_n dX12_motif_69 0 rfl ?_
        refine ok_iload_n dX12_motif_70 1 rfl ?_
        refine ok_iload dX12_motif_71 5 rfl ?_
        refine ok_iload dX12_motif_73 6 rfl ?_
        obtain ⟨r7, hr8, h⟩ := bd h
        refine ok_callV (d := ((d + 0) + 5)) (mt := m12_againBy) (mc := 0) (ms := 0) (As := [.int y1, .int y5, .int y6]) (r := []) dX12_motif_75 mo12_againBy mv12_againBy lkRX12_443 rfl hZ_b0 (q := (RX12, TX12, 34)) rfl rfl rfl (Nat.le_of_ble_eq_true rfl) (by show _ + 1 ≤ d + _; omega) (Nat.le_refl _) (Nat.le_refl _) (pRt_mono ?_)
        refine k12_againBy (d + 0) hW hZ_b0 hr8 ?_
        intro _
        show Ok g _ Qx 78 [(0, .ref b0), (1, .int y1), (2, .int y2), (3, .int y3), (4, .int y4), (5, .int y5), (6, .int y6)] [.int r7] (Z, I, L, O)
        refine ok_istore_n (l' := [(3, .int r7), (0, .ref b0), (1, .int y1), (2, .int y2), (4, .int y4), (5, .int y5), (6, .int y6)]) dX12_motif_78 rfl (Nat.le_of_ble_eq_true rfl) rfl ?_
        refine ok_iload dX12_motif_79 5 rfl ?_
        refine ok_istore (l' := [(4, .int y5), (3, .int r7), (0, .ref b0), (1, .int y1), (2, .int y2), (5, .int y5), (6, .int y6)]) dX12_motif_81 (Nat.le_of_ble_eq_true rfl) rfl ?_
        refine ok_iinc (u := (y6 + 1)) (l' := [(6, .int (y6 + 1)), (4, .int y5), (3, .int r7), (0, .ref b0), (1, .int y1), (2, .int y2), (5, .int y5)]) dX12_motif_83 6 rfl rfl (Nat.le_of_ble_eq_true rfl) rfl ?_
        refine ok_goto (t := 39) dX12_motif_86 (by decide) ?_
        refine ok_sub [3, 4, 5, 2, 1, 6, 0] rfl ?_
        exact ih b0 y1 y2 r7 y5 y5 (y6 + 1) hZ_b0 h
      · have h := (if_neg hc6).symm.trans h
        refine ok_goto (t := 83) dX12_motif_66 (by decide) ?_
        refine ok_iinc (u := (y6 + 1)) (l' := [(6, .int (y6 + 1)), (0, .ref b0), (1, .int y1), (2, .int y2), (3, .int y3), (4, .int y4), (5, .int y5)]) dX12_motif_83 6 rfl rfl (Nat.le_of_ble_eq_true rfl) rfl ?_
        refine ok_goto (t := 39) dX12_motif_86 (by decide) ?_
        refine ok_sub [1, 2, 3, 4, 5, 6, 0] rfl ?_
        exact ih b0 y1 y2 y3 y4 y5 (y6 + 1) hZ_b0 h
def f12_motif_c19 (n : Nat) (I : (Nat → Nat → Int32)) (O : (Nat → Nat → Option Nat)) : Nat → Nat → Int32 → Int32 → Int32 → Int32 → Int32 → Option (Int32)
  | 0, _, _, _, _, _, _ => none
  | m + 1, b0, y1, y2, y3, y4, y5 => (if ((114 : Int32) + y1) < 0 ∨ 4371 ≤ ((114 : Int32) + y1).toNatClampNeg then none else (if (I (rO O b0 0) ((114 : Int32) + y1).toNatClampNeg) ≤ y5 then (if y2 = 0 then some (y3) else some (y4)) else f12_motif_c39 n I O (f12_motif_c19 n I O m) n b0 y1 y2 y3 y4 y5 (y5 + 1)))
set_option maxHeartbeats 4000000 in
set_option maxRecDepth 20000 in
theorem o12_motif_c19 {g : pG} {Qx : Option Value → pW → Prop} {Z : pZ} {I : (Nat → Nat → Int32)} {L : (Nat → Nat → Int64)} {O : (Nat → Nat → Option Nat)} {n : Nat} {res : Int32} (d : Nat) (hW : WT Z O) (hQ : Qx (some (.int res)) (Z, I, L, O)) : ∀ (m : Nat) (b0 : Nat) (y1 : Int32) (y2 : Int32) (y3 : Int32) (y4 : Int32) (y5 : Int32), (Z[b0]? = some (12, 34)) → f12_motif_c19 n I O m b0 y1 y2 y3 y4 y5 = some res → Ok g (d + 6, RX12, cX12_motif, 7, false, 0, 0, Z.length, pSl Z) Qx 19 [(0, .ref b0), (1, .int y1), (2, .int y2), (3, .int y3), (4, .int y4), (5, .int y5)] [] (Z, I, L, O) := by
  intro m
  induction m with
  | zero => intro b0 y1 y2 y3 y4 y5 hZ_b0 h; rw [f12_motif_c19] at h; cases h
  | succ m ih =>
    intro b0 y1 y2 y3 y4 y5 hZ_b0 h
    rw [f12_motif_c19] at h
    refine ok_iload dX12_motif_19 5 rfl ?_
    refine ok_aload_n dX12_motif_21 0 rfl ?_
    have hT1 : Z[(rO O b0 0)]? = some (13, 4371) := (wt_f (ci := 12) (k := 0) hW hZ_b0 rfl).2
    refine ok_getR (ci := 12) (k := 0) dX12_motif_22 flRX12_7 rfl hW hZ_b0 (by decide) ?_
    refine ok_bipush (v := 114) dX12_motif_25 (by decide) ?_
    refine ok_iload_n dX12_motif_27 1 rfl ?_
    refine ok_iadd dX12_motif_28 ?_
    obtain ⟨hg2, h⟩ := gd h
    refine ok_iald2 (N := ((114 : Int32) + y1).toNatClampNeg) dX12_motif_29 hT1 hg2 rfl ?_
    refine ok_icmp_ge (t := 95) dX12_motif_30 (by decide) (fun hc3 => ?_) (fun hc3 => ?_)
    · have h := (if_pos hc3).symm.trans h
      refine ok_iload_n dX12_motif_95 2 rfl ?_
      refine ok_if_eq (t := 104) dX12_motif_96 (by decide) (fun hc4 => ?_) (fun hc4 => ?_)
      · have h := (if_pos hc4).symm.trans h
        refine ok_iload_n dX12_motif_104 3 rfl ?_
        cases h
        exact ok_iret dX12_motif_105 hQ
      · have h := (if_neg hc4).symm.trans h
        refine ok_iload dX12_motif_99 4 rfl ?_
        refine ok_goto (t := 105) dX12_motif_101 (by decide) ?_
        cases h
        exact ok_iret dX12_motif_105 hQ
    · have h := (if_neg hc3).symm.trans h
      refine ok_iload dX12_motif_33 5 rfl ?_
      refine ok_iconst (v := 1) dX12_motif_35 (by decide) ?_
      refine ok_iadd dX12_motif_36 ?_
      refine ok_istore (l' := [(6, .int (y5 + 1)), (0, .ref b0), (1, .int y1), (2, .int y2), (3, .int y3), (4, .int y4), (5, .int y5)]) dX12_motif_37 (Nat.le_of_ble_eq_true rfl) rfl ?_
      refine ok_sub [1, 2, 3, 4, 5, 6, 0] rfl ?_
      exact o12_motif_c39 d hW hQ ih n b0 y1 y2 y3 y4 y5 (y5 + 1) hZ_b0 h
def f12_motif (n : Nat) (I : (Nat → Nat → Int32)) (O : (Nat → Nat → Option Nat)) (a0 : Nat) (x1 : Int32) (x2 : Int32) : Option (Int32) := (f12_isRoll I O a0 x1).bind fun r1 => (if r1 = 0 then some (((-2) : Int32)) else f12_motif_c19 n I O n a0 x1 x2 (0 : Int32) (-1 : Int32) (0 : Int32))
set_option maxHeartbeats 4000000 in
set_option maxRecDepth 20000 in
theorem o12_motif {g : pG} {Qx : Option Value → pW → Prop} {Z : pZ} {I : (Nat → Nat → Int32)} {L : (Nat → Nat → Int64)} {O : (Nat → Nat → Option Nat)} {n : Nat} {a0 : Nat} {x1 : Int32} {x2 : Int32} {res : Int32} (d : Nat) (hW : WT Z O) (hZ0 : Z[a0]? = some (12, 34)) (h : f12_motif n I O a0 x1 x2 = some res) (hQ : Qx (some (.int res)) (Z, I, L, O)) : Ok g (d + 6, RX12, cX12_motif, 7, false, 0, 0, Z.length, pSl Z) Qx 0 [(0, .ref a0), (1, .int x1), (2, .int x2)] [] (Z, I, L, O) := by
  unfold f12_motif at h
  refine ok_aload_n dX12_motif_0 0 rfl ?_
  refine ok_iload_n dX12_motif_1 1 rfl ?_
  obtain ⟨r1, hr2, h⟩ := bd h
  refine ok_callV (d := ((d + 2) + 3)) (mt := m12_isRoll) (mc := 0) (ms := 0) (As := [.int x1]) (r := []) dX12_motif_2 mo12_isRoll mv12_isRoll lkRX12_79 rfl hZ0 (q := (RX12, TX12, 34)) rfl rfl rfl (Nat.le_of_ble_eq_true rfl) (by show _ + 1 ≤ d + _; omega) (Nat.le_refl _) (Nat.le_refl _) (pRt_mono ?_)
  refine k12_isRoll (d + 2) hW hZ0 hr2 ?_
  intro hbr1
  show Ok g _ Qx 5 [(0, .ref a0), (1, .int x1), (2, .int x2)] [.int r1] (Z, I, L, O)
  refine ok_if_ne (t := 11) dX12_motif_5 (by decide) (fun hc3 => ?_) (fun hc3 => ?_)
  · have h := (if_neg hc3).symm.trans h
    refine ok_iconst (v := 0) dX12_motif_11 (by decide) ?_
    refine ok_istore_n (l' := [(3, .int 0), (0, .ref a0), (1, .int x1), (2, .int x2)]) dX12_motif_12 rfl (Nat.le_of_ble_eq_true rfl) rfl ?_
    refine ok_iconst (v := (-1)) dX12_motif_13 (by decide) ?_
    refine ok_istore (l' := [(4, .int (-1)), (3, .int 0), (0, .ref a0), (1, .int x1), (2, .int x2)]) dX12_motif_14 (Nat.le_of_ble_eq_true rfl) rfl ?_
    refine ok_iconst (v := 0) dX12_motif_16 (by decide) ?_
    refine ok_istore (l' := [(5, .int 0), (4, .int (-1)), (3, .int 0), (0, .ref a0), (1, .int x1), (2, .int x2)]) dX12_motif_17 (Nat.le_of_ble_eq_true rfl) rfl ?_
    refine ok_sub [3, 4, 5, 2, 1, 0] rfl ?_
    exact o12_motif_c19 d hW hQ  n a0 x1 x2 (0 : Int32) (-1 : Int32) (0 : Int32) hZ0 h
  · have h := (if_pos hc3).symm.trans h
    refine ok_bipush (v := (-2)) dX12_motif_8 (by decide) ?_
    cases h
    exact ok_iret dX12_motif_10 hQ
theorem k12_motif {g : pG} {Q : Option Value → pW → Prop} {Z : pZ} {I : (Nat → Nat → Int32)} {L : (Nat → Nat → Int64)} {O : (Nat → Nat → Option Nat)} {n : Nat} {a0 : Nat} {x1 : Int32} {x2 : Int32} {res : Int32} (d : Nat) (hW : WT Z O) (hZ0 : Z[a0]? = some (12, 34)) (h : f12_motif n I O a0 x1 x2 = some res) (hQ : Q (some (.int res)) (Z, I, L, O)) : CT g (d + 6) m12_motif 0 0 [.ref a0, .int x1, .int x2] (Z, I, L, O) Q :=
  ct_of_ok (mt := m12_motif) (ini := false) mo12_motif.2.2.2.2 (fun h => by cases h) (Nat.le_of_ble_eq_true rfl) (o12_motif d hW hZ0 h ⟨trivial, hQ, rfl, rfl⟩)
theorem dX12_isBack_0 : decode cX12_isBack 0 = .ok (.iconst 0, 1) := by decide +kernel
theorem dX12_isBack_1 : decode cX12_isBack 1 = .ok (.istore 4, 2) := by decide +kernel
theorem dX12_isBack_3 : decode cX12_isBack 3 = .ok (.iload 4, 2) := by decide +kernel
theorem dX12_isBack_5 : decode cX12_isBack 5 = .ok (.iload_n 3, 1) := by decide +kernel
theorem dX12_isBack_6 : decode cX12_isBack 6 = .ok (.iconst 2, 1) := by decide +kernel
theorem dX12_isBack_7 : decode cX12_isBack 7 = .ok (.idiv, 1) := by decide +kernel
theorem dX12_isBack_8 : decode cX12_isBack 8 = .ok (.if_icmp .ge 62, 3) := by decide +kernel
theorem dX12_isBack_11 : decode cX12_isBack 11 = .ok (.iload_n 2, 1) := by decide +kernel
theorem dX12_isBack_12 : decode cX12_isBack 12 = .ok (.iload_n 3, 1) := by decide +kernel
theorem dX12_isBack_13 : decode cX12_isBack 13 = .ok (.iadd, 1) := by decide +kernel
theorem dX12_isBack_14 : decode cX12_isBack 14 = .ok (.iconst 1, 1) := by decide +kernel
theorem dX12_isBack_15 : decode cX12_isBack 15 = .ok (.isub, 1) := by decide +kernel
theorem dX12_isBack_16 : decode cX12_isBack 16 = .ok (.iload 4, 2) := by decide +kernel
theorem dX12_isBack_18 : decode cX12_isBack 18 = .ok (.isub, 1) := by decide +kernel
theorem dX12_isBack_19 : decode cX12_isBack 19 = .ok (.istore 5, 2) := by decide +kernel
theorem dX12_isBack_21 : decode cX12_isBack 21 = .ok (.aload_n 0, 1) := by decide +kernel
theorem dX12_isBack_22 : decode cX12_isBack 22 = .ok (.iload_n 1, 1) := by decide +kernel
theorem dX12_isBack_23 : decode cX12_isBack 23 = .ok (.iload_n 2, 1) := by decide +kernel
theorem dX12_isBack_24 : decode cX12_isBack 24 = .ok (.iload 4, 2) := by decide +kernel
theorem dX12_isBack_26 : decode cX12_isBack 26 = .ok (.iadd, 1) := by decide +kernel
theorem dX12_isBack_27 : decode cX12_isBack 27 = .ok (.invokevirtual 90, 3) := by decide +kernel
theorem dX12_isBack_30 : decode cX12_isBack 30 = .ok (.ifCond .ne 34, 3) := by decide +kernel
theorem dX12_isBack_33 : decode cX12_isBack 33 = .ok (.aload_n 0, 1) := by decide +kernel
theorem dX12_isBack_34 : decode cX12_isBack 34 = .ok (.iload_n 1, 1) := by decide +kernel
theorem dX12_isBack_35 : decode cX12_isBack 35 = .ok (.iload 5, 2) := by decide +kernel
theorem dX12_isBack_37 : decode cX12_isBack 37 = .ok (.invokevirtual 90, 3) := by decide +kernel
theorem dX12_isBack_40 : decode cX12_isBack 40 = .ok (.ifCond .ne 24, 3) := by decide +kernel
theorem dX12_isBack_43 : decode cX12_isBack 43 = .ok (.aload_n 0, 1) := by decide +kernel
theorem dX12_isBack_44 : decode cX12_isBack 44 = .ok (.iload_n 1, 1) := by decide +kernel
theorem dX12_isBack_45 : decode cX12_isBack 45 = .ok (.iload_n 2, 1) := by decide +kernel
theorem dX12_isBack_46 : decode cX12_isBack 46 = .ok (.iload 4, 2) := by decide +kernel
theorem dX12_isBack_48 : decode cX12_isBack 48 = .ok (.iadd, 1) := by decide +kernel
theorem dX12_isBack_49 : decode cX12_isBack 49 = .ok (.invokevirtual 87, 3) := by decide +kernel
theorem dX12_isBack_52 : decode cX12_isBack 52 = .ok (.aload_n 0, 1) := by decide +kernel
theorem dX12_isBack_53 : decode cX12_isBack 53 = .ok (.iload_n 1, 1) := by decide +kernel
theorem dX12_isBack_54 : decode cX12_isBack 54 = .ok (.iload 5, 2) := by decide +kernel
theorem dX12_isBack_56 : decode cX12_isBack 56 = .ok (.invokevirtual 87, 3) := by decide +kernel
theorem dX12_isBack_59 : decode cX12_isBack 59 = .ok (.if_icmp .eq 5, 3) := by decide +kernel
theorem dX12_isBack_62 : decode cX12_isBack 62 = .ok (.iconst 0, 1) := by decide +kernel
theorem dX12_isBack_63 : decode cX12_isBack 63 = .ok (.ireturn, 1) := by decide +kernel
theorem dX12_isBack_64 : decode cX12_isBack 64 = .ok (.iinc 4 1, 3) := by decide +kernel
theorem dX12_isBack_67 : decode cX12_isBack 67 = .ok (.goto (-64), 3) := by decide +kernel
theorem dX12_isBack_70 : decode cX12_isBack 70 = .ok (.iconst 1, 1) := by decide +kernel
theorem dX12_isBack_71 : decode cX12_isBack 71 = .ok (.ireturn, 1) := by decide +kernel
def m12_isBack : pMT := (yX12_isBack, cX12_isBack, 6, some .boolean)
theorem mo12_isBack : mOK m12_isBack 3 := ⟨tb_i 1912 (by decide +kernel), wi_RX12, ⟨wn_RX12.1, wn_RX12.2, by decide +kernel⟩, by decide, plainFor_of_name wp_RX12⟩
theorem mv12_isBack : mV m12_isBack := ⟨tb_i 1911 (by decide +kernel), tb_p 130 (by decide +kernel)⟩
def f12_isBack_c3 (n : Nat) (I : (Nat → Nat → Int32)) (O : (Nat → Nat → Option Nat)) : Nat → Nat → Int32 → Int32 → Int32 → Int32 → Option (Int32)
  | 0, _, _, _, _, _ => none
  | m + 1, b0, y1, y2, y3, y4 => (if (y3 / 2) ≤ y4 then some ((1 : Int32)) else (f12_isTorn I O b0 y1 (y2 + y4)).bind fun r2 => (if r2 = 0 then (f12_isTorn I O b0 y1 (((y2 + y3) - 1) - y4)).bind fun r5 => (if r5 = 0 then (f12_keyOf I O b0 y1 (y2 + y4)).bind fun r8 => (f12_keyOf I O b0 y1 (((y2 + y3) - 1) - y4)).bind fun r10 => (if r8 = r10 then f12_isBack_c3 n I O m b0 y1 y2 y3 (y4 + 1) else some ((0 : Int32))) else f12_isBack_c3 n I O m b0 y1 y2 y3 (y4 + 1)) else f12_isBack_c3 n I O m b0 y1 y2 y3 (y4 + 1)))
set_option maxHeartbeats 4000000 in
set_option maxRecDepth 20000 in
theorem o12_isBack_c3 {g : pG} {Qx : Option Value → pW → Prop} {Z : pZ} {I : (Nat → Nat → Int32)} {L : (Nat → Nat → Int64)} {O : (Nat → Nat → Option Nat)} {n : Nat} {res : Int32} (d : Nat) (hW : WT Z O) (hQ : (res = 0 ∨ res = 1) → Qx (some (.int res)) (Z, I, L, O)) : ∀ (m : Nat) (b0 : Nat) (y1 : Int32) (y2 : Int32) (y3 : Int32) (y4 : Int32), (Z[b0]? = some (12, 34)) → f12_isBack_c3 n I O m b0 y1 y2 y3 y4 = some res → Ok g (d + 4, RX12, cX12_isBack, 6, false, 0, 0, Z.length, pSl Z) Qx 3 [(0, .ref b0), (1, .int y1), (2, .int y2), (3, .int y3), (4, .int y4)] [] (Z, I, L, O) := by
  intro m
  induction m with
  | zero => intro b0 y1 y2 y3 y4 hZ_b0 h; rw [f12_isBack_c3] at h; cases h
  | succ m ih =>
    intro b0 y1 y2 y3 y4 hZ_b0 h
    rw [f12_isBack_c3] at h
    refine ok_iload dX12_isBack_3 4 rfl ?_
    refine ok_iload_n dX12_isBack_5 3 rfl ?_
    refine ok_iconst (v := 2) dX12_isBack_6 (by decide) ?_
    refine ok_idiv dX12_isBack_7 (by decide) ?_
    refine ok_icmp_ge (t := 70) dX12_isBack_8 (by decide) (fun hc1 => ?_) (fun hc1 => ?_)
    · have h := (if_pos hc1).symm.trans h
      refine ok_iconst (v := 1) dX12_isBack_70 (by decide) ?_
      cases h
      exact ok_iret dX12_isBack_71 (hQ (Or.inr rfl))
    · have h := (if_neg hc1).symm.trans h
      refine ok_iload_n dX12_isBack_11 2 rfl ?_
      refine ok_iload_n dX12_isBack_12 3 rfl ?_
      refine ok_iadd dX12_isBack_13 ?_
      refine ok_iconst (v := 1) dX12_isBack_14 (by decide) ?_
      refine ok_isub dX12_isBack_15 ?_
      refine ok_iload dX12_isBack_16 4 rfl ?_
      refine ok_isub dX12_isBack_18 ?_
      refine ok_istore (l' := [(5, .int (((y2 + y3) - 1) - y4)), (0, .ref b0), (1, .int y1), (2, .int y2), (3, .int y3), (4, .int y4)]) dX12_isBack_19 (Nat.le_of_ble_eq_true rfl) rfl ?_
      refine ok_aload_n dX12_isBack_21 1 rfl ?_
      refine ok_iload_n dX12_isBack_22 2 rfl ?_
      refine ok_iload_n dX12_isBack_23 3 rfl ?_
      refine ok_iload dX12_isBack_24 5 rfl ?_
      refine ok_iadd dX12_isBack_26 ?_
      obtain ⟨r2, hr3, h⟩ := bd h
      refine ok_callV (d := ((d + 0) + 3)) (mt := m12_isTorn) (mc := 0) (ms := 0) (As := [.int y1, .int (y2 + y4)]) (r := []) dX12_isBack_27 mo12_isTorn mv12_isTorn lkRX12_90 rfl hZ_b0 (q := (RX12, TX12, 34)) rfl rfl rfl (Nat.le_of_ble_eq_true rfl) (by show _ + 1 ≤ d + _; omega) (Nat.le_refl _) (Nat.le_refl _) (pRt_mono ?_)
      refine k12_isTorn (d + 0) hW hZ_b0 hr3 ?_
      intro hbr2
      show Ok g _ Qx 30 [(5, .int (((y2 + y3) - 1) - y4)), (0, .ref b0), (1, .int y1), (2, .int y2), (3, .int y3), (4, .int y4)] [.int r2] (Z, I, L, O)
      refine ok_if_ne (t := 64) dX12_isBack_30 (by decide) (fun hc4 => ?_) (fun hc4 => ?_)
      · have h := (if_neg hc4).symm.trans h
        refine ok_iinc (u := (y4 + 1)) (l' := [(4, .int (y4 + 1)), (5, .int (((y2 + y3) - 1) - y4)), (0, .ref b0), (1, .int y1), (2, .int y2), (3, .int y3)]) dX12_isBack_64 5 rfl rfl (Nat.le_of_ble_eq_true rfl) rfl ?_
        refine ok_goto (t := 3) dX12_isBack_67 (by decide) ?_
        refine ok_sub [2, 3, 4, 5, 0] rfl ?_
        exact ih b0 y1 y2 y3 (y4 + 1) hZ_b0 h
      · have h := (if_pos hc4).symm.trans h
        refine ok_aload_n dX12_isBack_33 1 rfl ?_
        refine ok_iload_n dX12_isBack_34 2 rfl ?_
        refine ok_iload dX12_isBack_35 0 rfl ?_
        obtain ⟨r5, hr6, h⟩ := bd h
        refine ok_callV (d := ((d + 0) + 3)) (mt := m12_isTorn) (mc := 0) (ms := 0) (As := [.int y1, .int (((y2 + y3) - 1) - y4)]) (r := []) dX12_isBack_37 mo12_isTorn mv12_isTorn lkRX12_90 rfl hZ_b0 (q := (RX12, TX12, 34)) rfl rfl rfl (Nat.le_of_ble_eq_true rfl) (by show _ + 1 ≤ d + _; omega) (Nat.le_refl _) (Nat.le_refl _) (pRt_mono ?_)
        refine k12_isTorn (d + 0) hW hZ_b0 hr6 ?_
        intro hbr5
        show Ok g _ Qx 40 [(5, .int (((y2 + y3) - 1) - y4)), (0, .ref b0), (1, .int y1), (2, .int y2), (3, .int y3), (4, .int y4)] [.int r5] (Z, I, L, O)
        refine ok_if_ne (t := 64) dX12_isBack_40 (by decide) (fun hc7 => ?_) (fun hc7 => ?_)
        · have h := (if_neg hc7).symm.trans h
          refine ok_iinc (u := (y4 + 1)) (l' := [(4, .int (y4 + 1)), (5, .int (((y2 + y3) - 1) - y4)), (0, .ref b0), (1, .int y1), (2, .int y2), (3, .int y3)]) dX12_isBack_64 5 rfl rfl (Nat.le_of_ble_eq_true rfl) rfl ?_
          refine ok_goto (t := 3) dX12_isBack_67 (by decide) ?_
          refine ok_sub [2, 3, 4, 5, 0] rfl ?_
          exact ih b0 y1 y2 y3 (y4 + 1) hZ_b0 h
        · have h := (if_pos hc7).symm.trans h
          refine ok_aload_n dX12_isBack_43 1 rfl ?_
          refine ok_iload_n dX12_isBack_44 2 rfl ?_
          refine ok_iload_n dX12_isBack_45 3 rfl ?_
          refine ok_iload dX12_isBack_46 5 rfl ?_
          refine ok_iadd dX12_isBack_48 ?_
          obtain ⟨r8, hr9, h⟩ := bd h
          refine ok_callV (d := ((d + 1) + 2)) (mt := m12_keyOf) (mc := 0) (ms := 0) (As := [.int y1, .int (y2 + y4)]) (r := []) dX12_isBack_49 mo12_keyOf mv12_keyOf lkRX12_87 rfl hZ_b0 (q := (RX12, TX12, 34)) rfl rfl rfl (Nat.le_of_ble_eq_true rfl) (by show _ + 1 ≤ d + _; omega) (Nat.le_refl _) (Nat.le_refl _) (pRt_mono ?_)
          refine k12_keyOf (d + 1) hW hZ_b0 hr9 ?_
          intro _
          show Ok g _ Qx 52 [(5, .int (((y2 + y3) - 1) - y4)), (0, .ref b0), (1, .int y1), (2, .int y2), (3, .int y3), (4, .int y4)] [.int r8] (Z, I, L, O)
          refine ok_aload_n dX12_isBack_52 1 rfl ?_
          refine ok_iload_n dX12_isBack_53 2 rfl ?_
          refine ok_iload dX12_isBack_54 0 rfl ?_
          obtain ⟨r10, hr11, h⟩ := bd h
          refine ok_callV (d := ((d + 1) + 2)) (mt := m12_keyOf) (mc := 0) (ms := 0) (As := [.int y1, .int (((y2 + y3) - 1) - y4)]) (r := [.int r8]) dX12_isBack_56 mo12_keyOf mv12_keyOf lkRX12_87 rfl hZ_b0 (q := (RX12, TX12, 34)) rfl rfl rfl (Nat.le_of_ble_eq_true rfl) (by show _ + 1 ≤ d + _; omega) (Nat.le_refl _) (Nat.le_refl _) (pRt_mono ?_)
          refine k12_keyOf (d + 1) hW hZ_b0 hr11 ?_
          intro _
          show Ok g _ Qx 59 [(5, .int (((y2 + y3) - 1) - y4)), (0, .ref b0), (1, .int y1), (2, .int y2), (3, .int y3), (4, .int y4)] [.int r10, .int r8] (Z, I, L, O)
          refine ok_icmp_eq (t := 64) dX12_isBack_59 (by decide) (fun hc12 => ?_) (fun hc12 => ?_)
          · have h := (if_pos hc12).symm.trans h
            refine ok_iinc (u := (y4 + 1)) (l' := [(4, .int (y4 + 1)), (5, .int (((y2 + y3) - 1) - y4)), (0, .ref b0), (1, .int y1), (2, .int y2), (3, .int y3)]) dX12_isBack_64 5 rfl rfl (Nat.le_of_ble_eq_true rfl) rfl ?_
            refine ok_goto (t := 3) dX12_isBack_67 (by decide) ?_
            refine ok_sub [2, 3, 4, 5, 0] rfl ?_
            exact ih b0 y1 y2 y3 (y4 + 1) hZ_b0 h
          · have h := (if_neg hc12).symm.trans h
            refine ok_iconst (v := 0) dX12_isBack_62 (by decide) ?_
            cases h
            exact ok_iret dX12_isBack_63 (hQ (Or.inl rfl))
def f12_isBack (n : Nat) (I : (Nat → Nat → Int32)) (O : (Nat → Nat → Option Nat)) (a0 : Nat) (x1 : Int32) (x2 : Int32) (x3 : Int32) : Option (Int32) := f12_isBack_c3 n I O n a0 x1 x2 x3 (0 : Int32)
set_option maxHeartbeats 4000000 in
set_option maxRecDepth 20000 in
theorem o12_isBack {g : pG} {Qx : Option Value → pW → Prop} {Z : pZ} {I : (Nat → Nat → Int32)} {L : (Nat → Nat → Int64)} {O : (Nat → Nat → Option Nat)} {n : Nat} {a0 : Nat} {x1 : Int32} {x2 : Int32} {x3 : Int32} {res : Int32} (d : Nat) (hW : WT Z O) (hZ0 : Z[a0]? = some (12, 34)) (h : f12_isBack n I O a0 x1 x2 x3 = some res) (hQ : (res = 0 ∨ res = 1) → Qx (some (.int res)) (Z, I, L, O)) : Ok g (d + 4, RX12, cX12_isBack, 6, false, 0, 0, Z.length, pSl Z) Qx 0 [(0, .ref a0), (1, .int x1), (2, .int x2), (3, .int x3)] [] (Z, I, L, O) := by
  unfold f12_isBack at h
  refine ok_iconst (v := 0) dX12_isBack_0 (by decide) ?_
  refine ok_istore (l' := [(4, .int 0), (0, .ref a0), (1, .int x1), (2, .int x2), (3, .int x3)]) dX12_isBack_1 (Nat.le_of_ble_eq_true rfl) rfl ?_
  refine ok_sub [1, 2, 3, 4, 0] rfl ?_
  exact o12_isBack_c3 d hW hQ  n a0 x1 x2 x3 (0 : Int32) hZ0 h
theorem k12_isBack {g : pG} {Q : Option Value → pW → Prop} {Z : pZ} {I : (Nat → Nat → Int32)} {L : (Nat → Nat → Int64)} {O : (Nat → Nat → Option Nat)} {n : Nat} {a0 : Nat} {x1 : Int32} {x2 : Int32} {x3 : Int32} {res : Int32} (d : Nat) (hW : WT Z O) (hZ0 : Z[a0]? = some (12, 34)) (h : f12_isBack n I O a0 x1 x2 x3 = some res) (hQ : Q (some (.int res)) (Z, I, L, O)) : CT g (d + 4) m12_isBack 0 0 [.ref a0, .int x1, .int x2, .int x3] (Z, I, L, O) Q :=
  ct_of_ok (mt := m12_isBack) (ini := false) mo12_isBack.2.2.2.2 (fun h => by cases h) (Nat.le_of_ble_eq_true rfl) (o12_isBack d hW hZ0 h (fun hb => ⟨hb, hQ, rfl, rfl⟩))
theorem dX12_mirror_0 : decode cX12_mirror 0 = .ok (.aload_n 0, 1) := by decide +kernel
theorem dX12_mirror_1 : decode cX12_mirror 1 = .ok (.iload_n 1, 1) := by decide +kernel
theorem dX12_mirror_2 : decode cX12_mirror 2 = .ok (.invokevirtual 79, 3) := by decide +kernel
theorem dX12_mirror_5 : decode cX12_mirror 5 = .ok (.ifCond .ne 6, 3) := by decide +kernel
theorem dX12_mirror_8 : decode cX12_mirror 8 = .ok (.bipush (-2), 2) := by decide +kernel
theorem dX12_mirror_10 : decode cX12_mirror 10 = .ok (.ireturn, 1) := by decide +kernel
theorem dX12_mirror_11 : decode cX12_mirror 11 = .ok (.iconst 0, 1) := by decide +kernel
theorem dX12_mirror_12 : decode cX12_mirror 12 = .ok (.istore_n 3, 1) := by decide +kernel
theorem dX12_mirror_13 : decode cX12_mirror 13 = .ok (.iconst (-1), 1) := by decide +kernel
theorem dX12_mirror_14 : decode cX12_mirror 14 = .ok (.istore 4, 2) := by decide +kernel
theorem dX12_mirror_16 : decode cX12_mirror 16 = .ok (.iconst 0, 1) := by decide +kernel
theorem dX12_mirror_17 : decode cX12_mirror 17 = .ok (.istore 5, 2) := by decide +kernel
theorem dX12_mirror_19 : decode cX12_mirror 19 = .ok (.iload 5, 2) := by decide +kernel
theorem dX12_mirror_21 : decode cX12_mirror 21 = .ok (.aload_n 0, 1) := by decide +kernel
theorem dX12_mirror_22 : decode cX12_mirror 22 = .ok (.getfield 7, 3) := by decide +kernel
theorem dX12_mirror_25 : decode cX12_mirror 25 = .ok (.bipush 114, 2) := by decide +kernel
theorem dX12_mirror_27 : decode cX12_mirror 27 = .ok (.iload_n 1, 1) := by decide +kernel
theorem dX12_mirror_28 : decode cX12_mirror 28 = .ok (.iadd, 1) := by decide +kernel
theorem dX12_mirror_29 : decode cX12_mirror 29 = .ok (.iaload, 1) := by decide +kernel
theorem dX12_mirror_30 : decode cX12_mirror 30 = .ok (.if_icmp .ge 59, 3) := by decide +kernel
theorem dX12_mirror_33 : decode cX12_mirror 33 = .ok (.iload_n 3, 1) := by decide +kernel
theorem dX12_mirror_34 : decode cX12_mirror 34 = .ok (.iconst 1, 1) := by decide +kernel
theorem dX12_mirror_35 : decode cX12_mirror 35 = .ok (.iadd, 1) := by decide +kernel
theorem dX12_mirror_36 : decode cX12_mirror 36 = .ok (.istore 6, 2) := by decide +kernel
theorem dX12_mirror_38 : decode cX12_mirror 38 = .ok (.iload 5, 2) := by decide +kernel
theorem dX12_mirror_40 : decode cX12_mirror 40 = .ok (.iload 6, 2) := by decide +kernel
theorem dX12_mirror_42 : decode cX12_mirror 42 = .ok (.iadd, 1) := by decide +kernel
theorem dX12_mirror_43 : decode cX12_mirror 43 = .ok (.aload_n 0, 1) := by decide +kernel
theorem dX12_mirror_44 : decode cX12_mirror 44 = .ok (.getfield 7, 3) := by decide +kernel
theorem dX12_mirror_47 : decode cX12_mirror 47 = .ok (.bipush 114, 2) := by decide +kernel
theorem dX12_mirror_49 : decode cX12_mirror 49 = .ok (.iload_n 1, 1) := by decide +kernel
theorem dX12_mirror_50 : decode cX12_mirror 50 = .ok (.iadd, 1) := by decide +kernel
theorem dX12_mirror_51 : decode cX12_mirror 51 = .ok (.iaload, 1) := by decide +kernel
theorem dX12_mirror_52 : decode cX12_mirror 52 = .ok (.if_icmp .gt 31, 3) := by decide +kernel
theorem dX12_mirror_55 : decode cX12_mirror 55 = .ok (.aload_n 0, 1) := by decide +kernel
theorem dX12_mirror_56 : decode cX12_mirror 56 = .ok (.iload_n 1, 1) := by decide +kernel
theorem dX12_mirror_57 : decode cX12_mirror 57 = .ok (.iload 5, 2) := by decide +kernel
theorem dX12_mirror_59 : decode cX12_mirror 59 = .ok (.iload 6, 2) := by decide +kernel
theorem dX12_mirror_61 : decode cX12_mirror 61 = .ok (.invokevirtual 446, 3) := by decide +kernel
theorem dX12_mirror_64 : decode cX12_mirror 64 = .ok (.ifCond .ne 6, 3) := by decide +kernel
theorem dX12_mirror_67 : decode cX12_mirror 67 = .ok (.goto 10, 3) := by decide +kernel
theorem dX12_mirror_70 : decode cX12_mirror 70 = .ok (.iload 6, 2) := by decide +kernel
theorem dX12_mirror_72 : decode cX12_mirror 72 = .ok (.istore_n 3, 1) := by decide +kernel
theorem dX12_mirror_73 : decode cX12_mirror 73 = .ok (.iload 5, 2) := by decide +kernel
theorem dX12_mirror_75 : decode cX12_mirror 75 = .ok (.istore 4, 2) := by decide +kernel
theorem dX12_mirror_77 : decode cX12_mirror 77 = .ok (.iinc 6 1, 3) := by decide +kernel
theorem dX12_mirror_80 : decode cX12_mirror 80 = .ok (.goto (-42), 3) := by decide +kernel
theorem dX12_mirror_83 : decode cX12_mirror 83 = .ok (.iinc 5 1, 3) := by decide +kernel
theorem dX12_mirror_86 : decode cX12_mirror 86 = .ok (.goto (-67), 3) := by decide +kernel
theorem dX12_mirror_89 : decode cX12_mirror 89 = .ok (.iload_n 2, 1) := by decide +kernel
theorem dX12_mirror_90 : decode cX12_mirror 90 = .ok (.ifCond .eq 8, 3) := by decide +kernel
theorem dX12_mirror_93 : decode cX12_mirror 93 = .ok (.iload 4, 2) := by decide +kernel
theorem dX12_mirror_95 : decode cX12_mirror 95 = .ok (.goto 4, 3) := by decide +kernel
theorem dX12_mirror_98 : decode cX12_mirror 98 = .ok (.iload_n 3, 1) := by decide +kernel
theorem dX12_mirror_99 : decode cX12_mirror 99 = .ok (.ireturn, 1) := by decide +kernel
def m12_mirror : pMT := (yX12_mirror, cX12_mirror, 7, some .int)
theorem mo12_mirror : mOK m12_mirror 2 := ⟨tb_i 1908 (by decide +kernel), wi_RX12, ⟨wn_RX12.1, wn_RX12.2, by decide +kernel⟩, by decide, plainFor_of_name wp_RX12⟩
theorem mv12_mirror : mV m12_mirror := ⟨tb_i 1906 (by decide +kernel), tb_i 1907 (by decide +kernel)⟩
def f12_mirror_c38 (n : Nat) (I : (Nat → Nat → Int32)) (O : (Nat → Nat → Option Nat)) (k19 : (Nat → Int32 → Int32 → Int32 → Int32 → Int32 → Option (Int32))) : Nat → Nat → Int32 → Int32 → Int32 → Int32 → Int32 → Int32 → Option (Int32)
  | 0, _, _, _, _, _, _, _ => none
  | m + 1, b0, y1, y2, y3, y4, y5, y6 => (if ((114 : Int32) + y1) < 0 ∨ 4371 ≤ ((114 : Int32) + y1).toNatClampNeg then none else (if (I (rO O b0 0) ((114 : Int32) + y1).toNatClampNeg) < (y5 + y6) then k19 b0 y1 y2 y3 y4 (y5 + 1) else (f12_isBack n I O b0 y1 y5 y6).bind fun r4 => (if r4 = 0 then f12_mirror_c38 n I O k19 m b0 y1 y2 y3 y4 y5 (y6 + 1) else f12_mirror_c38 n I O k19 m b0 y1 y2 y6 y5 y5 (y6 + 1))))
set_option maxHeartbeats 4000000 in
set_option maxRecDepth 20000 in
theorem o12_mirror_c38 {g : pG} {Qx : Option Value → pW → Prop} {Z : pZ} {I : (Nat → Nat → Int32)} {L : (Nat → Nat → Int64)} {O : (Nat → Nat → Option Nat)} {n : Nat} {k19 : (Nat → Int32 → Int32 → Int32 → Int32 → Int32 → Option (Int32))} {res : Int32} (d : Nat) (hW : WT Z O) (hQ : Qx (some (.int res)) (Z, I, L, O)) (hk19 : ∀ (b0 : Nat) (y1 : Int32) (y2 : Int32) (y3 : Int32) (y4 : Int32) (y5 : Int32), (Z[b0]? = some (12, 34)) → k19 b0 y1 y2 y3 y4 y5 = some res → Ok g (d + 5, RX12, cX12_mirror, 7, false, 0, 0, Z.length, pSl Z) Qx 19 [(0, .ref b0), (1, .int y1), (2, .int y2), (3, .int y3), (4, .int y4), (5, .int y5)] [] (Z, I, L, O)) : ∀ (m : Nat) (b0 : Nat) (y1 : Int32) (y2 : Int32) (y3 : Int32) (y4 : Int32) (y5 : Int32) (y6 : Int32), (Z[b0]? = some (12, 34)) → f12_mirror_c38 n I O k19 m b0 y1 y2 y3 y4 y5 y6 = some res → Ok g (d + 5, RX12, cX12_mirror, 7, false, 0, 0, Z.length, pSl Z) Qx 38 [(0, .ref b0), (1, .int y1), (2, .int y2), (3, .int y3), (4, .int y4), (5, .int y5), (6, .int y6)] [] (Z, I, L, O) := by
  intro m
  induction m with
  | zero => intro b0 y1 y2 y3 y4 y5 y6 hZ_b0 h; rw [f12_mirror_c38] at h; cases h
  | succ m ih =>
    intro b0 y1 y2 y3 y4 y5 y6 hZ_b0 h
    rw [f12_mirror_c38] at h
    refine ok_iload dX12_mirror_38 5 rfl ?_
    refine ok_iload dX12_mirror_40 6 rfl ?_
    refine ok_iadd dX12_mirror_42 ?_
    refine ok_aload_n dX12_mirror_43 0 rfl ?_
    have hT1 : Z[(rO O b0 0)]? = some (13, 4371) := (wt_f (ci := 12) (k := 0) hW hZ_b0 rfl).2
    refine ok_getR (ci := 12) (k := 0) dX12_mirror_44 flRX12_7 rfl hW hZ_b0 (by decide) ?_
    refine ok_bipush (v := 114) dX12_mirror_47 (by decide) ?_
    refine ok_iload_n dX12_mirror_49 1 rfl ?_
    refine ok_iadd dX12_mirror_50 ?_
    obtain ⟨hg2, h⟩ := gd h
    refine ok_iald2 (N := ((114 : Int32) + y1).toNatClampNeg) dX12_mirror_51 hT1 hg2 rfl ?_
    refine ok_icmp_gt (t := 83) dX12_mirror_52 (by decide) (fun hc3 => ?_) (fun hc3 => ?_)
    · have h := (if_pos hc3).symm.trans h
      refine ok_iinc (u := (y5 + 1)) (l' := [(5, .int (y5 + 1)), (0, .ref b0), (1, .int y1), (2, .int y2), (3, .int y3), (4, .int y4), (6, .int y6)]) dX12_mirror_83 5 rfl rfl (Nat.le_of_ble_eq_true rfl) rfl ?_
      refine ok_goto (t := 19) dX12_mirror_86 (by decide) ?_
      refine ok_sub [1, 2, 3, 4, 5, 0] rfl ?_
      exact hk19 b0 y1 y2 y3 y4 (y5 + 1) hZ_b0 h
    · have h := (if_neg hc3).symm.trans h
      refine ok_aload_n dX12_mirror_55 0 rfl ?_
      refine ok_iload_n dX12_mirror_56 1 rfl ?_
      refine ok_iload dX12_mirror_57 5 rfl ?_
      refine ok_iload dX12_mirror_59 6 rfl ?_
      obtain ⟨r4, hr5, h⟩ := bd h
      refine ok_callV (d := ((d + 0) + 4)) (mt := m12_isBack) (mc := 0) (ms := 0) (As := [.int y1, .int y5, .int y6]) (r := []) dX12_mirror_61 mo12_isBack mv12_isBack lkRX12_446 rfl hZ_b0 (q := (RX12, TX12, 34)) rfl rfl rfl (Nat.le_of_ble_eq_true rfl) (by show _ + 1 ≤ d + _; omega) (Nat.le_refl _) (Nat.le_refl _) (pRt_mono ?_)
      refine k12_isBack (d + 0) hW hZ_b0 hr5 ?_
      intro hbr4
      show Ok g _ Qx 64 [(0, .ref b0), (1, .int y1), (2, .int y2), (3, .int y3), (4, .int y4), (5, .int y5), (6, .int y6)] [.int r4] (Z, I, L, O)
      refine ok_if_ne (t := 70) dX12_mirror_64 (by decide) (fun hc6 => ?_) (fun hc6 => ?_)
      · have h := (if_neg hc6).symm.trans h
        refine ok_iload dX12_mirror_70 6 rfl ?_
        refine ok_istore_n (l' := [(3, .int y6), (0, .ref b0), (1, .int y1), (2, .int y2), (4, .int y4), (5, .int y5), (6, .int y6)]) dX12_mirror_72 rfl (Nat.le_of_ble_eq_true rfl) rfl ?_
        refine ok_iload dX12_mirror_73 5 rfl ?_
        refine ok_istore (l' := [(4, .int y5), (3, .int y6), (0, .ref b0), (1, .int y1), (2, .int y2), (5, .int y5), (6, .int y6)]) dX12_mirror_75 (Nat.le_of_ble_eq_true rfl) rfl ?_
        refine ok_iinc (u := (y6 + 1)) (l' := [(6, .int (y6 + 1)), (4, .int y5), (3, .int y6), (0, .ref b0), (1, .int y1), (2, .int y2), (5, .int y5)]) dX12_mirror_77 6 rfl rfl (Nat.le_of_ble_eq_true rfl) rfl ?_
        refine ok_goto (t := 38) dX12_mirror_80 (by decide) ?_
        refine ok_sub [3, 4, 5, 2, 1, 6, 0] rfl ?_
        exact ih b0 y1 y2 y6 y5 y5 (y6 + 1) hZ_b0 h
      · have h := (if_pos hc6).symm.trans h
        refine ok_goto (t := 77) dX12_mirror_67 (by decide) ?_
        refine ok_iinc (u := (y6 + 1)) (l' := [(6, .int (y6 + 1)), (0, .ref b0), (1, .int y1), (2, .int y2), (3, .int y3), (4, .int y4), (5, .int y5)]) dX12_mirror_77 6 rfl rfl (Nat.le_of_ble_eq_true rfl) rfl ?_
        refine ok_goto (t := 38) dX12_mirror_80 (by decide) ?_
        refine ok_sub [1, 2, 3, 4, 5, 6, 0] rfl ?_
        exact ih b0 y1 y2 y3 y4 y5 (y6 + 1) hZ_b0 h
def f12_mirror_c19 (n : Nat) (I : (Nat → Nat → Int32)) (O : (Nat → Nat → Option Nat)) : Nat → Nat → Int32 → Int32 → Int32 → Int32 → Int32 → Option (Int32)
  | 0, _, _, _, _, _, _ => none
  | m + 1, b0, y1, y2, y3, y4, y5 => (if ((114 : Int32) + y1) < 0 ∨ 4371 ≤ ((114 : Int32) + y1).toNatClampNeg then none else (if (I (rO O b0 0) ((114 : Int32) + y1).toNatClampNeg) ≤ y5 then (if y2 = 0 then some (y3) else some (y4)) else f12_mirror_c38 n I O (f12_mirror_c19 n I O m) n b0 y1 y2 y3 y4 y5 (y3 + 1)))
set_option maxHeartbeats 4000000 in
set_option maxRecDepth 20000 in
theorem o12_mirror_c19 {g : pG} {Qx : Option Value → pW → Prop} {Z : pZ} {I : (Nat → Nat → Int32)} {L : (Nat → Nat → Int64)} {O : (Nat → Nat → Option Nat)} {n : Nat} {res : Int32} (d : Nat) (hW : WT Z O) (hQ : Qx (some (.int res)) (Z, I, L, O)) : ∀ (m : Nat) (b0 : Nat) (y1 : Int32) (y2 : Int32) (y3 : Int32) (y4 : Int32) (y5 : Int32), (Z[b0]? = some (12, 34)) → f12_mirror_c19 n I O m b0 y1 y2 y3 y4 y5 = some res → Ok g (d + 5, RX12, cX12_mirror, 7, false, 0, 0, Z.length, pSl Z) Qx 19 [(0, .ref b0), (1, .int y1), (2, .int y2), (3, .int y3), (4, .int y4), (5, .int y5)] [] (Z, I, L, O) := by
  intro m
  induction m with
  | zero => intro b0 y1 y2 y3 y4 y5 hZ_b0 h; rw [f12_mirror_c19] at h; cases h
  | succ m ih =>
    intro b0 y1 y2 y3 y4 y5 hZ_b0 h
    rw [f12_mirror_c19] at h
    refine ok_iload dX12_mirror_19 5 rfl ?_
    refine ok_aload_n dX12_mirror_21 0 rfl ?_
    have hT1 : Z[(rO O b0 0)]? = some (13, 4371) := (wt_f (ci := 12) (k := 0) hW hZ_b0 rfl).2
    refine ok_getR (ci := 12) (k := 0) dX12_mirror_22 flRX12_7 rfl hW hZ_b0 (by decide) ?_
    refine ok_bipush (v := 114) dX12_mirror_25 (by decide) ?_
    refine ok_iload_n dX12_mirror_27 1 rfl ?_
    refine ok_iadd dX12_mirror_28 ?_
    obtain ⟨hg2, h⟩ := gd h
    refine ok_iald2 (N := ((114 : Int32) + y1).toNatClampNeg) dX12_mirror_29 hT1 hg2 rfl ?_
    refine ok_icmp_ge (t := 89) dX12_mirror_30 (by decide) (fun hc3 => ?_) (fun hc3 => ?_)
    · have h := (if_pos hc3).symm.trans h
      refine ok_iload_n dX12_mirror_89 2 rfl ?_
      refine ok_if_eq (t := 98) dX12_mirror_90 (by decide) (fun hc4 => ?_) (fun hc4 => ?_)
      · have h := (if_pos hc4).symm.trans h
        refine ok_iload_n dX12_mirror_98 3 rfl ?_
        cases h
        exact ok_iret dX12_mirror_99 hQ
      · have h := (if_neg hc4).symm.trans h
        refine ok_iload dX12_mirror_93 4 rfl ?_
        refine ok_goto (t := 99) dX12_mirror_95 (by decide) ?_
        cases h
        exact ok_iret dX12_mirror_99 hQ
    · have h := (if_neg hc3).symm.trans h
      refine ok_iload_n dX12_mirror_33 3 rfl ?_
      refine ok_iconst (v := 1) dX12_mirror_34 (by decide) ?_
      refine ok_iadd dX12_mirror_35 ?_
      refine ok_istore (l' := [(6, .int (y3 + 1)), (0, .ref b0), (1, .int y1), (2, .int y2), (3, .int y3), (4, .int y4), (5, .int y5)]) dX12_mirror_36 (Nat.le_of_ble_eq_true rfl) rfl ?_
      refine ok_sub [1, 2, 3, 4, 5, 6, 0] rfl ?_
      exact o12_mirror_c38 d hW hQ ih n b0 y1 y2 y3 y4 y5 (y3 + 1) hZ_b0 h
def f12_mirror (n : Nat) (I : (Nat → Nat → Int32)) (O : (Nat → Nat → Option Nat)) (a0 : Nat) (x1 : Int32) (x2 : Int32) : Option (Int32) := (f12_isRoll I O a0 x1).bind fun r1 => (if r1 = 0 then some (((-2) : Int32)) else f12_mirror_c19 n I O n a0 x1 x2 (0 : Int32) (-1 : Int32) (0 : Int32))
set_option maxHeartbeats 4000000 in
set_option maxRecDepth 20000 in
theorem o12_mirror {g : pG} {Qx : Option Value → pW → Prop} {Z : pZ} {I : (Nat → Nat → Int32)} {L : (Nat → Nat → Int64)} {O : (Nat → Nat → Option Nat)} {n : Nat} {a0 : Nat} {x1 : Int32} {x2 : Int32} {res : Int32} (d : Nat) (hW : WT Z O) (hZ0 : Z[a0]? = some (12, 34)) (h : f12_mirror n I O a0 x1 x2 = some res) (hQ : Qx (some (.int res)) (Z, I, L, O)) : Ok g (d + 5, RX12, cX12_mirror, 7, false, 0, 0, Z.length, pSl Z) Qx 0 [(0, .ref a0), (1, .int x1), (2, .int x2)] [] (Z, I, L, O) := by
  unfold f12_mirror at h
  refine ok_aload_n dX12_mirror_0 0 rfl ?_
  refine ok_iload_n dX12_mirror_1 1 rfl ?_
  obtain ⟨r1, hr2, h⟩ := bd h
  refine ok_callV (d := ((d + 1) + 3)) (mt := m12_isRoll) (mc := 0) (ms := 0) (As := [.int x1]) (r := []) dX12_mirror_2 mo12_isRoll mv12_isRoll lkRX12_79 rfl hZ0 (q := (RX12, TX12, 34)) rfl rfl rfl (Nat.le_of_ble_eq_true rfl) (by show _ + 1 ≤ d + _; omega) (Nat.le_refl _) (Nat.le_refl _) (pRt_mono ?_)
  refine k12_isRoll (d + 1) hW hZ0 hr2 ?_
  intro hbr1
  show Ok g _ Qx 5 [(0, .ref a0), (1, .int x1), (2, .int x2)] [.int r1] (Z, I, L, O)
  refine ok_if_ne (t := 11) dX12_mirror_5 (by decide) (fun hc3 => ?_) (fun hc3 => ?_)
  · have h := (if_neg hc3).symm.trans h
    refine ok_iconst (v := 0) dX12_mirror_11 (by decide) ?_
    refine ok_istore_n (l' := [(3, .int 0), (0, .ref a0), (1, .int x1), (2, .int x2)]) dX12_mirror_12 rfl (Nat.le_of_ble_eq_true rfl) rfl ?_
    refine ok_iconst (v := (-1)) dX12_mirror_13 (by decide) ?_
    refine ok_istore (l' := [(4, .int (-1)), (3, .int 0), (0, .ref a0), (1, .int x1), (2, .int x2)]) dX12_mirror_14 (Nat.le_of_ble_eq_true rfl) rfl ?_
    refine ok_iconst (v := 0) dX12_mirror_16 (by decide) ?_
    refine ok_istore (l' := [(5, .int 0), (4, .int (-1)), (3, .int 0), (0, .ref a0), (1, .int x1), (2, .int x2)]) dX12_mirror_17 (Nat.le_of_ble_eq_true rfl) rfl ?_
    refine ok_sub [3, 4, 5, 2, 1, 0] rfl ?_
    exact o12_mirror_c19 d hW hQ  n a0 x1 x2 (0 : Int32) (-1 : Int32) (0 : Int32) hZ0 h
  · have h := (if_pos hc3).symm.trans h
    refine ok_bipush (v := (-2)) dX12_mirror_8 (by decide) ?_
    cases h
    exact ok_iret dX12_mirror_10 hQ
theorem k12_mirror {g : pG} {Q : Option Value → pW → Prop} {Z : pZ} {I : (Nat → Nat → Int32)} {L : (Nat → Nat → Int64)} {O : (Nat → Nat → Option Nat)} {n : Nat} {a0 : Nat} {x1 : Int32} {x2 : Int32} {res : Int32} (d : Nat) (hW : WT Z O) (hZ0 : Z[a0]? = some (12, 34)) (h : f12_mirror n I O a0 x1 x2 = some res) (hQ : Q (some (.int res)) (Z, I, L, O)) : CT g (d + 5) m12_mirror 0 0 [.ref a0, .int x1, .int x2] (Z, I, L, O) Q :=
  ct_of_ok (mt := m12_mirror) (ini := false) mo12_mirror.2.2.2.2 (fun h => by cases h) (Nat.le_of_ble_eq_true rfl) (o12_mirror d hW hZ0 h ⟨trivial, hQ, rfl, rfl⟩)
theorem dX12_parts_0 : decode cX12_parts 0 = .ok (.aload_n 0, 1) := by decide +kernel
theorem dX12_parts_1 : decode cX12_parts 1 = .ok (.iload_n 1, 1) := by decide +kernel
theorem dX12_parts_2 : decode cX12_parts 2 = .ok (.invokevirtual 79, 3) := by decide +kernel
theorem dX12_parts_5 : decode cX12_parts 5 = .ok (.ifCond .ne 5, 3) := by decide +kernel
theorem dX12_parts_8 : decode cX12_parts 8 = .ok (.iconst (-1), 1) := by decide +kernel
theorem dX12_parts_9 : decode cX12_parts 9 = .ok (.ireturn, 1) := by decide +kernel
theorem dX12_parts_10 : decode cX12_parts 10 = .ok (.iconst 0, 1) := by decide +kernel
theorem dX12_parts_11 : decode cX12_parts 11 = .ok (.istore_n 2, 1) := by decide +kernel
theorem dX12_parts_12 : decode cX12_parts 12 = .ok (.iconst 0, 1) := by decide +kernel
theorem dX12_parts_13 : decode cX12_parts 13 = .ok (.istore_n 3, 1) := by decide +kernel
theorem dX12_parts_14 : decode cX12_parts 14 = .ok (.iload_n 3, 1) := by decide +kernel
theorem dX12_parts_15 : decode cX12_parts 15 = .ok (.aload_n 0, 1) := by decide +kernel
theorem dX12_parts_16 : decode cX12_parts 16 = .ok (.getfield 7, 3) := by decide +kernel
theorem dX12_parts_19 : decode cX12_parts 19 = .ok (.bipush 114, 2) := by decide +kernel
theorem dX12_parts_21 : decode cX12_parts 21 = .ok (.iload_n 1, 1) := by decide +kernel
theorem dX12_parts_22 : decode cX12_parts 22 = .ok (.iadd, 1) := by decide +kernel
theorem dX12_parts_23 : decode cX12_parts 23 = .ok (.iaload, 1) := by decide +kernel
theorem dX12_parts_24 : decode cX12_parts 24 = .ok (.if_icmp .ge 97, 3) := by decide +kernel
theorem dX12_parts_27 : decode cX12_parts 27 = .ok (.iconst 0, 1) := by decide +kernel
theorem dX12_parts_28 : decode cX12_parts 28 = .ok (.istore 4, 2) := by decide +kernel
theorem dX12_parts_30 : decode cX12_parts 30 = .ok (.iconst 0, 1) := by decide +kernel
theorem dX12_parts_31 : decode cX12_parts 31 = .ok (.istore 5, 2) := by decide +kernel
theorem dX12_parts_33 : decode cX12_parts 33 = .ok (.iload 5, 2) := by decide +kernel
theorem dX12_parts_35 : decode cX12_parts 35 = .ok (.iload_n 3, 1) := by decide +kernel
theorem dX12_parts_36 : decode cX12_parts 36 = .ok (.if_icmp .ge 72, 3) := by decide +kernel
theorem dX12_parts_39 : decode cX12_parts 39 = .ok (.iconst 0, 1) := by decide +kernel
theorem dX12_parts_40 : decode cX12_parts 40 = .ok (.istore 6, 2) := by decide +kernel
theorem dX12_parts_42 : decode cX12_parts 42 = .ok (.iload_n 3, 1) := by decide +kernel
theorem dX12_parts_43 : decode cX12_parts 43 = .ok (.iload 6, 2) := by decide +kernel
theorem dX12_parts_45 : decode cX12_parts 45 = .ok (.iadd, 1) := by decide +kernel
theorem dX12_parts_46 : decode cX12_parts 46 = .ok (.aload_n 0, 1) := by decide +kernel
theorem dX12_parts_47 : decode cX12_parts 47 = .ok (.getfield 7, 3) := by decide +kernel
theorem dX12_parts_50 : decode cX12_parts 50 = .ok (.bipush 114, 2) := by decide +kernel
theorem dX12_parts_52 : decode cX12_parts 52 = .ok (.iload_n 1, 1) := by decide +kernel
theorem dX12_parts_53 : decode cX12_parts 53 = .ok (.iadd, 1) := by decide +kernel
theorem dX12_parts_54 : decode cX12_parts 54 = .ok (.iaload, 1) := by decide +kernel
theorem dX12_parts_55 : decode cX12_parts 55 = .ok (.if_icmp .ge 31, 3) := by decide +kernel
theorem dX12_parts_58 : decode cX12_parts 58 = .ok (.aload_n 0, 1) := by decide +kernel
theorem dX12_parts_59 : decode cX12_parts 59 = .ok (.iload_n 1, 1) := by decide +kernel
theorem dX12_parts_60 : decode cX12_parts 60 = .ok (.iload 5, 2) := by decide +kernel
theorem dX12_parts_62 : decode cX12_parts 62 = .ok (.iload 6, 2) := by decide +kernel
theorem dX12_parts_64 : decode cX12_parts 64 = .ok (.iadd, 1) := by decide +kernel
theorem dX12_parts_65 : decode cX12_parts 65 = .ok (.invokevirtual 87, 3) := by decide +kernel
theorem dX12_parts_68 : decode cX12_parts 68 = .ok (.aload_n 0, 1) := by decide +kernel
theorem dX12_parts_69 : decode cX12_parts 69 = .ok (.iload_n 1, 1) := by decide +kernel
theorem dX12_parts_70 : decode cX12_parts 70 = .ok (.iload_n 3, 1) := by decide +kernel
theorem dX12_parts_71 : decode cX12_parts 71 = .ok (.iload 6, 2) := by decide +kernel
theorem dX12_parts_73 : decode cX12_parts 73 = .ok (.iadd, 1) := by decide +kernel
theorem dX12_parts_74 : decode cX12_parts 74 = .ok (.invokevirtual 87, 3) := by decide +kernel
theorem dX12_parts_77 : decode cX12_parts 77 = .ok (.if_icmp .ne 9, 3) := by decide +kernel
theorem dX12_parts_80 : decode cX12_parts 80 = .ok (.iinc 6 1, 3) := by decide +kernel
theorem dX12_parts_83 : decode cX12_parts 83 = .ok (.goto (-41), 3) := by decide +kernel
theorem dX12_parts_86 : decode cX12_parts 86 = .ok (.iload 6, 2) := by decide +kernel
theorem dX12_parts_88 : decode cX12_parts 88 = .ok (.iload 4, 2) := by decide +kernel
theorem dX12_parts_90 : decode cX12_parts 90 = .ok (.if_icmp .le 8, 3) := by decide +kernel
theorem dX12_parts_93 : decode cX12_parts 93 = .ok (.iload 6, 2) := by decide +kernel
theorem dX12_parts_95 : decode cX12_parts 95 = .ok (.goto 5, 3) := by decide +kernel
theorem dX12_parts_98 : decode cX12_parts 98 = .ok (.iload 4, 2) := by decide +kernel
theorem dX12_parts_100 : decode cX12_parts 100 = .ok (.istore 4, 2) := by decide +kernel
theorem dX12_parts_102 : decode cX12_parts 102 = .ok (.iinc 5 1, 3) := by decide +kernel
theorem dX12_parts_105 : decode cX12_parts 105 = .ok (.goto (-72), 3) := by decide +kernel
theorem dX12_parts_108 : decode cX12_parts 108 = .ok (.iload_n 3, 1) := by decide +kernel
theorem dX12_parts_109 : decode cX12_parts 109 = .ok (.iload 4, 2) := by decide +kernel
theorem dX12_parts_111 : decode cX12_parts 111 = .ok (.iconst 1, 1) := by decide +kernel
theorem dX12_parts_112 : decode cX12_parts 112 = .ok (.iadd, 1) := by decide +kernel
theorem dX12_parts_113 : decode cX12_parts 113 = .ok (.iadd, 1) := by decide +kernel
theorem dX12_parts_114 : decode cX12_parts 114 = .ok (.istore_n 3, 1) := by decide +kernel
theorem dX12_parts_115 : decode cX12_parts 115 = .ok (.iinc 2 1, 3) := by decide +kernel
theorem dX12_parts_118 : decode cX12_parts 118 = .ok (.goto (-104), 3) := by decide +kernel
theorem dX12_parts_121 : decode cX12_parts 121 = .ok (.iload_n 2, 1) := by decide +kernel
theorem dX12_parts_122 : decode cX12_parts 122 = .ok (.ireturn, 1) := by decide +kernel
def m12_parts : pMT := (yX12_parts, cX12_parts, 7, some .int)
theorem mo12_parts : mOK m12_parts 1 := ⟨tb_i 1916 (by decide +kernel), wi_RX12, ⟨wn_RX12.1, wn_RX12.2, by decide +kernel⟩, by decide, plainFor_of_name wp_RX12⟩
theorem mv12_parts : mV m12_parts := ⟨tb_i 1914 (by decide +kernel), tb_i 1915 (by decide +kernel)⟩
def f12_parts_c42 (n : Nat) (I : (Nat → Nat → Int32)) (O : (Nat → Nat → Option Nat)) (k14 : (Nat → Int32 → Int32 → Int32 → Option (Int32))) (k33 : (Nat → Int32 → Int32 → Int32 → Int32 → Int32 → Option (Int32))) : Nat → Nat → Int32 → Int32 → Int32 → Int32 → Int32 → Int32 → Option (Int32)
  | 0, _, _, _, _, _, _, _ => none
  | m + 1, b0, y1, y2, y3, y4, y5, y6 => (if ((114 : Int32) + y1) < 0 ∨ 4371 ≤ ((114 : Int32) + y1).toNatClampNeg then none else (if (I (rO O b0 0) ((114 : Int32) + y1).toNatClampNeg) ≤ (y3 + y6) then (if y6 ≤ y4 then k33 b0 y1 y2 y3 y4 (y5 + 1) else k33 b0 y1 y2 y3 y6 (y5 + 1)) else (f12_keyOf I O b0 y1 (y5 + y6)).bind fun r5 => (f12_keyOf I O b0 y1 (y3 + y6)).bind fun r7 => (if r5 = r7 then f12_parts_c42 n I O k14 k33 m b0 y1 y2 y3 y4 y5 (y6 + 1) else (if y6 ≤ y4 then k33 b0 y1 y2 y3 y4 (y5 + 1) else k33 b0 y1 y2 y3 y6 (y5 + 1)))))
set_option maxHeartbeats 4000000 in
set_option maxRecDepth 20000 in
theorem o12_parts_c42 {g : pG} {Qx : Option Value → pW → Prop} {Z : pZ} {I : (Nat → Nat → Int32)} {L : (Nat → Nat → Int64)} {O : (Nat → Nat → Option Nat)} {n : Nat} {k14 : (Nat → Int32 → Int32 → Int32 → Option (Int32))} {k33 : (Nat → Int32 → Int32 → Int32 → Int32 → Int32 → Option (Int32))} {res : Int32} (d : Nat) (hW : WT Z O) (hQ : Qx (some (.int res)) (Z, I, L, O)) (hk14 : ∀ (b0 : Nat) (y1 : Int32) (y2 : Int32) (y3 : Int32), (Z[b0]? = some (12, 34)) → k14 b0 y1 y2 y3 = some res → Ok g (d + 4, RX12, cX12_parts, 7, false, 0, 0, Z.length, pSl Z) Qx 14 [(0, .ref b0), (1, .int y1), (2, .int y2), (3, .int y3)] [] (Z, I, L, O)) (hk33 : ∀ (b0 : Nat) (y1 : Int32) (y2 : Int32) (y3 : Int32) (y4 : Int32) (y5 : Int32), (Z[b0]? = some (12, 34)) → k33 b0 y1 y2 y3 y4 y5 = some res → Ok g (d + 4, RX12, cX12_parts, 7, false, 0, 0, Z.length, pSl Z) Qx 33 [(0, .ref b0), (1, .int y1), (2, .int y2), (3, .int y3), (4, .int y4), (5, .int y5)] [] (Z, I, L, O)) : ∀ (m : Nat) (b0 : Nat) (y1 : Int32) (y2 : Int32) (y3 : Int32) (y4 : Int32) (y5 : Int32) (y6 : Int32), (Z[b0]? = some (12, 34)) → f12_parts_c42 n I O k14 k33 m b0 y1 y2 y3 y4 y5 y6 = some res → Ok g (d + 4, RX12, cX12_parts, 7, false, 0, 0, Z.length, pSl Z) Qx 42 [(0, .ref b0), (1, .int y1), (2, .int y2), (3, .int y3), (4, .int y4), (5, .int y5), (6, .int y6)] [] (Z, I, L, O) := by
  intro m
  induction m with
  | zero => intro b0 y1 y2 y3 y4 y5 y6 hZ_b0 h; rw [f12_parts_c42] at h; cases h
  | succ m ih =>
    intro b0 y1 y2 y3 y4 y5 y6 hZ_b0 h
    rw [f12_parts_c42] at h
    refine ok_iload_n dX12_parts_42 3 rfl ?_
    refine ok_iload dX12_parts_43 6 rfl ?_
    refine ok_iadd dX12_parts_45 ?_
    refine ok_aload_n dX12_parts_46 0 rfl ?_
    have hT1 : Z[(rO O b0 0)]? = some (13, 4371) := (wt_f (ci := 12) (k := 0) hW hZ_b0 rfl).2
    refine ok_getR (ci := 12) (k := 0) dX12_parts_47 flRX12_7 rfl hW hZ_b0 (by decide) ?_
    refine ok_bipush (v := 114) dX12_parts_50 (by decide) ?_
    refine ok_iload_n dX12_parts_52 1 rfl ?_
    refine ok_iadd dX12_parts_53 ?_
    obtain ⟨hg2, h⟩ := gd h
    refine ok_iald2 (N := ((114 : Int32) + y1).toNatClampNeg) dX12_parts_54 hT1 hg2 rfl ?_
    refine ok_icmp_ge (t := 86) dX12_parts_55 (by decide) (fun hc3 => ?_) (fun hc3 => ?_)
    · have h := (if_pos hc3).symm.trans h
      refine ok_iload dX12_parts_86 6 rfl ?_
      refine ok_iload dX12_parts_88 4 rfl ?_
      refine ok_icmp_le (t := 98) dX12_parts_90 (by decide) (fun hc4 => ?_) (fun hc4 => ?_)
      · have h := (if_pos hc4).symm.trans h
        refine ok_iload dX12_parts_98 4 rfl ?_
        refine ok_istore (l' := [(4, .int y4), (0, .ref b0), (1, .int y1), (2, .int y2), (3, .int y3), (5, .int y5), (6, .int y6)]) dX12_parts_100 (Nat.le_of_ble_eq_true rfl) rfl ?_
        refine ok_iinc (u := (y5 + 1)) (l' := [(5, .int (y5 + 1)), (4, .int y4), (0, .ref b0), (1, .int y1), (2, .int y2), (3, .int y3), (6, .int y6)]) dX12_parts_102 5 rfl rfl (Nat.le_of_ble_eq_true rfl) rfl ?_
        refine ok_goto (t := 33) dX12_parts_105 (by decide) ?_
        refine ok_sub [2, 3, 4, 5, 1, 0] rfl ?_
        exact hk33 b0 y1 y2 y3 y4 (y5 + 1) hZ_b0 h
      · have h := (if_neg hc4).symm.trans h
        refine ok_iload dX12_parts_93 6 rfl ?_
        refine ok_goto (t := 100) dX12_parts_95 (by decide) ?_
        refine ok_istore (l' := [(4, .int y6), (0, .ref b0), (1, .int y1), (2, .int y2), (3, .int y3), (5, .int y5), (6, .int y6)]) dX12_parts_100 (Nat.le_of_ble_eq_true rfl) rfl ?_
        refine ok_iinc (u := (y5 + 1)) (l' := [(5, .int (y5 + 1)), (4, .int y6), (0, .ref b0), (1, .int y1), (2, .int y2), (3, .int y3), (6, .int y6)]) dX12_parts_102 5 rfl rfl (Nat.le_of_ble_eq_true rfl) rfl ?_
        refine ok_goto (t := 33) dX12_parts_105 (by decide) ?_
        refine ok_sub [2, 3, 4, 5, 1, 0] rfl ?_
        exact hk33 b0 y1 y2 y3 y6 (y5 + 1) hZ_b0 h
    · have h := (if_neg hc3).symm.trans h
      refine ok_aload_n dX12_parts_58 0 rfl ?_
      refine ok_iload_n dX12_parts_59 1 rfl ?_
      refine ok_iload dX12_parts_60 5 rfl ?_
      refine ok_iload dX12_parts_62 6 rfl ?_
      refine ok_iadd dX12_parts_64 ?_
      obtain ⟨r5, hr6, h⟩ := bd h
      refine ok_callV (d := ((d + 1) + 2)) (mt := m12_keyOf) (mc := 0) (ms := 0) (As := [.int y1, .int (y5 + y6)]) (r := []) dX12_parts_65 mo12_keyOf mv12_keyOf lkRX12_87 rfl hZ_b0 (q := (RX12, TX12, 34)) rfl rfl rfl (Nat.le_of_ble_eq_true rfl) (by show _ + 1 ≤ d + _; omega) (Nat.le_refl _) (Nat.le_refl _) (pRt_mono ?_)
      refine k12_keyOf (d + 1) hW hZ_b0 hr6 ?_
      intro _
      show Ok g _ Qx 68 [(0, .ref b0), (1, .int y1), (2, .int y2), (3, .int y3), (4, .int y4), (5, .int y5), (6, .int y6)] [.int r5] (Z, I, L, O)
      refine ok_aload_n dX12_parts_68 0 rfl ?_
      refine ok_iload_n dX12_parts_69 1 rfl ?_
      refine ok_iload_n dX12_parts_70 3 rfl ?_
      refine ok_iload dX12_parts_71 6 rfl ?_
      refine ok_iadd dX12_parts_73 ?_
      obtain ⟨r7, hr8, h⟩ := bd h
      refine ok_callV (d := ((d + 1) + 2)) (mt := m12_keyOf) (mc := 0) (ms := 0) (As := [.int y1, .int (y3 + y6)]) (r := [.int r5]) dX12_parts_74 mo12_keyOf mv12_keyOf lkRX12_87 rfl hZ_b0 (q := (RX12, TX12, 34)) rfl rfl rfl (Nat.le_of_ble_eq_true rfl) (by show _ + 1 ≤ d + _; omega) (Nat.le_refl _) (Nat.le_refl _) (pRt_mono ?_)
      refine k12_keyOf (d + 1) hW hZ_b0 hr8 ?_
      intro _
      show Ok g _ Qx 77 [(0, .ref b0), (1, .int y1), (2, .int y2), (3, .int y3), (4, .int y4), (5, .int y5), (6, .int y6)] [.int r7, .int r5] (Z, I, L, O)
      refine ok_icmp_ne (t := 86) dX12_parts_77 (by decide) (fun hc9 => ?_) (fun hc9 => ?_)
      · have h := (if_neg hc9).symm.trans h
        refine ok_iload dX12_parts_86 6 rfl ?_
        refine ok_iload dX12_parts_88 4 rfl ?_
        refine ok_icmp_le (t := 98) dX12_parts_90 (by decide) (fun hc10 => ?_) (fun hc10 => ?_)
        · have h := (if_pos hc10).symm.trans h
          refine ok_iload dX12_parts_98 4 rfl ?_
          refine ok_istore (l' := [(4, .int y4), (0, .ref b0), (1, .int y1), (2, .int y2), (3, .int y3), (5, .int y5), (6, .int y6)]) dX12_parts_100 (Nat.le_of_ble_eq_true rfl) rfl ?_
          refine ok_iinc (u := (y5 + 1)) (l' := [(5, .int (y5 + 1)), (4, .int y4), (0, .ref b0), (1, .int y1), (2, .int y2), (3, .int y3), (6, .int y6)]) dX12_parts_102 5 rfl rfl (Nat.le_of_ble_eq_true rfl) rfl ?_
          refine ok_goto (t := 33) dX12_parts_105 (by decide) ?_
          refine ok_sub [2, 3, 4, 5, 1, 0] rfl ?_
          exact hk33 b0 y1 y2 y3 y4 (y5 + 1) hZ_b0 h
        · have h := (if_neg hc10).symm.trans h
          refine ok_iload dX12_parts_93 6 rfl ?_
          refine ok_goto (t := 100) dX12_parts_95 (by decide) ?_
          refine ok_istore (l' := [(4, .int y6), (0, .ref b0), (1, .int y1), (2, .int y2), (3, .int y3), (5, .int y5), (6, .int y6)]) dX12_parts_100 (Nat.le_of_ble_eq_true rfl) rfl ?_
          refine ok_iinc (u := (y5 + 1)) (l' := [(5, .int (y5 + 1)), (4, .int y6), (0, .ref b0), (1, .int y1), (2, .int y2), (3, .int y3), (6, .int y6)]) dX12_parts_102 5 rfl rfl (Nat.le_of_ble_eq_true rfl) rfl ?_
          refine ok_goto (t := 33) dX12_parts_105 (by decide) ?_
          refine ok_sub [2, 3, 4, 5, 1, 0] rfl ?_
          exact hk33 b0 y1 y2 y3 y6 (y5 + 1) hZ_b0 h
      · have h := (if_pos hc9).symm.trans h
        refine ok_iinc (u := (y6 + 1)) (l' := [(6, .int (y6 + 1)), (0, .ref b0), (1, .int y1), (2, .int y2), (3, .int y3), (4, .int y4), (5, .int y5)]) dX12_parts_80 6 rfl rfl (Nat.le_of_ble_eq_true rfl) rfl ?_
        refine ok_goto (t := 42) dX12_parts_83 (by decide) ?_
        refine ok_sub [1, 2, 3, 4, 5, 6, 0] rfl ?_
        exact ih b0 y1 y2 y3 y4 y5 (y6 + 1) hZ_b0 h
def f12_parts_c33 (n : Nat) (I : (Nat → Nat → Int32)) (O : (Nat → Nat → Option Nat)) (k14 : (Nat → Int32 → Int32 → Int32 → Option (Int32))) : Nat → Nat → Int32 → Int32 → Int32 → Int32 → Int32 → Option (Int32)
  | 0, _, _, _, _, _, _ => none
  | m + 1, b0, y1, y2, y3, y4, y5 => (if y3 ≤ y5 then k14 b0 y1 (y2 + 1) (y3 + (y4 + 1)) else f12_parts_c42 n I O k14 (f12_parts_c33 n I O k14 m) n b0 y1 y2 y3 y4 y5 (0 : Int32))
set_option maxHeartbeats 4000000 in
set_option maxRecDepth 20000 in
theorem o12_parts_c33 {g : pG} {Qx : Option Value → pW → Prop} {Z : pZ} {I : (Nat → Nat → Int32)} {L : (Nat → Nat → Int64)} {O : (Nat → Nat → Option Nat)} {n : Nat} {k14 : (Nat → Int32 → Int32 → Int32 → Option (Int32))} {res : Int32} (d : Nat) (hW : WT Z O) (hQ : Qx (some (.int res)) (Z, I, L, O)) (hk14 : ∀ (b0 : Nat) (y1 : Int32) (y2 : Int32) (y3 : Int32), (Z[b0]? = some (12, 34)) → k14 b0 y1 y2 y3 = some res → Ok g (d + 4, RX12, cX12_parts, 7, false, 0, 0, Z.length, pSl Z) Qx 14 [(0, .ref b0), (1, .int y1), (2, .int y2), (3, .int y3)] [] (Z, I, L, O)) : ∀ (m : Nat) (b0 : Nat) (y1 : Int32) (y2 : Int32) (y3 : Int32) (y4 : Int32) (y5 : Int32), (Z[b0]? = some (12, 34)) → f12_parts_c33 n I O k14 m b0 y1 y2 y3 y4 y5 = some res → Ok g (d + 4, RX12, cX12_parts, 7, false, 0, 0, Z.length, pSl Z) Qx 33 [(0, .ref b0), (1, .int y1), (2, .int y2), (3, .int y3), (4, .int y4), (5, .int y5)] [] (Z, I, L, O) := by
  intro m
  induction m with
  | zero => intro b0 y1 y2 y3 y4 y5 hZ_b0 h; rw [f12_parts_c33] at h; cases h
  | succ m ih =>
    intro b0 y1 y2 y3 y4 y5 hZ_b0 h
    rw [f12_parts_c33] at h
    refine ok_iload dX12_parts_33 5 rfl ?_
    refine ok_iload_n dX12_parts_35 3 rfl ?_
    refine ok_icmp_ge (t := 108) dX12_parts_36 (by decide) (fun hc1 => ?_) (fun hc1 => ?_)
    · have h := (if_pos hc1).symm.trans h
      refine ok_iload_n dX12_parts_108 3 rfl ?_
      refine ok_iload dX12_parts_109 4 rfl ?_
      refine ok_iconst (v := 1) dX12_parts_111 (by decide) ?_
      refine ok_iadd dX12_parts_112 ?_
      refine ok_iadd dX12_parts_113 ?_
      refine ok_istore_n (l' := [(3, .int (y3 + (y4 + 1))), (0, .ref b0), (1, .int y1), (2, .int y2), (4, .int y4), (5, .int y5)]) dX12_parts_114 rfl (Nat.le_of_ble_eq_true rfl) rfl ?_
      refine ok_iinc (u := (y2 + 1)) (l' := [(2, .int (y2 + 1)), (3, .int (y3 + (y4 + 1))), (0, .ref b0), (1, .int y1), (4, .int y4), (5, .int y5)]) dX12_parts_115 3 rfl rfl (Nat.le_of_ble_eq_true rfl) rfl ?_
      refine ok_goto (t := 14) dX12_parts_118 (by decide) ?_
      refine ok_sub [2, 3, 0, 1] rfl ?_
      exact hk14 b0 y1 (y2 + 1) (y3 + (y4 + 1)) hZ_b0 h
    · have h := (if_neg hc1).symm.trans h
      refine ok_iconst (v := 0) dX12_parts_39 (by decide) ?_
      refine ok_istore (l' := [(6, .int 0), (0, .ref b0), (1, .int y1), (2, .int y2), (3, .int y3), (4, .int y4), (5, .int y5)]) dX12_parts_40 (Nat.le_of_ble_eq_true rfl) rfl ?_
      refine ok_sub [1, 2, 3, 4, 5, 6, 0] rfl ?_
      exact o12_parts_c42 d hW hQ hk14 ih n b0 y1 y2 y3 y4 y5 (0 : Int32) hZ_b0 h
def f12_parts_c14 (n : Nat) (I : (Nat → Nat → Int32)) (O : (Nat → Nat → Option Nat)) : Nat → Nat → Int32 → Int32 → Int32 → Option (Int32)
  | 0, _, _, _, _ => none
  | m + 1, b0, y1, y2, y3 => (if ((114 : Int32) + y1) < 0 ∨ 4371 ≤ ((114 : Int32) + y1).toNatClampNeg then none else (if (I (rO O b0 0) ((114 : Int32) + y1).toNatClampNeg) ≤ y3 then some (y2) else f12_parts_c33 n I O (f12_parts_c14 n I O m) n b0 y1 y2 y3 (0 : Int32) (0 : Int32)))
set_option maxHeartbeats 4000000 in
set_option maxRecDepth 20000 in
theorem o12_parts_c14 {g : pG} {Qx : Option Value → pW → Prop} {Z : pZ} {I : (Nat → Nat → Int32)} {L : (Nat → Nat → Int64)} {O : (Nat → Nat → Option Nat)} {n : Nat} {res : Int32} (d : Nat) (hW : WT Z O) (hQ : Qx (some (.int res)) (Z, I, L, O)) : ∀ (m : Nat) (b0 : Nat) (y1 : Int32) (y2 : Int32) (y3 : Int32), (Z[b0]? = some (12, 34)) → f12_parts_c14 n I O m b0 y1 y2 y3 = some res → Ok g (d + 4, RX12, cX12_parts, 7, false, 0, 0, Z.length, pSl Z) Qx 14 [(0, .ref b0), (1, .int y1), (2, .int y2), (3, .int y3)] [] (Z, I, L, O) := by
  intro m
  induction m with
  | zero => intro b0 y1 y2 y3 hZ_b0 h; rw [f12_parts_c14] at h; cases h
  | succ m ih =>
    intro b0 y1 y2 y3 hZ_b0 h
    rw [f12_parts_c14] at h
    refine ok_iload_n dX12_parts_14 3 rfl ?_
    refine ok_aload_n dX12_parts_15 0 rfl ?_
    have hT1 : Z[(rO O b0 0)]? = some (13, 4371) := (wt_f (ci := 12) (k := 0) hW hZ_b0 rfl).2
    refine ok_getR (ci := 12) (k := 0) dX12_parts_16 flRX12_7 rfl hW hZ_b0 (by decide) ?_
    refine ok_bipush (v := 114) dX12_parts_19 (by decide) ?_
    refine ok_iload_n dX12_parts_21 1 rfl ?_
    refine ok_iadd dX12_parts_22 ?_
    obtain ⟨hg2, h⟩ := gd h
    refine ok_iald2 (N := ((114 : Int32) + y1).toNatClampNeg) dX12_parts_23 hT1 hg2 rfl ?_
    refine ok_icmp_ge (t := 121) dX12_parts_24 (by decide) (fun hc3 => ?_) (fun hc3 => ?_)
    · have h := (if_pos hc3).symm.trans h
      refine ok_iload_n dX12_parts_121 2 rfl ?_
      cases h
      exact ok_iret dX12_parts_122 hQ
    · have h := (if_neg hc3).symm.trans h
      refine ok_iconst (v := 0) dX12_parts_27 (by decide) ?_
      refine ok_istore (l' := [(4, .int 0), (0, .ref b0), (1, .int y1), (2, .int y2), (3, .int y3)]) dX12_parts_28 (Nat.le_of_ble_eq_true rfl) rfl ?_
      refine ok_iconst (v := 0) dX12_parts_30 (by decide) ?_
      refine ok_istore (l' := [(5, .int 0), (4, .int 0), (0, .ref b0), (1, .int y1), (2, .int y2), (3, .int y3)]) dX12_parts_31 (Nat.le_of_ble_eq_true rfl) rfl ?_
      refine ok_sub [2, 3, 4, 5, 1, 0] rfl ?_
      exact o12_parts_c33 d hW hQ ih n b0 y1 y2 y3 (0 : Int32) (0 : Int32) hZ_b0 h
def f12_parts (n : Nat) (I : (Nat → Nat → Int32)) (O : (Nat → Nat → Option Nat)) (a0 : Nat) (x1 : Int32) : Option (Int32) := (f12_isRoll I O a0 x1).bind fun r1 => (if r1 = 0 then some (((-1) : Int32)) else f12_parts_c14 n I O n a0 x1 (0 : Int32) (0 : Int32))
set_option maxHeartbeats 4000000 in
set_option maxRecDepth 20000 in
theorem o12_parts {g : pG} {Qx : Option Value → pW → Prop} {Z : pZ} {I : (Nat → Nat → Int32)} {L : (Nat → Nat → Int64)} {O : (Nat → Nat → Option Nat)} {n : Nat} {a0 : Nat} {x1 : Int32} {res : Int32} (d : Nat) (hW : WT Z O) (hZ0 : Z[a0]? = some (12, 34)) (h : f12_parts n I O a0 x1 = some res) (hQ : Qx (some (.int res)) (Z, I, L, O)) : Ok g (d + 4, RX12, cX12_parts, 7, false, 0, 0, Z.length, pSl Z) Qx 0 [(0, .ref a0), (1, .int x1)] [] (Z, I, L, O) := by
  unfold f12_parts at h
  refine ok_aload_n dX12_parts_0 0 rfl ?_
  refine ok_iload_n dX12_parts_1 1 rfl ?_
  obtain ⟨r1, hr2, h⟩ := bd h
  refine ok_callV (d := ((d + 0) + 3)) (mt := m12_isRoll) (mc := 0) (ms := 0) (As := [.int x1]) (r := []) dX12_parts_2 mo12_isRoll mv12_isRoll lkRX12_79 rfl hZ0 (q := (RX12, TX12, 34)) rfl rfl rfl (Nat.le_of_ble_eq_true rfl) (by show _ + 1 ≤ d + _; omega) (Nat.le_refl _) (Nat.le_refl _) (pRt_mono ?_)
  refine k12_isRoll (d + 0) hW hZ0 hr2 ?_
  intro hbr1
  show Ok g _ Qx 5 [(0, .ref a0), (1, .int x1)] [.int r1] (Z, I, L, O)
  refine ok_if_ne (t := 10) dX12_parts_5 (by decide) (fun hc3 => ?_) (fun hc3 => ?_)
  · have h := (if_neg hc3).symm.trans h
    refine ok_iconst (v := 0) dX12_parts_10 (by decide) ?_
    refine ok_istore_n (l' := [(2, .int 0), (0, .ref a0), (1, .int x1)]) dX12_parts_11 rfl (Nat.le_of_ble_eq_true rfl) rfl ?_
    refine ok_iconst (v := 0) dX12_parts_12 (by decide) ?_
    refine ok_istore_n (l' := [(3, .int 0), (2, .int 0), (0, .ref a0), (1, .int x1)]) dX12_parts_13 rfl (Nat.le_of_ble_eq_true rfl) rfl ?_
    refine ok_sub [2, 3, 1, 0] rfl ?_
    exact o12_parts_c14 d hW hQ  n a0 x1 (0 : Int32) (0 : Int32) hZ0 h
  · have h := (if_pos hc3).symm.trans h
    refine ok_iconst (v := (-1)) dX12_parts_8 (by decide) ?_
    cases h
    exact ok_iret dX12_parts_9 hQ
theorem k12_parts {g : pG} {Q : Option Value → pW → Prop} {Z : pZ} {I : (Nat → Nat → Int32)} {L : (Nat → Nat → Int64)} {O : (Nat → Nat → Option Nat)} {n : Nat} {a0 : Nat} {x1 : Int32} {res : Int32} (d : Nat) (hW : WT Z O) (hZ0 : Z[a0]? = some (12, 34)) (h : f12_parts n I O a0 x1 = some res) (hQ : Q (some (.int res)) (Z, I, L, O)) : CT g (d + 4) m12_parts 0 0 [.ref a0, .int x1] (Z, I, L, O) Q :=
  ct_of_ok (mt := m12_parts) (ini := false) mo12_parts.2.2.2.2 (fun h => by cases h) (Nat.le_of_ble_eq_true rfl) (o12_parts d hW hZ0 h ⟨trivial, hQ, rfl, rfl⟩)
theorem dX12_clashes_0 : decode cX12_clashes 0 = .ok (.iconst 0, 1) := by decide +kernel
theorem dX12_clashes_1 : decode cX12_clashes 1 = .ok (.istore 4, 2) := by decide +kernel
theorem dX12_clashes_3 : decode cX12_clashes 3 = .ok (.iload_n 3, 1) := by decide +kernel
theorem dX12_clashes_4 : decode cX12_clashes 4 = .ok (.istore 5, 2) := by decide +kernel
theorem dX12_clashes_6 : decode cX12_clashes 6 = .ok (.iload 5, 2) := by decide +kernel
theorem dX12_clashes_8 : decode cX12_clashes 8 = .ok (.aload_n 0, 1) := by decide +kernel
theorem dX12_clashes_9 : decode cX12_clashes 9 = .ok (.getfield 7, 3) := by decide +kernel
theorem dX12_clashes_12 : decode cX12_clashes 12 = .ok (.bipush 114, 2) := by decide +kernel
theorem dX12_clashes_14 : decode cX12_clashes 14 = .ok (.iload_n 1, 1) := by decide +kernel
theorem dX12_clashes_15 : decode cX12_clashes 15 = .ok (.iadd, 1) := by decide +kernel
theorem dX12_clashes_16 : decode cX12_clashes 16 = .ok (.iaload, 1) := by decide +kernel
theorem dX12_clashes_17 : decode cX12_clashes 17 = .ok (.if_icmp .ge 50, 3) := by decide +kernel
theorem dX12_clashes_20 : decode cX12_clashes 20 = .ok (.iload 5, 2) := by decide +kernel
theorem dX12_clashes_22 : decode cX12_clashes 22 = .ok (.iload_n 3, 1) := by decide +kernel
theorem dX12_clashes_23 : decode cX12_clashes 23 = .ok (.isub, 1) := by decide +kernel
theorem dX12_clashes_24 : decode cX12_clashes 24 = .ok (.aload_n 0, 1) := by decide +kernel
theorem dX12_clashes_25 : decode cX12_clashes 25 = .ok (.getfield 7, 3) := by decide +kernel
theorem dX12_clashes_28 : decode cX12_clashes 28 = .ok (.bipush 114, 2) := by decide +kernel
theorem dX12_clashes_30 : decode cX12_clashes 30 = .ok (.iload_n 2, 1) := by decide +kernel
theorem dX12_clashes_31 : decode cX12_clashes 31 = .ok (.iadd, 1) := by decide +kernel
theorem dX12_clashes_32 : decode cX12_clashes 32 = .ok (.iaload, 1) := by decide +kernel
theorem dX12_clashes_33 : decode cX12_clashes 33 = .ok (.if_icmp .ge 34, 3) := by decide +kernel
theorem dX12_clashes_36 : decode cX12_clashes 36 = .ok (.iload 4, 2) := by decide +kernel
theorem dX12_clashes_38 : decode cX12_clashes 38 = .ok (.aload_n 0, 1) := by decide +kernel
theorem dX12_clashes_39 : decode cX12_clashes 39 = .ok (.iload_n 1, 1) := by decide +kernel
theorem dX12_clashes_40 : decode cX12_clashes 40 = .ok (.iload 5, 2) := by decide +kernel
theorem dX12_clashes_42 : decode cX12_clashes 42 = .ok (.iload_n 2, 1) := by decide +kernel
theorem dX12_clashes_43 : decode cX12_clashes 43 = .ok (.iload 5, 2) := by decide +kernel
theorem dX12_clashes_45 : decode cX12_clashes 45 = .ok (.iload_n 3, 1) := by decide +kernel
theorem dX12_clashes_46 : decode cX12_clashes 46 = .ok (.isub, 1) := by decide +kernel
theorem dX12_clashes_47 : decode cX12_clashes 47 = .ok (.invokevirtual 422, 3) := by decide +kernel
theorem dX12_clashes_50 : decode cX12_clashes 50 = .ok (.ifCond .eq 7, 3) := by decide +kernel
theorem dX12_clashes_53 : decode cX12_clashes 53 = .ok (.iconst 1, 1) := by decide +kernel
theorem dX12_clashes_54 : decode cX12_clashes 54 = .ok (.goto 4, 3) := by decide +kernel
theorem dX12_clashes_57 : decode cX12_clashes 57 = .ok (.iconst 0, 1) := by decide +kernel
theorem dX12_clashes_58 : decode cX12_clashes 58 = .ok (.iadd, 1) := by decide +kernel
theorem dX12_clashes_59 : decode cX12_clashes 59 = .ok (.istore 4, 2) := by decide +kernel
theorem dX12_clashes_61 : decode cX12_clashes 61 = .ok (.iinc 5 1, 3) := by decide +kernel
theorem dX12_clashes_64 : decode cX12_clashes 64 = .ok (.goto (-58), 3) := by decide +kernel
theorem dX12_clashes_67 : decode cX12_clashes 67 = .ok (.iload 4, 2) := by decide +kernel
theorem dX12_clashes_69 : decode cX12_clashes 69 = .ok (.ireturn, 1) := by decide +kernel
def m12_clashes : pMT := (yX12_clashes, cX12_clashes, 6, some .int)
theorem mo12_clashes : mOK m12_clashes 3 := ⟨tb_i 1924 (by decide +kernel), wi_RX12, ⟨wn_RX12.1, wn_RX12.2, by decide +kernel⟩, by decide, plainFor_of_name wp_RX12⟩
theorem mv12_clashes : mV m12_clashes := ⟨tb_i 1923 (by decide +kernel), tb_p 131 (by decide +kernel)⟩
def f12_clashes_c6 (n : Nat) (I : (Nat → Nat → Int32)) (O : (Nat → Nat → Option Nat)) : Nat → Nat → Int32 → Int32 → Int32 → Int32 → Int32 → Option (Int32)
  | 0, _, _, _, _, _, _ => none
  | m + 1, b0, y1, y2, y3, y4, y5 => (if ((114 : Int32) + y1) < 0 ∨ 4371 ≤ ((114 : Int32) + y1).toNatClampNeg then none else (if (I (rO O b0 0) ((114 : Int32) + y1).toNatClampNeg) ≤ y5 then some (y4) else (if ((114 : Int32) + y2) < 0 ∨ 4371 ≤ ((114 : Int32) + y2).toNatClampNeg then none else (if (I (rO O b0 0) ((114 : Int32) + y2).toNatClampNeg) ≤ (y5 - y3) then some (y4) else (f12_areOne I O b0 y1 y5 y2 (y5 - y3)).bind fun r6 => (if r6 = 0 then f12_clashes_c6 n I O m b0 y1 y2 y3 (y4 + 0) (y5 + 1) else f12_clashes_c6 n I O m b0 y1 y2 y3 (y4 + 1) (y5 + 1))))))
set_option maxHeartbeats 4000000 in
set_option maxRecDepth 20000 in
theorem o12_clashes_c6 {g : pG} {Qx : Option Value → pW → Prop} {Z : pZ} {I : (Nat → Nat → Int32)} {L : (Nat → Nat → Int64)} {O : (Nat → Nat → Option Nat)} {n : Nat} {res : Int32} (d : Nat) (hW : WT Z O) (hQ : Qx (some (.int res)) (Z, I, L, O)) : ∀ (m : Nat) (b0 : Nat) (y1 : Int32) (y2 : Int32) (y3 : Int32) (y4 : Int32) (y5 : Int32), (Z[b0]? = some (12, 34)) → f12_clashes_c6 n I O m b0 y1 y2 y3 y4 y5 = some res → Ok g (d + 6, RX12, cX12_clashes, 6, false, 0, 0, Z.length, pSl Z) Qx 6 [(0, .ref b0), (1, .int y1), (2, .int y2), (3, .int y3), (4, .int y4), (5, .int y5)] [] (Z, I, L, O) := by
  intro m
  induction m with
  | zero => intro b0 y1 y2 y3 y4 y5 hZ_b0 h; rw [f12_clashes_c6] at h; cases h
  | succ m ih =>
    intro b0 y1 y2 y3 y4 y5 hZ_b0 h
    rw [f12_clashes_c6] at h
    refine ok_iload dX12_clashes_6 5 rfl ?_
    refine ok_aload_n dX12_clashes_8 0 rfl ?_
    have hT1 : Z[(rO O b0 0)]? = some (13, 4371) := (wt_f (ci := 12) (k := 0) hW hZ_b0 rfl).2
    refine ok_getR (ci := 12) (k := 0) dX12_clashes_9 flRX12_7 rfl hW hZ_b0 (by decide) ?_
    refine ok_bipush (v := 114) dX12_clashes_12 (by decide) ?_
    refine ok_iload_n dX12_clashes_14 1 rfl ?_
    refine ok_iadd dX12_clashes_15 ?_
    obtain ⟨hg2, h⟩ := gd h
    refine ok_iald2 (N := ((114 : Int32) + y1).toNatClampNeg) dX12_clashes_16 hT1 hg2 rfl ?_
    refine ok_icmp_ge (t := 67) dX12_clashes_17 (by decide) (fun hc3 => ?_) (fun hc3 => ?_)
    · have h := (if_pos hc3).symm.trans h
      refine ok_iload dX12_clashes_67 4 rfl ?_
      cases h
      exact ok_iret dX12_clashes_69 hQ
    · have h := (if_neg hc3).symm.trans h
      refine ok_iload dX12_clashes_20 5 rfl ?_
      refine ok_iload_n dX12_clashes_22 3 rfl ?_
      refine ok_isub dX12_clashes_23 ?_
      refine ok_aload_n dX12_clashes_24 0 rfl ?_
      refine ok_getR (ci := 12) (k := 0) dX12_clashes_25 flRX12_7 rfl hW hZ_b0 (by decide) ?_
      refine ok_bipush (v := 114) dX12_clashes_28 (by decide) ?_
      refine ok_iload_n dX12_clashes_30 2 rfl ?_
      refine ok_iadd dX12_clashes_31 ?_
      obtain ⟨hg4, h⟩ := gd h
      refine ok_iald2 (N := ((114 : Int32) + y2).toNatClampNeg) dX12_clashes_32 hT1 hg4 rfl ?_
      refine ok_icmp_ge (t := 67) dX12_clashes_33 (by decide) (fun hc5 => ?_) (fun hc5 => ?_)
      · have h := (if_pos hc5).symm.trans h
        refine ok_iload dX12_clashes_67 4 rfl ?_
        cases h
        exact ok_iret dX12_clashes_69 hQ
      · have h := (if_neg hc5).symm.trans h
        refine ok_iload dX12_clashes_36 4 rfl ?_
        refine ok_aload_n dX12_clashes_38 0 rfl ?_
        refine ok_iload_n dX12_clashes_39 1 rfl ?_
        refine ok_iload dX12_clashes_40 5 rfl ?_
        refine ok_iload_n dX12_clashes_42 2 rfl ?_
        refine ok_iload dX12_clashes_43 5 rfl ?_
        refine ok_iload_n dX12_clashes_45 3 rfl ?_
        refine ok_isub dX12_clashes_46 ?_
        obtain ⟨r6, hr7, h⟩ := bd h
        refine ok_callV (d := ((d + 0) + 5)) (mt := m12_areOne) (mc := 0) (ms := 0) (As := [.int y1, .int y5, .int y2, .int (y5 - y3)]) (r := [.int y4]) dX12_clashes_47 mo12_areOne mv12_areOne lkRX12_422 rfl hZ_b0 (q := (RX12, TX12, 34)) rfl rfl rfl (Nat.le_of_ble_eq_true rfl) (by show _ + 1 ≤ d + _; omega) (Nat.le_refl _) (Nat.le_refl _) (pRt_mono ?_)
        refine k12_areOne (d + 0) hW hZ_b0 hr7 ?_
        intro hbr6
        show Ok g _ Qx 50 [(0, .ref b0), (1, .int y1), (2, .int y2), (3, .int y3), (4, .int y4), (5, .int y5)] [.int r6, .int y4] (Z, I, L, O)
        refine ok_if_eq (t := 57) dX12_clashes_50 (by decide) (fun hc8 => ?_) (fun hc8 => ?_)
        · have h := (if_pos hc8).symm.trans h
          refine ok_iconst (v := 0) dX12_clashes_57 (by decide) ?_
          refine ok_iadd dX12_clashes_58 ?_
          refine ok_istore (l' := [(4, .int (y4 + 0)), (0, .ref b0), (1, .int y1), (2, .int y2), (3, .int y3), (5, .int y5)]) dX12_clashes_59 (Nat.le_of_ble_eq_true rfl) rfl ?_
          refine ok_iinc (u := (y5 + 1)) (l' := [(5, .int (y5 + 1)), (4, .int (y4 + 0)), (0, .ref b0), (1, .int y1), (2, .int y2), (3, .int y3)]) dX12_clashes_61 5 rfl rfl (Nat.le_of_ble_eq_true rfl) rfl ?_
          refine ok_goto (t := 6) dX12_clashes_64 (by decide) ?_
          refine ok_sub [2, 3, 4, 5, 1, 0] rfl ?_
          exact ih b0 y1 y2 y3 (y4 + 0) (y5 + 1) hZ_b0 h
        · have h := (if_neg hc8).symm.trans h
          refine ok_iconst (v := 1) dX12_clashes_53 (by decide) ?_
          refine ok_goto (t := 58) dX12_clashes_54 (by decide) ?_
          refine ok_iadd dX12_clashes_58 ?_
          refine ok_istore (l' := [(4, .int (y4 + 1)), (0, .ref b0), (1, .int y1), (2, .int y2), (3, .int y3), (5, .int y5)]) dX12_clashes_59 (Nat.le_of_ble_eq_true rfl) rfl ?_
          refine ok_iinc (u := (y5 + 1)) (l' := [(5, .int (y5 + 1)), (4, .int (y4 + 1)), (0, .ref b0), (1, .int y1), (2, .int y2), (3, .int y3)]) dX12_clashes_61 5 rfl rfl (Nat.le_of_ble_eq_true rfl) rfl ?_
          refine ok_goto (t := 6) dX12_clashes_64 (by decide) ?_
          refine ok_sub [2, 3, 4, 5, 1, 0] rfl ?_
          exact ih b0 y1 y2 y3 (y4 + 1) (y5 + 1) hZ_b0 h
def f12_clashes (n : Nat) (I : (Nat → Nat → Int32)) (O : (Nat → Nat → Option Nat)) (a0 : Nat) (x1 : Int32) (x2 : Int32) (x3 : Int32) : Option (Int32) := f12_clashes_c6 n I O n a0 x1 x2 x3 (0 : Int32) x3
set_option maxHeartbeats 4000000 in
set_option maxRecDepth 20000 in
theorem o12_clashes {g : pG} {Qx : Option Value → pW → Prop} {Z : pZ} {I : (Nat → Nat → Int32)} {L : (Nat → Nat → Int64)} {O : (Nat → Nat → Option Nat)} {n : Nat} {a0 : Nat} {x1 : Int32} {x2 : Int32} {x3 : Int32} {res : Int32} (d : Nat) (hW : WT Z O) (hZ0 : Z[a0]? = some (12, 34)) (h : f12_clashes n I O a0 x1 x2 x3 = some res) (hQ : Qx (some (.int res)) (Z, I, L, O)) : Ok g (d + 6, RX12, cX12_clashes, 6, false, 0, 0, Z.length, pSl Z) Qx 0 [(0, .ref a0), (1, .int x1), (2, .int x2), (3, .int x3)] [] (Z, I, L, O) := by
  unfold f12_clashes at h
  refine ok_iconst (v := 0) dX12_clashes_0 (by decide) ?_
  refine ok_istore (l' := [(4, .int 0), (0, .ref a0), (1, .int x1), (2, .int x2), (3, .int x3)]) dX12_clashes_1 (Nat.le_of_ble_eq_true rfl) rfl ?_
  refine ok_iload_n dX12_clashes_3 4 rfl ?_
  refine ok_istore (l' := [(5, .int x3), (4, .int 0), (0, .ref a0), (1, .int x1), (2, .int x2), (3, .int x3)]) dX12_clashes_4 (Nat.le_of_ble_eq_true rfl) rfl ?_
  refine ok_sub [2, 3, 4, 5, 1, 0] rfl ?_
  exact o12_clashes_c6 d hW hQ  n a0 x1 x2 x3 (0 : Int32) x3 hZ0 h
theorem k12_clashes {g : pG} {Q : Option Value → pW → Prop} {Z : pZ} {I : (Nat → Nat → Int32)} {L : (Nat → Nat → Int64)} {O : (Nat → Nat → Option Nat)} {n : Nat} {a0 : Nat} {x1 : Int32} {x2 : Int32} {x3 : Int32} {res : Int32} (d : Nat) (hW : WT Z O) (hZ0 : Z[a0]? = some (12, 34)) (h : f12_clashes n I O a0 x1 x2 x3 = some res) (hQ : Q (some (.int res)) (Z, I, L, O)) : CT g (d + 6) m12_clashes 0 0 [.ref a0, .int x1, .int x2, .int x3] (Z, I, L, O) Q :=
  ct_of_ok (mt := m12_clashes) (ini := false) mo12_clashes.2.2.2.2 (fun h => by cases h) (Nat.le_of_ble_eq_true rfl) (o12_clashes d hW hZ0 h ⟨trivial, hQ, rfl, rfl⟩)
theorem dX12_clash_0 : decode cX12_clash 0 = .ok (.aload_n 0, 1) := by decide +kernel
theorem dX12_clash_1 : decode cX12_clash 1 = .ok (.iload_n 1, 1) := by decide +kernel
theorem dX12_clash_2 : decode cX12_clash 2 = .ok (.invokevirtual 79, 3) := by decide +kernel
theorem dX12_clash_5 : decode cX12_clash 5 = .ok (.ifCond .eq 31, 3) := by decide +kernel
theorem dX12_clash_8 : decode cX12_clash 8 = .ok (.aload_n 0, 1) := by decide +kernel
theorem dX12_clash_9 : decode cX12_clash 9 = .ok (.iload_n 2, 1) := by decide +kernel
theorem dX12_clash_10 : decode cX12_clash 10 = .ok (.invokevirtual 79, 3) := by decide +kernel
theorem dX12_clash_13 : decode cX12_clash 13 = .ok (.ifCond .eq 23, 3) := by decide +kernel
theorem dX12_clash_16 : decode cX12_clash 16 = .ok (.iload_n 3, 1) := by decide +kernel
theorem dX12_clash_17 : decode cX12_clash 17 = .ok (.iconst 0, 1) := by decide +kernel
theorem dX12_clash_18 : decode cX12_clash 18 = .ok (.bipush 16, 2) := by decide +kernel
theorem dX12_clash_20 : decode cX12_clash 20 = .ok (.invokestatic 75, 3) := by decide +kernel
theorem dX12_clash_23 : decode cX12_clash 23 = .ok (.ifCond .eq 13, 3) := by decide +kernel
theorem dX12_clash_26 : decode cX12_clash 26 = .ok (.aload_n 0, 1) := by decide +kernel
theorem dX12_clash_27 : decode cX12_clash 27 = .ok (.iload_n 1, 1) := by decide +kernel
theorem dX12_clash_28 : decode cX12_clash 28 = .ok (.iload_n 2, 1) := by decide +kernel
theorem dX12_clash_29 : decode cX12_clash 29 = .ok (.iload_n 3, 1) := by decide +kernel
theorem dX12_clash_30 : decode cX12_clash 30 = .ok (.invokevirtual 449, 3) := by decide +kernel
theorem dX12_clash_33 : decode cX12_clash 33 = .ok (.goto 4, 3) := by decide +kernel
theorem dX12_clash_36 : decode cX12_clash 36 = .ok (.iconst (-1), 1) := by decide +kernel
theorem dX12_clash_37 : decode cX12_clash 37 = .ok (.ireturn, 1) := by decide +kernel
def m12_clash : pMT := (yX12_clash, cX12_clash, 4, some .int)
theorem mo12_clash : mOK m12_clash 3 := ⟨tb_i 1920 (by decide +kernel), wi_RX12, ⟨wn_RX12.1, wn_RX12.2, by decide +kernel⟩, by decide, plainFor_of_name wp_RX12⟩
theorem mv12_clash : mV m12_clash := ⟨tb_i 1918 (by decide +kernel), tb_i 1919 (by decide +kernel)⟩
def f12_clash (n : Nat) (I : (Nat → Nat → Int32)) (O : (Nat → Nat → Option Nat)) (a0 : Nat) (x1 : Int32) (x2 : Int32) (x3 : Int32) : Option (Int32) := (f12_isRoll I O a0 x1).bind fun r1 => (if r1 = 0 then some (((-1) : Int32)) else (f12_isRoll I O a0 x2).bind fun r4 => (if r4 = 0 then some (((-1) : Int32)) else (f12_isIn x3 (0 : Int32) (16 : Int32)).bind fun r7 => (if r7 = 0 then some (((-1) : Int32)) else (f12_clashes n I O a0 x1 x2 x3).bind fun r10 => some (r10))))
set_option maxHeartbeats 4000000 in
set_option maxRecDepth 20000 in
theorem o12_clash {g : pG} {Qx : Option Value → pW → Prop} {Z : pZ} {I : (Nat → Nat → Int32)} {L : (Nat → Nat → Int64)} {O : (Nat → Nat → Option Nat)} {n : Nat} {a0 : Nat} {x1 : Int32} {x2 : Int32} {x3 : Int32} {res : Int32} (d : Nat) (hW : WT Z O) (hZ0 : Z[a0]? = some (12, 34)) (h : f12_clash n I O a0 x1 x2 x3 = some res) (hQ : Qx (some (.int res)) (Z, I, L, O)) : Ok g (d + 7, RX12, cX12_clash, 4, false, 0, 0, Z.length, pSl Z) Qx 0 [(0, .ref a0), (1, .int x1), (2, .int x2), (3, .int x3)] [] (Z, I, L, O) := by
  unfold f12_clash at h
  refine ok_aload_n dX12_clash_0 0 rfl ?_
  refine ok_iload_n dX12_clash_1 1 rfl ?_
  obtain ⟨r1, hr2, h⟩ := bd h
  refine ok_callV (d := ((d + 3) + 3)) (mt := m12_isRoll) (mc := 0) (ms := 0) (As := [.int x1]) (r := []) dX12_clash_2 mo12_isRoll mv12_isRoll lkRX12_79 rfl hZ0 (q := (RX12, TX12, 34)) rfl rfl rfl (Nat.le_of_ble_eq_true rfl) (by show _ + 1 ≤ d + _; omega) (Nat.le_refl _) (Nat.le_refl _) (pRt_mono ?_)
  refine k12_isRoll (d + 3) hW hZ0 hr2 ?_
  intro hbr1
  show Ok g _ Qx 5 [(0, .ref a0), (1, .int x1), (2, .int x2), (3, .int x3)] [.int r1] (Z, I, L, O)
  refine ok_if_eq (t := 36) dX12_clash_5 (by decide) (fun hc3 => ?_) (fun hc3 => ?_)
  · have h := (if_pos hc3).symm.trans h
    refine ok_iconst (v := (-1)) dX12_clash_36 (by decide) ?_
    cases h
    exact ok_iret dX12_clash_37 hQ
  · have h := (if_neg hc3).symm.trans h
    refine ok_aload_n dX12_clash_8 0 rfl ?_
    refine ok_iload_n dX12_clash_9 2 rfl ?_
    obtain ⟨r4, hr5, h⟩ := bd h
    refine ok_callV (d := ((d + 3) + 3)) (mt := m12_isRoll) (mc := 0) (ms := 0) (As := [.int x2]) (r := []) dX12_clash_10 mo12_isRoll mv12_isRoll lkRX12_79 rfl hZ0 (q := (RX12, TX12, 34)) rfl rfl rfl (Nat.le_of_ble_eq_true rfl) (by show _ + 1 ≤ d + _; omega) (Nat.le_refl _) (Nat.le_refl _) (pRt_mono ?_)
    refine k12_isRoll (d + 3) hW hZ0 hr5 ?_
    intro hbr4
    show Ok g _ Qx 13 [(0, .ref a0), (1, .int x1), (2, .int x2), (3, .int x3)] [.int r4] (Z, I, L, O)
    refine ok_if_eq (t := 36) dX12_clash_13 (by decide) (fun hc6 => ?_) (fun hc6 => ?_)
    · have h := (if_pos hc6).symm.trans h
      refine ok_iconst (v := (-1)) dX12_clash_36 (by decide) ?_
      cases h
      exact ok_iret dX12_clash_37 hQ
    · have h := (if_neg hc6).symm.trans h
      refine ok_iload_n dX12_clash_16 3 rfl ?_
      refine ok_iconst (v := 0) dX12_clash_17 (by decide) ?_
      refine ok_bipush (v := 16) dX12_clash_18 (by decide) ?_
      obtain ⟨r7, hr8, h⟩ := bd h
      refine ok_callS (d := ((d + 4) + 2)) (mt := m12_isIn) (mc := 0) (ms := 0) (As := [.int x3, .int 0, .int 16]) (r := []) dX12_clash_20 mo12_isIn mv12_isIn lkRX12_75 rfl rfl (Nat.le_of_ble_eq_true rfl) (by show _ + 1 ≤ d + _; omega) (Nat.le_refl _) (Nat.le_refl _) (pRt_mono ?_)
      refine k12_isIn (d + 4) hW  hr8 ?_
      intro hbr7
      show Ok g _ Qx 23 [(0, .ref a0), (1, .int x1), (2, .int x2), (3, .int x3)] [.int r7] (Z, I, L, O)
      refine ok_if_eq (t := 36) dX12_clash_23 (by decide) (fun hc9 => ?_) (fun hc9 => ?_)
      · have h := (if_pos hc9).symm.trans h
        refine ok_iconst (v := (-1)) dX12_clash_36 (by decide) ?_
        cases h
        exact ok_iret dX12_clash_37 hQ
      · have h := (if_neg hc9).symm.trans h
        refine ok_aload_n dX12_clash_26 0 rfl ?_
        refine ok_iload_n dX12_clash_27 1 rfl ?_
        refine ok_iload_n dX12_clash_28 2 rfl ?_
        refine ok_iload_n dX12_clash_29 3 rfl ?_
        obtain ⟨r10, hr11, h⟩ := bd h
        refine ok_callV (d := ((d + 0) + 6)) (mt := m12_clashes) (mc := 0) (ms := 0) (As := [.int x1, .int x2, .int x3]) (r := []) dX12_clash_30 mo12_clashes mv12_clashes lkRX12_449 rfl hZ0 (q := (RX12, TX12, 34)) rfl rfl rfl (Nat.le_of_ble_eq_true rfl) (by show _ + 1 ≤ d + _; omega) (Nat.le_refl _) (Nat.le_refl _) (pRt_mono ?_)
        refine k12_clashes (d + 0) hW hZ0 hr11 ?_
        intro _
        show Ok g _ Qx 33 [(0, .ref a0), (1, .int x1), (2, .int x2), (3, .int x3)] [.int r10] (Z, I, L, O)
        refine ok_goto (t := 37) dX12_clash_33 (by decide) ?_
        cases h
        exact ok_iret dX12_clash_37 hQ
theorem k12_clash {g : pG} {Q : Option Value → pW → Prop} {Z : pZ} {I : (Nat → Nat → Int32)} {L : (Nat → Nat → Int64)} {O : (Nat → Nat → Option Nat)} {n : Nat} {a0 : Nat} {x1 : Int32} {x2 : Int32} {x3 : Int32} {res : Int32} (d : Nat) (hW : WT Z O) (hZ0 : Z[a0]? = some (12, 34)) (h : f12_clash n I O a0 x1 x2 x3 = some res) (hQ : Q (some (.int res)) (Z, I, L, O)) : CT g (d + 7) m12_clash 0 0 [.ref a0, .int x1, .int x2, .int x3] (Z, I, L, O) Q :=
  ct_of_ok (mt := m12_clash) (ini := false) mo12_clash.2.2.2.2 (fun h => by cases h) (Nat.le_of_ble_eq_true rfl) (o12_clash d hW hZ0 h ⟨trivial, hQ, rfl, rfl⟩)
theorem dX12_together_0 : decode cX12_together 0 = .ok (.aload_n 0, 1) := by decide +kernel
theorem dX12_together_1 : decode cX12_together 1 = .ok (.iload_n 1, 1) := by decide +kernel
theorem dX12_together_2 : decode cX12_together 2 = .ok (.invokevirtual 79, 3) := by decide +kernel
theorem dX12_together_5 : decode cX12_together 5 = .ok (.ifCond .eq 11, 3) := by decide +kernel
theorem dX12_together_8 : decode cX12_together 8 = .ok (.aload_n 0, 1) := by decide +kernel
theorem dX12_together_9 : decode cX12_together 9 = .ok (.iload_n 2, 1) := by decide +kernel
theorem dX12_together_10 : decode cX12_together 10 = .ok (.invokevirtual 79, 3) := by decide +kernel
theorem dX12_together_13 : decode cX12_together 13 = .ok (.ifCond .ne 5, 3) := by decide +kernel
theorem dX12_together_16 : decode cX12_together 16 = .ok (.iconst (-1), 1) := by decide +kernel
theorem dX12_together_17 : decode cX12_together 17 = .ok (.ireturn, 1) := by decide +kernel
theorem dX12_together_18 : decode cX12_together 18 = .ok (.iconst 0, 1) := by decide +kernel
theorem dX12_together_19 : decode cX12_together 19 = .ok (.istore_n 3, 1) := by decide +kernel
theorem dX12_together_20 : decode cX12_together 20 = .ok (.iconst 1, 1) := by decide +kernel
theorem dX12_together_21 : decode cX12_together 21 = .ok (.istore 4, 2) := by decide +kernel
theorem dX12_together_23 : decode cX12_together 23 = .ok (.iload 4, 2) := by decide +kernel
theorem dX12_together_25 : decode cX12_together 25 = .ok (.bipush 16, 2) := by decide +kernel
theorem dX12_together_27 : decode cX12_together 27 = .ok (.if_icmp .gt 30, 3) := by decide +kernel
theorem dX12_together_30 : decode cX12_together 30 = .ok (.aload_n 0, 1) := by decide +kernel
theorem dX12_together_31 : decode cX12_together 31 = .ok (.iload_n 1, 1) := by decide +kernel
theorem dX12_together_32 : decode cX12_together 32 = .ok (.iload_n 2, 1) := by decide +kernel
theorem dX12_together_33 : decode cX12_together 33 = .ok (.iload 4, 2) := by decide +kernel
theorem dX12_together_35 : decode cX12_together 35 = .ok (.invokevirtual 449, 3) := by decide +kernel
theorem dX12_together_38 : decode cX12_together 38 = .ok (.aload_n 0, 1) := by decide +kernel
theorem dX12_together_39 : decode cX12_together 39 = .ok (.iload_n 1, 1) := by decide +kernel
theorem dX12_together_40 : decode cX12_together 40 = .ok (.iload_n 2, 1) := by decide +kernel
theorem dX12_together_41 : decode cX12_together 41 = .ok (.iload_n 3, 1) := by decide +kernel
theorem dX12_together_42 : decode cX12_together 42 = .ok (.invokevirtual 449, 3) := by decide +kernel
theorem dX12_together_45 : decode cX12_together 45 = .ok (.if_icmp .ge 6, 3) := by decide +kernel
theorem dX12_together_48 : decode cX12_together 48 = .ok (.iload 4, 2) := by decide +kernel
theorem dX12_together_50 : decode cX12_together 50 = .ok (.istore_n 3, 1) := by decide +kernel
theorem dX12_together_51 : decode cX12_together 51 = .ok (.iinc 4 1, 3) := by decide +kernel
theorem dX12_together_54 : decode cX12_together 54 = .ok (.goto (-31), 3) := by decide +kernel
theorem dX12_together_57 : decode cX12_together 57 = .ok (.iload_n 3, 1) := by decide +kernel
theorem dX12_together_58 : decode cX12_together 58 = .ok (.ireturn, 1) := by decide +kernel
def m12_together : pMT := (yX12_together, cX12_together, 5, some .int)
theorem mo12_together : mOK m12_together 2 := ⟨tb_i 1928 (by decide +kernel), wi_RX12, ⟨wn_RX12.1, wn_RX12.2, by decide +kernel⟩, by decide, plainFor_of_name wp_RX12⟩
theorem mv12_together : mV m12_together := ⟨tb_i 1926 (by decide +kernel), tb_i 1927 (by decide +kernel)⟩
def f12_together_c23 (n : Nat) (I : (Nat → Nat → Int32)) (O : (Nat → Nat → Option Nat)) : Nat → Nat → Int32 → Int32 → Int32 → Int32 → Option (Int32)
  | 0, _, _, _, _, _ => none
  | m + 1, b0, y1, y2, y3, y4 => (if (16 : Int32) < y4 then some (y3) else (f12_clashes n I O b0 y1 y2 y4).bind fun r2 => (f12_clashes n I O b0 y1 y2 y3).bind fun r4 => (if r4 ≤ r2 then f12_together_c23 n I O m b0 y1 y2 y3 (y4 + 1) else f12_together_c23 n I O m b0 y1 y2 y4 (y4 + 1)))
set_option maxHeartbeats 4000000 in
set_option maxRecDepth 20000 in
theorem o12_together_c23 {g : pG} {Qx : Option Value → pW → Prop} {Z : pZ} {I : (Nat → Nat → Int32)} {L : (Nat → Nat → Int64)} {O : (Nat → Nat → Option Nat)} {n : Nat} {res : Int32} (d : Nat) (hW : WT Z O) (hQ : Qx (some (.int res)) (Z, I, L, O)) : ∀ (m : Nat) (b0 : Nat) (y1 : Int32) (y2 : Int32) (y3 : Int32) (y4 : Int32), (Z[b0]? = some (12, 34)) → f12_together_c23 n I O m b0 y1 y2 y3 y4 = some res → Ok g (d + 7, RX12, cX12_together, 5, false, 0, 0, Z.length, pSl Z) Qx 23 [(0, .ref b0), (1, .int y1), (2, .int y2), (3, .int y3), (4, .int y4)] [] (Z, I, L, O) := by
  intro m
  induction m with
  | zero => intro b0 y1 y2 y3 y4 hZ_b0 h; rw [f12_together_c23] at h; cases h
  | succ m ih =>
    intro b0 y1 y2 y3 y4 hZ_b0 h
    rw [f12_together_c23] at h
    refine ok_iload dX12_together_23 4 rfl ?_
    refine ok_bipush (v := 16) dX12_together_25 (by decide) ?_
    refine ok_icmp_gt (t := 57) dX12_together_27 (by decide) (fun hc1 => ?_) (fun hc1 => ?_)
    · have h := (if_pos hc1).symm.trans h
      refine ok_iload_n dX12_together_57 3 rfl ?_
      cases h
      exact ok_iret dX12_together_58 hQ
    · have h := (if_neg hc1).symm.trans h
      refine ok_aload_n dX12_together_30 0 rfl ?_
      refine ok_iload_n dX12_together_31 1 rfl ?_
      refine ok_iload_n dX12_together_32 2 rfl ?_
      refine ok_iload dX12_together_33 4 rfl ?_
      obtain ⟨r2, hr3, h⟩ := bd h
      refine ok_callV (d := ((d + 0) + 6)) (mt := m12_clashes) (mc := 0) (ms := 0) (As := [.int y1, .int y2, .int y4]) (r := []) dX12_together_35 mo12_clashes mv12_clashes lkRX12_449 rfl hZ_b0 (q := (RX12, TX12, 34)) rfl rfl rfl (Nat.le_of_ble_eq_true rfl) (by show _ + 1 ≤ d + _; omega) (Nat.le_refl _) (Nat.le_refl _) (pRt_mono ?_)
      refine k12_clashes (d + 0) hW hZ_b0 hr3 ?_
      intro _
      show Ok g _ Qx 38 [(0, .ref b0), (1, .int y1), (2, .int y2), (3, .int y3), (4, .int y4)] [.int r2] (Z, I, L, O)
      refine ok_aload_n dX12_together_38 0 rfl ?_
      refine ok_iload_n dX12_together_39 1 rfl ?_
      refine ok_iload_n dX12_together_40 2 rfl ?_
      refine ok_iload_n dX12_together_41 3 rfl ?_
      obtain ⟨r4, hr5, h⟩ := bd h
      refine ok_callV (d := ((d + 0) + 6)) (mt := m12_clashes) (mc := 0) (ms := 0) (As := [.int y1, .int y2, .int y3]) (r := [.int r2]) dX12_together_42 mo12_clashes mv12_clashes lkRX12_449 rfl hZ_b0 (q := (RX12, TX12, 34)) rfl rfl rfl (Nat.le_of_ble_eq_true rfl) (by show _ + 1 ≤ d + _; omega) (Nat.le_refl _) (Nat.le_refl _) (pRt_mono ?_)
      refine k12_clashes (d + 0) hW hZ_b0 hr5 ?_
      intro _
      show Ok g _ Qx 45 [(0, .ref b0), (1, .int y1), (2, .int y2), (3, .int y3), (4, .int y4)] [.int r4, .int r2] (Z, I, L, O)
      refine ok_icmp_ge (t := 51) dX12_together_45 (by decide) (fun hc6 => ?_) (fun hc6 => ?_)
      · have h := (if_pos hc6).symm.trans h
        refine ok_iinc (u := (y4 + 1)) (l' := [(4, .int (y4 + 1)), (0, .ref b0), (1, .int y1), (2, .int y2), (3, .int y3)]) dX12_together_51 4 rfl rfl (Nat.le_of_ble_eq_true rfl) rfl ?_
        refine ok_goto (t := 23) dX12_together_54 (by decide) ?_
        refine ok_sub [1, 2, 3, 4, 0] rfl ?_
        exact ih b0 y1 y2 y3 (y4 + 1) hZ_b0 h
      · have h := (if_neg hc6).symm.trans h
        refine ok_iload dX12_together_48 4 rfl ?_
        refine ok_istore_n (l' := [(3, .int y4), (0, .ref b0), (1, .int y1), (2, .int y2), (4, .int y4)]) dX12_together_50 rfl (Nat.le_of_ble_eq_true rfl) rfl ?_
        refine ok_iinc (u := (y4 + 1)) (l' := [(4, .int (y4 + 1)), (3, .int y4), (0, .ref b0), (1, .int y1), (2, .int y2)]) dX12_together_51 4 rfl rfl (Nat.le_of_ble_eq_true rfl) rfl ?_
        refine ok_goto (t := 23) dX12_together_54 (by decide) ?_
        refine ok_sub [2, 3, 4, 1, 0] rfl ?_
        exact ih b0 y1 y2 y4 (y4 + 1) hZ_b0 h
def f12_together (n : Nat) (I : (Nat → Nat → Int32)) (O : (Nat → Nat → Option Nat)) (a0 : Nat) (x1 : Int32) (x2 : Int32) : Option (Int32) := (f12_isRoll I O a0 x1).bind fun r1 => (if r1 = 0 then some (((-1) : Int32)) else (f12_isRoll I O a0 x2).bind fun r4 => (if r4 = 0 then some (((-1) : Int32)) else f12_together_c23 n I O n a0 x1 x2 (0 : Int32) (1 : Int32)))
set_option maxHeartbeats 4000000 in
set_option maxRecDepth 20000 in
theorem o12_together {g : pG} {Qx : Option Value → pW → Prop} {Z : pZ} {I : (Nat → Nat → Int32)} {L : (Nat → Nat → Int64)} {O : (Nat → Nat → Option Nat)} {n : Nat} {a0 : Nat} {x1 : Int32} {x2 : Int32} {res : Int32} (d : Nat) (hW : WT Z O) (hZ0 : Z[a0]? = some (12, 34)) (h : f12_together n I O a0 x1 x2 = some res) (hQ : Qx (some (.int res)) (Z, I, L, O)) : Ok g (d + 7, RX12, cX12_together, 5, false, 0, 0, Z.length, pSl Z) Qx 0 [(0, .ref a0), (1, .int x1), (2, .int x2)] [] (Z, I, L, O) := by
  unfold f12_together at h
  refine ok_aload_n dX12_together_0 0 rfl ?_
  refine ok_iload_n dX12_together_1 1 rfl ?_
  obtain ⟨r1, hr2, h⟩ := bd h
  refine ok_callV (d := ((d + 3) + 3)) (mt := m12_isRoll) (mc := 0) (ms := 0) (As := [.int x1]) (r := []) dX12_together_2 mo12_isRoll mv12_isRoll lkRX12_79 rfl hZ0 (q := (RX12, TX12, 34)) rfl rfl rfl (Nat.le_of_ble_eq_true rfl) (by show _ + 1 ≤ d + _; omega) (Nat.le_refl _) (Nat.le_refl _) (pRt_mono ?_)
  refine k12_isRoll (d + 3) hW hZ0 hr2 ?_
  intro hbr1
  show Ok g _ Qx 5 [(0, .ref a0), (1, .int x1), (2, .int x2)] [.int r1] (Z, I, L, O)
  refine ok_if_eq (t := 16) dX12_together_5 (by decide) (fun hc3 => ?_) (fun hc3 => ?_)
  · have h := (if_pos hc3).symm.trans h
    refine ok_iconst (v := (-1)) dX12_together_16 (by decide) ?_
    cases h
    exact ok_iret dX12_together_17 hQ
  · have h := (if_neg hc3).symm.trans h
    refine ok_aload_n dX12_together_8 0 rfl ?_
    refine ok_iload_n dX12_together_9 2 rfl ?_
    obtain ⟨r4, hr5, h⟩ := bd h
    refine ok_callV (d := ((d + 3) + 3)) (mt := m12_isRoll) (mc := 0) (ms := 0) (As := [.int x2]) (r := []) dX12_together_10 mo12_isRoll mv12_isRoll lkRX12_79 rfl hZ0 (q := (RX12, TX12, 34)) rfl rfl rfl (Nat.le_of_ble_eq_true rfl) (by show _ + 1 ≤ d + _; omega) (Nat.le_refl _) (Nat.le_refl _) (pRt_mono ?_)
    refine k12_isRoll (d + 3) hW hZ0 hr5 ?_
    intro hbr4
    show Ok g _ Qx 13 [(0, .ref a0), (1, .int x1), (2, .int x2)] [.int r4] (Z, I, L, O)
    refine ok_if_ne (t := 18) dX12_together_13 (by decide) (fun hc6 => ?_) (fun hc6 => ?_)
    · have h := (if_neg hc6).symm.trans h
      refine ok_iconst (v := 0) dX12_together_18 (by decide) ?_
      refine ok_istore_n (l' := [(3, .int 0), (0, .ref a0), (1, .int x1), (2, .int x2)]) dX12_together_19 rfl (Nat.le_of_ble_eq_true rfl) rfl ?_
      refine ok_iconst (v := 1) dX12_together_20 (by decide) ?_
      refine ok_istore (l' := [(4, .int 1), (3, .int 0), (0, .ref a0), (1, .int x1), (2, .int x2)]) dX12_together_21 (Nat.le_of_ble_eq_true rfl) rfl ?_
      refine ok_sub [2, 3, 4, 1, 0] rfl ?_
      exact o12_together_c23 d hW hQ  n a0 x1 x2 (0 : Int32) (1 : Int32) hZ0 h
    · have h := (if_pos hc6).symm.trans h
      refine ok_iconst (v := (-1)) dX12_together_16 (by decide) ?_
      cases h
      exact ok_iret dX12_together_17 hQ
theorem k12_together {g : pG} {Q : Option Value → pW → Prop} {Z : pZ} {I : (Nat → Nat → Int32)} {L : (Nat → Nat → Int64)} {O : (Nat → Nat → Option Nat)} {n : Nat} {a0 : Nat} {x1 : Int32} {x2 : Int32} {res : Int32} (d : Nat) (hW : WT Z O) (hZ0 : Z[a0]? = some (12, 34)) (h : f12_together n I O a0 x1 x2 = some res) (hQ : Q (some (.int res)) (Z, I, L, O)) : CT g (d + 7) m12_together 0 0 [.ref a0, .int x1, .int x2] (Z, I, L, O) Q :=
  ct_of_ok (mt := m12_together) (ini := false) mo12_together.2.2.2.2 (fun h => by cases h) (Nat.le_of_ble_eq_true rfl) (o12_together d hW hZ0 h ⟨trivial, hQ, rfl, rfl⟩)
theorem dX12_alike_0 : decode cX12_alike 0 = .ok (.iconst (-1), 1) := by decide +kernel
theorem dX12_alike_1 : decode cX12_alike 1 = .ok (.istore_n 1, 1) := by decide +kernel
theorem dX12_alike_2 : decode cX12_alike 2 = .ok (.ldc_w 452, 3) := by decide +kernel
theorem dX12_alike_5 : decode cX12_alike 5 = .ok (.istore_n 2, 1) := by decide +kernel
theorem dX12_alike_6 : decode cX12_alike 6 = .ok (.iconst 0, 1) := by decide +kernel
theorem dX12_alike_7 : decode cX12_alike 7 = .ok (.istore_n 3, 1) := by decide +kernel
theorem dX12_alike_8 : decode cX12_alike 8 = .ok (.iload_n 3, 1) := by decide +kernel
theorem dX12_alike_9 : decode cX12_alike 9 = .ok (.aload_n 0, 1) := by decide +kernel
theorem dX12_alike_10 : decode cX12_alike 10 = .ok (.getfield 7, 3) := by decide +kernel
theorem dX12_alike_13 : decode cX12_alike 13 = .ok (.iconst 0, 1) := by decide +kernel
theorem dX12_alike_14 : decode cX12_alike 14 = .ok (.iaload, 1) := by decide +kernel
theorem dX12_alike_15 : decode cX12_alike 15 = .ok (.if_icmp .ge 60, 3) := by decide +kernel
theorem dX12_alike_18 : decode cX12_alike 18 = .ok (.iload_n 3, 1) := by decide +kernel
theorem dX12_alike_19 : decode cX12_alike 19 = .ok (.iconst 1, 1) := by decide +kernel
theorem dX12_alike_20 : decode cX12_alike 20 = .ok (.iadd, 1) := by decide +kernel
theorem dX12_alike_21 : decode cX12_alike 21 = .ok (.istore 4, 2) := by decide +kernel
theorem dX12_alike_23 : decode cX12_alike 23 = .ok (.iload 4, 2) := by decide +kernel
theorem dX12_alike_25 : decode cX12_alike 25 = .ok (.aload_n 0, 1) := by decide +kernel
theorem dX12_alike_26 : decode cX12_alike 26 = .ok (.getfield 7, 3) := by decide +kernel
theorem dX12_alike_29 : decode cX12_alike 29 = .ok (.iconst 0, 1) := by decide +kernel
theorem dX12_alike_30 : decode cX12_alike 30 = .ok (.iaload, 1) := by decide +kernel
theorem dX12_alike_31 : decode cX12_alike 31 = .ok (.if_icmp .ge 38, 3) := by decide +kernel
theorem dX12_alike_34 : decode cX12_alike 34 = .ok (.aload_n 0, 1) := by decide +kernel
theorem dX12_alike_35 : decode cX12_alike 35 = .ok (.iload_n 3, 1) := by decide +kernel
theorem dX12_alike_36 : decode cX12_alike 36 = .ok (.iload 4, 2) := by decide +kernel
theorem dX12_alike_38 : decode cX12_alike 38 = .ok (.invokevirtual 419, 3) := by decide +kernel
theorem dX12_alike_41 : decode cX12_alike 41 = .ok (.istore 5, 2) := by decide +kernel
theorem dX12_alike_43 : decode cX12_alike 43 = .ok (.iload 5, 2) := by decide +kernel
theorem dX12_alike_45 : decode cX12_alike 45 = .ok (.iload_n 2, 1) := by decide +kernel
theorem dX12_alike_46 : decode cX12_alike 46 = .ok (.if_icmp .lt 6, 3) := by decide +kernel
theorem dX12_alike_49 : decode cX12_alike 49 = .ok (.goto 14, 3) := by decide +kernel
theorem dX12_alike_52 : decode cX12_alike 52 = .ok (.iload 5, 2) := by decide +kernel
theorem dX12_alike_54 : decode cX12_alike 54 = .ok (.istore_n 2, 1) := by decide +kernel
theorem dX12_alike_55 : decode cX12_alike 55 = .ok (.bipush 10, 2) := by decide +kernel
theorem dX12_alike_57 : decode cX12_alike 57 = .ok (.iload_n 3, 1) := by decide +kernel
theorem dX12_alike_58 : decode cX12_alike 58 = .ok (.imul, 1) := by decide +kernel
theorem dX12_alike_59 : decode cX12_alike 59 = .ok (.iload 4, 2) := by decide +kernel
theorem dX12_alike_61 : decode cX12_alike 61 = .ok (.iadd, 1) := by decide +kernel
theorem dX12_alike_62 : decode cX12_alike 62 = .ok (.istore_n 1, 1) := by decide +kernel
theorem dX12_alike_63 : decode cX12_alike 63 = .ok (.iinc 4 1, 3) := by decide +kernel
theorem dX12_alike_66 : decode cX12_alike 66 = .ok (.goto (-43), 3) := by decide +kernel
theorem dX12_alike_69 : decode cX12_alike 69 = .ok (.iinc 3 1, 3) := by decide +kernel
theorem dX12_alike_72 : decode cX12_alike 72 = .ok (.goto (-64), 3) := by decide +kernel
theorem dX12_alike_75 : decode cX12_alike 75 = .ok (.iload_n 1, 1) := by decide +kernel
theorem dX12_alike_76 : decode cX12_alike 76 = .ok (.ireturn, 1) := by decide +kernel
def m12_alike : pMT := (yX12_alike, cX12_alike, 6, some .int)
theorem mo12_alike : mOK m12_alike 0 := ⟨tb_i 1932 (by decide +kernel), wi_RX12, ⟨wn_RX12.1, wn_RX12.2, by decide +kernel⟩, by decide, plainFor_of_name wp_RX12⟩
theorem mv12_alike : mV m12_alike := ⟨tb_i 1930 (by decide +kernel), tb_i 1931 (by decide +kernel)⟩
def f12_alike_c23 (n : Nat) (O : (Nat → Nat → Option Nat)) (k8 : ((Nat → Nat → Int32) → Nat → Int32 → Int32 → Int32 → Option (Int32 × (Nat → Nat → Int32)))) : Nat → (Nat → Nat → Int32) → Nat → Int32 → Int32 → Int32 → Int32 → Option (Int32 × (Nat → Nat → Int32))
  | 0, _, _, _, _, _, _ => none
  | m + 1, I, b0, y1, y2, y3, y4 => (if (I (rO O b0 0) 0) ≤ y4 then k8 I b0 y1 y2 (y3 + 1) else (f12_changesOf n I O b0 y3 y4).bind fun r3 => (if r3.1 < y2 then bl ((((10 : Int32) * y3) + y4) : Int32) fun z6 => f12_alike_c23 n O k8 m r3.2 b0 z6 r3.1 y3 (y4 + 1) else f12_alike_c23 n O k8 m r3.2 b0 y1 y2 y3 (y4 + 1)))
set_option maxHeartbeats 4000000 in
set_option maxRecDepth 20000 in
theorem o12_alike_c23 {g : pG} {Qx : Option Value → pW → Prop} {Z : pZ} {L : (Nat → Nat → Int64)} {O : (Nat → Nat → Option Nat)} {n : Nat} {k8 : ((Nat → Nat → Int32) → Nat → Int32 → Int32 → Int32 → Option (Int32 × (Nat → Nat → Int32)))} {res : Int32 × (Nat → Nat → Int32)} (d : Nat) (hW : WT Z O) (hQ : Qx (some (.int res.1)) (Z, res.2, L, O)) (hk8 : ∀ (I : (Nat → Nat → Int32)) (b0 : Nat) (y1 : Int32) (y2 : Int32) (y3 : Int32), (Z[b0]? = some (12, 34)) → k8 I b0 y1 y2 y3 = some res → Ok g (d + 5, RX12, cX12_alike, 6, false, 0, 0, Z.length, pSl Z) Qx 8 [(0, .ref b0), (1, .int y1), (2, .int y2), (3, .int y3)] [] (Z, I, L, O)) : ∀ (m : Nat) (I : (Nat → Nat → Int32)) (b0 : Nat) (y1 : Int32) (y2 : Int32) (y3 : Int32) (y4 : Int32), (Z[b0]? = some (12, 34)) → f12_alike_c23 n O k8 m I b0 y1 y2 y3 y4 = some res → Ok g (d + 5, RX12, cX12_alike, 6, false, 0, 0, Z.length, pSl Z) Qx 23 [(0, .ref b0), (1, .int y1), (2, .int y2), (3, .int y3), (4, .int y4)] [] (Z, I, L, O) := by
  intro m
  induction m with
  | zero => intro I b0 y1 y2 y3 y4 hZ_b0 h; rw [f12_alike_c23] at h; cases h
  | succ m ih =>
    intro I b0 y1 y2 y3 y4 hZ_b0 h
    rw [f12_alike_c23] at h
    refine ok_iload dX12_alike_23 4 rfl ?_
    refine ok_aload_n dX12_alike_25 0 rfl ?_
    have hT1 : Z[(rO O b0 0)]? = some (13, 4371) := (wt_f (ci := 12) (k := 0) hW hZ_b0 rfl).2
    refine ok_getR (ci := 12) (k := 0) dX12_alike_26 flRX12_7 rfl hW hZ_b0 (by decide) ?_
    refine ok_iconst (v := 0) dX12_alike_29 (by decide) ?_
    refine ok_iald2 (N := 0) dX12_alike_30 hT1 (by unfold vp_in; decide) (by decide) ?_
    refine ok_icmp_ge (t := 69) dX12_alike_31 (by decide) (fun hc2 => ?_) (fun hc2 => ?_)
    · have h := (if_pos hc2).symm.trans h
      refine ok_iinc (u := (y3 + 1)) (l' := [(3, .int (y3 + 1)), (0, .ref b0), (1, .int y1), (2, .int y2), (4, .int y4)]) dX12_alike_69 3 rfl rfl (Nat.le_of_ble_eq_true rfl) rfl ?_
      refine ok_goto (t := 8) dX12_alike_72 (by decide) ?_
      refine ok_sub [1, 2, 3, 0] rfl ?_
      exact hk8 I b0 y1 y2 (y3 + 1) hZ_b0 h
    · have h := (if_neg hc2).symm.trans h
      refine ok_aload_n dX12_alike_34 0 rfl ?_
      refine ok_iload_n dX12_alike_35 3 rfl ?_
      refine ok_iload dX12_alike_36 4 rfl ?_
      obtain ⟨r3, hr4, h⟩ := bd h
      refine ok_callV (d := ((d + 0) + 4)) (mt := m12_changesOf) (mc := 0) (ms := 0) (As := [.int y3, .int y4]) (r := []) dX12_alike_38 mo12_changesOf mv12_changesOf lkRX12_419 rfl hZ_b0 (q := (RX12, TX12, 34)) rfl rfl rfl (Nat.le_of_ble_eq_true rfl) (by show _ + 1 ≤ d + _; omega) (Nat.le_refl _) (Nat.le_refl _) (pRt_mono ?_)
      refine k12_changesOf (d + 0) hW hZ_b0 hr4 ?_
      intro _
      show Ok g _ Qx 41 [(0, .ref b0), (1, .int y1), (2, .int y2), (3, .int y3), (4, .int y4)] [.int r3.1] (Z, r3.2, L, O)
      refine ok_istore (l' := [(5, .int r3.1), (0, .ref b0), (1, .int y1), (2, .int y2), (3, .int y3), (4, .int y4)]) dX12_alike_41 (Nat.le_of_ble_eq_true rfl) rfl ?_
      refine ok_iload dX12_alike_43 0 rfl ?_
      refine ok_iload_n dX12_alike_45 3 rfl ?_
      refine ok_icmp_lt (t := 52) dX12_alike_46 (by decide) (fun hc5 => ?_) (fun hc5 => ?_)
      · have h := (if_pos hc5).symm.trans h
        refine ok_iload dX12_alike_52 0 rfl ?_
        refine ok_istore_n (l' := [(2, .int r3.1), (5, .int r3.1), (0, .ref b0), (1, .int y1), (3, .int y3), (4, .int y4)]) dX12_alike_54 rfl (Nat.le_of_ble_eq_true rfl) rfl ?_
        refine ok_bipush (v := 10) dX12_alike_55 (by decide) ?_
        refine ok_iload_n dX12_alike_57 4 rfl ?_
        refine ok_imul dX12_alike_58 ?_
        refine ok_iload dX12_alike_59 5 rfl ?_
        refine ok_iadd dX12_alike_61 ?_
        obtain ⟨z6, ez6, h⟩ := blE h
        refine ok_nm ez6 ?_
        refine ok_istore_n (l' := [(1, .int z6), (2, .int r3.1), (5, .int r3.1), (0, .ref b0), (3, .int y3), (4, .int y4)]) dX12_alike_62 rfl (Nat.le_of_ble_eq_true rfl) rfl ?_
        refine ok_iinc (u := (y4 + 1)) (l' := [(4, .int (y4 + 1)), (1, .int z6), (2, .int r3.1), (5, .int r3.1), (0, .ref b0), (3, .int y3)]) dX12_alike_63 5 rfl rfl (Nat.le_of_ble_eq_true rfl) rfl ?_
        refine ok_goto (t := 23) dX12_alike_66 (by decide) ?_
        refine ok_sub [4, 1, 2, 5, 0] rfl ?_
        exact ih r3.2 b0 z6 r3.1 y3 (y4 + 1) hZ_b0 h
      · have h := (if_neg hc5).symm.trans h
        refine ok_goto (t := 63) dX12_alike_49 (by decide) ?_
        refine ok_iinc (u := (y4 + 1)) (l' := [(4, .int (y4 + 1)), (5, .int r3.1), (0, .ref b0), (1, .int y1), (2, .int y2), (3, .int y3)]) dX12_alike_63 5 rfl rfl (Nat.le_of_ble_eq_true rfl) rfl ?_
        refine ok_goto (t := 23) dX12_alike_66 (by decide) ?_
        refine ok_sub [2, 3, 4, 5, 0] rfl ?_
        exact ih r3.2 b0 y1 y2 y3 (y4 + 1) hZ_b0 h
def f12_alike_c8 (n : Nat) (O : (Nat → Nat → Option Nat)) : Nat → (Nat → Nat → Int32) → Nat → Int32 → Int32 → Int32 → Option (Int32 × (Nat → Nat → Int32))
  | 0, _, _, _, _, _ => none
  | m + 1, I, b0, y1, y2, y3 => (if (I (rO O b0 0) 0) ≤ y3 then some (y1, I) else f12_alike_c23 n O (f12_alike_c8 n O m) n I b0 y1 y2 y3 (y3 + 1))
set_option maxHeartbeats 4000000 in
set_option maxRecDepth 20000 in
theorem o12_alike_c8 {g : pG} {Qx : Option Value → pW → Prop} {Z : pZ} {L : (Nat → Nat → Int64)} {O : (Nat → Nat → Option Nat)} {n : Nat} {res : Int32 × (Nat → Nat → Int32)} (d : Nat) (hW : WT Z O) (hQ : Qx (some (.int res.1)) (Z, res.2, L, O)) : ∀ (m : Nat) (I : (Nat → Nat → Int32)) (b0 : Nat) (y1 : Int32) (y2 : Int32) (y3 : Int32), (Z[b0]? = some (12, 34)) → f12_alike_c8 n O m I b0 y1 y2 y3 = some res → Ok g (d + 5, RX12, cX12_alike, 6, false, 0, 0, Z.length, pSl Z) Qx 8 [(0, .ref b0), (1, .int y1), (2, .int y2), (3, .int y3)] [] (Z, I, L, O) := by
  intro m
  induction m with
  | zero => intro I b0 y1 y2 y3 hZ_b0 h; rw [f12_alike_c8] at h; cases h
  | succ m ih =>
    intro I b0 y1 y2 y3 hZ_b0 h
    rw [f12_alike_c8] at h
    refine ok_iload_n dX12_alike_8 3 rfl ?_
    refine ok_aload_n dX12_alike_9 0 rfl ?_
    have hT1 : Z[(rO O b0 0)]? = some (13, 4371) := (wt_f (ci := 12) (k := 0) hW hZ_b0 rfl).2
    refine ok_getR (ci := 12) (k := 0) dX12_alike_10 flRX12_7 rfl hW hZ_b0 (by decide) ?_
    refine ok_iconst (v := 0) dX12_alike_13 (by decide) ?_
    refine ok_iald2 (N := 0) dX12_alike_14 hT1 (by unfold vp_in; decide) (by decide) ?_
    refine ok_icmp_ge (t := 75) dX12_alike_15 (by decide) (fun hc2 => ?_) (fun hc2 => ?_)
    · have h := (if_pos hc2).symm.trans h
      refine ok_iload_n dX12_alike_75 1 rfl ?_
      cases h
      exact ok_iret dX12_alike_76 hQ
    · have h := (if_neg hc2).symm.trans h
      refine ok_iload_n dX12_alike_18 3 rfl ?_
      refine ok_iconst (v := 1) dX12_alike_19 (by decide) ?_
      refine ok_iadd dX12_alike_20 ?_
      refine ok_istore (l' := [(4, .int (y3 + 1)), (0, .ref b0), (1, .int y1), (2, .int y2), (3, .int y3)]) dX12_alike_21 (Nat.le_of_ble_eq_true rfl) rfl ?_
      refine ok_sub [1, 2, 3, 4, 0] rfl ?_
      exact o12_alike_c23 d hW hQ ih n I b0 y1 y2 y3 (y3 + 1) hZ_b0 h
def f12_alike (n : Nat) (I : (Nat → Nat → Int32)) (O : (Nat → Nat → Option Nat)) (a0 : Nat) : Option (Int32 × (Nat → Nat → Int32)) := f12_alike_c8 n O n I a0 (-1 : Int32) (1000000 : Int32) (0 : Int32)
set_option maxHeartbeats 4000000 in
set_option maxRecDepth 20000 in
theorem o12_alike {g : pG} {Qx : Option Value → pW → Prop} {Z : pZ} {I : (Nat → Nat → Int32)} {L : (Nat → Nat → Int64)} {O : (Nat → Nat → Option Nat)} {n : Nat} {a0 : Nat} {res : Int32 × (Nat → Nat → Int32)} (d : Nat) (hW : WT Z O) (hZ0 : Z[a0]? = some (12, 34)) (h : f12_alike n I O a0 = some res) (hQ : Qx (some (.int res.1)) (Z, res.2, L, O)) : Ok g (d + 5, RX12, cX12_alike, 6, false, 0, 0, Z.length, pSl Z) Qx 0 [(0, .ref a0)] [] (Z, I, L, O) := by
  unfold f12_alike at h
  refine ok_iconst (v := (-1)) dX12_alike_0 (by decide) ?_
  refine ok_istore_n (l' := [(1, .int (-1)), (0, .ref a0)]) dX12_alike_1 rfl (Nat.le_of_ble_eq_true rfl) rfl ?_
  refine ok_ldcw (v := 1000000) dX12_alike_2 (tb_i (c := Cond.constant RX12 452 (1000000)) 1933 (by decide +kernel)) ?_
  refine ok_istore_n (l' := [(2, .int 1000000), (1, .int (-1)), (0, .ref a0)]) dX12_alike_5 rfl (Nat.le_of_ble_eq_true rfl) rfl ?_
  refine ok_iconst (v := 0) dX12_alike_6 (by decide) ?_
  refine ok_istore_n (l' := [(3, .int 0), (2, .int 1000000), (1, .int (-1)), (0, .ref a0)]) dX12_alike_7 rfl (Nat.le_of_ble_eq_true rfl) rfl ?_
  refine ok_sub [3, 2, 1, 0] rfl ?_
  exact o12_alike_c8 d hW hQ  n I a0 (-1 : Int32) (1000000 : Int32) (0 : Int32) hZ0 h
theorem k12_alike {g : pG} {Q : Option Value → pW → Prop} {Z : pZ} {I : (Nat → Nat → Int32)} {L : (Nat → Nat → Int64)} {O : (Nat → Nat → Option Nat)} {n : Nat} {a0 : Nat} {res : Int32 × (Nat → Nat → Int32)} (d : Nat) (hW : WT Z O) (hZ0 : Z[a0]? = some (12, 34)) (h : f12_alike n I O a0 = some res) (hQ : Q (some (.int res.1)) (Z, res.2, L, O)) : CT g (d + 5) m12_alike 0 0 [.ref a0] (Z, I, L, O) Q :=
  ct_of_ok (mt := m12_alike) (ini := false) mo12_alike.2.2.2.2 (fun h => by cases h) (Nat.le_of_ble_eq_true rfl) (o12_alike d hW hZ0 h ⟨trivial, hQ, rfl, rfl⟩)
theorem dX12_swap_0 : decode cX12_swap 0 = .ok (.aload_n 0, 1) := by decide +kernel
theorem dX12_swap_1 : decode cX12_swap 1 = .ok (.getfield 56, 3) := by decide +kernel
theorem dX12_swap_4 : decode cX12_swap 4 = .ok (.iload_n 1, 1) := by decide +kernel
theorem dX12_swap_5 : decode cX12_swap 5 = .ok (.iaload, 1) := by decide +kernel
theorem dX12_swap_6 : decode cX12_swap 6 = .ok (.istore_n 3, 1) := by decide +kernel
theorem dX12_swap_7 : decode cX12_swap 7 = .ok (.aload_n 0, 1) := by decide +kernel
theorem dX12_swap_8 : decode cX12_swap 8 = .ok (.getfield 56, 3) := by decide +kernel
theorem dX12_swap_11 : decode cX12_swap 11 = .ok (.iload_n 1, 1) := by decide +kernel
theorem dX12_swap_12 : decode cX12_swap 12 = .ok (.aload_n 0, 1) := by decide +kernel
theorem dX12_swap_13 : decode cX12_swap 13 = .ok (.getfield 56, 3) := by decide +kernel
theorem dX12_swap_16 : decode cX12_swap 16 = .ok (.iload_n 2, 1) := by decide +kernel
theorem dX12_swap_17 : decode cX12_swap 17 = .ok (.iaload, 1) := by decide +kernel
theorem dX12_swap_18 : decode cX12_swap 18 = .ok (.iastore, 1) := by decide +kernel
theorem dX12_swap_19 : decode cX12_swap 19 = .ok (.aload_n 0, 1) := by decide +kernel
theorem dX12_swap_20 : decode cX12_swap 20 = .ok (.getfield 56, 3) := by decide +kernel
theorem dX12_swap_23 : decode cX12_swap 23 = .ok (.iload_n 2, 1) := by decide +kernel
theorem dX12_swap_24 : decode cX12_swap 24 = .ok (.iload_n 3, 1) := by decide +kernel
theorem dX12_swap_25 : decode cX12_swap 25 = .ok (.iastore, 1) := by decide +kernel
theorem dX12_swap_26 : decode cX12_swap 26 = .ok (.return_, 1) := by decide +kernel
def m12_swap : pMT := (yX12_swap, cX12_swap, 4, none)
theorem mo12_swap : mOK m12_swap 2 := ⟨tb_i 1953 (by decide +kernel), wi_RX12, ⟨wn_RX12.1, wn_RX12.2, by decide +kernel⟩, by decide, plainFor_of_name wp_RX12⟩
theorem mv12_swap : mV m12_swap := ⟨tb_i 1952 (by decide +kernel), tb_p 135 (by decide +kernel)⟩
def f12_swap (I : (Nat → Nat → Int32)) (O : (Nat → Nat → Option Nat)) (a0 : Nat) (x1 : Int32) (x2 : Int32) : Option ((Nat → Nat → Int32)) := (if x1 < 0 ∨ 5 ≤ x1.toNatClampNeg then none else bl ((I (rO O a0 28) x1.toNatClampNeg) : Int32) fun z3 => (if x2 < 0 ∨ 5 ≤ x2.toNatClampNeg then none else (if x1 < 0 ∨ 5 ≤ x1.toNatClampNeg then none else bl (sI I (rO O a0 28) x1.toNatClampNeg (I (rO O a0 28) x2.toNatClampNeg)) fun I6 => (if x2 < 0 ∨ 5 ≤ x2.toNatClampNeg then none else bl (sI I6 (rO O a0 28) x2.toNatClampNeg z3) fun I8 => some (I8)))))
set_option maxHeartbeats 4000000 in
set_option maxRecDepth 20000 in
theorem o12_swap {g : pG} {Qx : Option Value → pW → Prop} {Z : pZ} {I : (Nat → Nat → Int32)} {L : (Nat → Nat → Int64)} {O : (Nat → Nat → Option Nat)} {a0 : Nat} {x1 : Int32} {x2 : Int32} {res : (Nat → Nat → Int32)} (d : Nat) (hW : WT Z O) (hZ0 : Z[a0]? = some (12, 34)) (h : f12_swap I O a0 x1 x2 = some res) (hQ : Qx none (Z, res, L, O)) : Ok g (d + 2, RX12, cX12_swap, 4, false, 0, 0, Z.length, pSl Z) Qx 0 [(0, .ref a0), (1, .int x1), (2, .int x2)] [] (Z, I, L, O) := by
  unfold f12_swap at h
  refine ok_aload_n dX12_swap_0 0 rfl ?_
  have hT1 : Z[(rO O a0 28)]? = some (13, 5) := (wt_f (ci := 12) (k := 28) hW hZ0 rfl).2
  refine ok_getR (ci := 12) (k := 28) dX12_swap_1 flRX12_56 rfl hW hZ0 (by decide) ?_
  refine ok_iload_n dX12_swap_4 1 rfl ?_
  obtain ⟨hg2, h⟩ := gd h
  refine ok_iald2 (N := x1.toNatClampNeg) dX12_swap_5 hT1 hg2 rfl ?_
  obtain ⟨z3, ez3, h⟩ := blE h
  refine ok_nm ez3 ?_
  refine ok_istore_n (l' := [(3, .int z3), (0, .ref a0), (1, .int x1), (2, .int x2)]) dX12_swap_6 rfl (Nat.le_of_ble_eq_true rfl) rfl ?_
  refine ok_aload_n dX12_swap_7 1 rfl ?_
  refine ok_getR (ci := 12) (k := 28) dX12_swap_8 flRX12_56 rfl hW hZ0 (by decide) ?_
  refine ok_iload_n dX12_swap_11 2 rfl ?_
  refine ok_aload_n dX12_swap_12 1 rfl ?_
  refine ok_getR (ci := 12) (k := 28) dX12_swap_13 flRX12_56 rfl hW hZ0 (by decide) ?_
  refine ok_iload_n dX12_swap_16 3 rfl ?_
  obtain ⟨hg4, h⟩ := gd h
  refine ok_iald2 (N := x2.toNatClampNeg) dX12_swap_17 hT1 hg4 rfl ?_
  obtain ⟨hg5, h⟩ := gd h
  obtain ⟨I6, eI6, h⟩ := blE h
  refine ok_iast3 dX12_swap_18 hT1 hg5 rfl eI6 ?_
  refine ok_aload_n dX12_swap_19 1 rfl ?_
  refine ok_getR (ci := 12) (k := 28) dX12_swap_20 flRX12_56 rfl hW hZ0 (by decide) ?_
  refine ok_iload_n dX12_swap_23 3 rfl ?_
  refine ok_iload_n dX12_swap_24 0 rfl ?_
  obtain ⟨hg7, h⟩ := gd h
  obtain ⟨I8, eI8, h⟩ := blE h
  refine ok_iast3 dX12_swap_25 hT1 hg7 rfl eI8 ?_
  cases h
  exact ok_vret dX12_swap_26 hQ
theorem k12_swap {g : pG} {Q : Option Value → pW → Prop} {Z : pZ} {I : (Nat → Nat → Int32)} {L : (Nat → Nat → Int64)} {O : (Nat → Nat → Option Nat)} {a0 : Nat} {x1 : Int32} {x2 : Int32} {res : (Nat → Nat → Int32)} (d : Nat) (hW : WT Z O) (hZ0 : Z[a0]? = some (12, 34)) (h : f12_swap I O a0 x1 x2 = some res) (hQ : Q none (Z, res, L, O)) : CT g (d + 2) m12_swap 0 0 [.ref a0, .int x1, .int x2] (Z, I, L, O) Q :=
  ct_of_ok (mt := m12_swap) (ini := false) mo12_swap.2.2.2.2 (fun h => by cases h) (Nat.le_of_ble_eq_true rfl) (o12_swap d hW hZ0 h ⟨trivial, hQ, rfl, rfl⟩)
theorem dX12_isNextOrder_0 : decode cX12_isNextOrder 0 = .ok (.iload_n 1, 1) := by decide +kernel
theorem dX12_isNextOrder_1 : decode cX12_isNextOrder 1 = .ok (.iconst 2, 1) := by decide +kernel
theorem dX12_isNextOrder_2 : decode cX12_isNextOrder 2 = .ok (.isub, 1) := by decide +kernel
theorem dX12_isNextOrder_3 : decode cX12_isNextOrder 3 = .ok (.istore_n 2, 1) := by decide +kernel
theorem dX12_isNextOrder_4 : decode cX12_isNextOrder 4 = .ok (.iload_n 2, 1) := by decide +kernel
theorem dX12_isNextOrder_5 : decode cX12_isNextOrder 5 = .ok (.ifCond .lt 26, 3) := by decide +kernel
theorem dX12_isNextOrder_8 : decode cX12_isNextOrder 8 = .ok (.aload_n 0, 1) := by decide +kernel
theorem dX12_isNextOrder_9 : decode cX12_isNextOrder 9 = .ok (.getfield 56, 3) := by decide +kernel
theorem dX12_isNextOrder_12 : decode cX12_isNextOrder 12 = .ok (.iload_n 2, 1) := by decide +kernel
theorem dX12_isNextOrder_13 : decode cX12_isNextOrder 13 = .ok (.iaload, 1) := by decide +kernel
theorem dX12_isNextOrder_14 : decode cX12_isNextOrder 14 = .ok (.aload_n 0, 1) := by decide +kernel
theorem dX12_isNextOrder_15 : decode cX12_isNextOrder 15 = .ok (.getfield 56, 3) := by decide +kernel
theorem dX12_isNextOrder_18 : decode cX12_isNextOrder 18 = .ok (.iload_n 2, 1) := by decide +kernel
theorem dX12_isNextOrder_19 : decode cX12_isNextOrder 19 = .ok (.iconst 1, 1) := by decide +kernel
theorem dX12_isNextOrder_20 : decode cX12_isNextOrder 20 = .ok (.iadd, 1) := by decide +kernel
theorem dX12_isNextOrder_21 : decode cX12_isNextOrder 21 = .ok (.iaload, 1) := by decide +kernel
theorem dX12_isNextOrder_22 : decode cX12_isNextOrder 22 = .ok (.if_icmp .le 9, 3) := by decide +kernel
theorem dX12_isNextOrder_25 : decode cX12_isNextOrder 25 = .ok (.iinc 2 (-1), 3) := by decide +kernel
theorem dX12_isNextOrder_28 : decode cX12_isNextOrder 28 = .ok (.goto (-24), 3) := by decide +kernel
theorem dX12_isNextOrder_31 : decode cX12_isNextOrder 31 = .ok (.iload_n 2, 1) := by decide +kernel
theorem dX12_isNextOrder_32 : decode cX12_isNextOrder 32 = .ok (.ifCond .ge 5, 3) := by decide +kernel
theorem dX12_isNextOrder_35 : decode cX12_isNextOrder 35 = .ok (.iconst 0, 1) := by decide +kernel
theorem dX12_isNextOrder_36 : decode cX12_isNextOrder 36 = .ok (.ireturn, 1) := by decide +kernel
theorem dX12_isNextOrder_37 : decode cX12_isNextOrder 37 = .ok (.iload_n 1, 1) := by decide +kernel
theorem dX12_isNextOrder_38 : decode cX12_isNextOrder 38 = .ok (.iconst 1, 1) := by decide +kernel
theorem dX12_isNextOrder_39 : decode cX12_isNextOrder 39 = .ok (.isub, 1) := by decide +kernel
theorem dX12_isNextOrder_40 : decode cX12_isNextOrder 40 = .ok (.istore_n 3, 1) := by decide +kernel
theorem dX12_isNextOrder_41 : decode cX12_isNextOrder 41 = .ok (.aload_n 0, 1) := by decide +kernel
theorem dX12_isNextOrder_42 : decode cX12_isNextOrder 42 = .ok (.getfield 56, 3) := by decide +kernel
theorem dX12_isNextOrder_45 : decode cX12_isNextOrder 45 = .ok (.iload_n 3, 1) := by decide +kernel
theorem dX12_isNextOrder_46 : decode cX12_isNextOrder 46 = .ok (.iaload, 1) := by decide +kernel
theorem dX12_isNextOrder_47 : decode cX12_isNextOrder 47 = .ok (.aload_n 0, 1) := by decide +kernel
theorem dX12_isNextOrder_48 : decode cX12_isNextOrder 48 = .ok (.getfield 56, 3) := by decide +kernel
theorem dX12_isNextOrder_51 : decode cX12_isNextOrder 51 = .ok (.iload_n 2, 1) := by decide +kernel
theorem dX12_isNextOrder_52 : decode cX12_isNextOrder 52 = .ok (.iaload, 1) := by decide +kernel
theorem dX12_isNextOrder_53 : decode cX12_isNextOrder 53 = .ok (.if_icmp .ge 9, 3) := by decide +kernel
theorem dX12_isNextOrder_56 : decode cX12_isNextOrder 56 = .ok (.iinc 3 (-1), 3) := by decide +kernel
theorem dX12_isNextOrder_59 : decode cX12_isNextOrder 59 = .ok (.goto (-18), 3) := by decide +kernel
theorem dX12_isNextOrder_62 : decode cX12_isNextOrder 62 = .ok (.aload_n 0, 1) := by decide +kernel
theorem dX12_isNextOrder_63 : decode cX12_isNextOrder 63 = .ok (.iload_n 2, 1) := by decide +kernel
theorem dX12_isNextOrder_64 : decode cX12_isNextOrder 64 = .ok (.iload_n 3, 1) := by decide +kernel
theorem dX12_isNextOrder_65 : decode cX12_isNextOrder 65 = .ok (.invokevirtual 453, 3) := by decide +kernel
theorem dX12_isNextOrder_68 : decode cX12_isNextOrder 68 = .ok (.iload_n 1, 1) := by decide +kernel
theorem dX12_isNextOrder_69 : decode cX12_isNextOrder 69 = .ok (.iconst 1, 1) := by decide +kernel
theorem dX12_isNextOrder_70 : decode cX12_isNextOrder 70 = .ok (.isub, 1) := by decide +kernel
theorem dX12_isNextOrder_71 : decode cX12_isNextOrder 71 = .ok (.istore 4, 2) := by decide +kernel
theorem dX12_isNextOrder_73 : decode cX12_isNextOrder 73 = .ok (.iload_n 2, 1) := by decide +kernel
theorem dX12_isNextOrder_74 : decode cX12_isNextOrder 74 = .ok (.iconst 1, 1) := by decide +kernel
theorem dX12_isNextOrder_75 : decode cX12_isNextOrder 75 = .ok (.iadd, 1) := by decide +kernel
theorem dX12_isNextOrder_76 : decode cX12_isNextOrder 76 = .ok (.istore 5, 2) := by decide +kernel
theorem dX12_isNextOrder_78 : decode cX12_isNextOrder 78 = .ok (.iload 5, 2) := by decide +kernel
theorem dX12_isNextOrder_80 : decode cX12_isNextOrder 80 = .ok (.iload 4, 2) := by decide +kernel
theorem dX12_isNextOrder_82 : decode cX12_isNextOrder 82 = .ok (.if_icmp .ge 20, 3) := by decide +kernel
theorem dX12_isNextOrder_85 : decode cX12_isNextOrder 85 = .ok (.aload_n 0, 1) := by decide +kernel
theorem dX12_isNextOrder_86 : decode cX12_isNextOrder 86 = .ok (.iload 5, 2) := by decide +kernel
theorem dX12_isNextOrder_88 : decode cX12_isNextOrder 88 = .ok (.iload 4, 2) := by decide +kernel
theorem dX12_isNextOrder_90 : decode cX12_isNextOrder 90 = .ok (.invokevirtual 453, 3) := by decide +kernel
theorem dX12_isNextOrder_93 : decode cX12_isNextOrder 93 = .ok (.iinc 4 (-1), 3) := by decide +kernel
theorem dX12_isNextOrder_96 : decode cX12_isNextOrder 96 = .ok (.iinc 5 1, 3) := by decide +kernel
theorem dX12_isNextOrder_99 : decode cX12_isNextOrder 99 = .ok (.goto (-21), 3) := by decide +kernel
theorem dX12_isNextOrder_102 : decode cX12_isNextOrder 102 = .ok (.iconst 1, 1) := by decide +kernel
theorem dX12_isNextOrder_103 : decode cX12_isNextOrder 103 = .ok (.ireturn, 1) := by decide +kernel
def m12_isNextOrder : pMT := (yX12_isNextOrder, cX12_isNextOrder, 6, some .boolean)
theorem mo12_isNextOrder : mOK m12_isNextOrder 1 := ⟨tb_i 1949 (by decide +kernel), wi_RX12, ⟨wn_RX12.1, wn_RX12.2, by decide +kernel⟩, by decide, plainFor_of_name wp_RX12⟩
theorem mv12_isNextOrder : mV m12_isNextOrder := ⟨tb_i 1948 (by decide +kernel), tb_p 134 (by decide +kernel)⟩
def f12_isNextOrder_c78 (n : Nat) (O : (Nat → Nat → Option Nat)) : Nat → (Nat → Nat → Int32) → Nat → Int32 → Int32 → Option (Int32 × (Nat → Nat → Int32))
  | 0, _, _, _, _ => none
  | m + 1, I, b0, y4, y5 => (if y4 ≤ y5 then some ((1 : Int32), I) else (f12_swap I O b0 y5 y4).bind fun r2 => f12_isNextOrder_c78 n O m r2 b0 (y4 + (-1)) (y5 + 1))
set_option maxHeartbeats 4000000 in
set_option maxRecDepth 20000 in
theorem o12_isNextOrder_c78 {g : pG} {Qx : Option Value → pW → Prop} {Z : pZ} {L : (Nat → Nat → Int64)} {O : (Nat → Nat → Option Nat)} {n : Nat} {res : Int32 × (Nat → Nat → Int32)} (d : Nat) (hW : WT Z O) (hQ : (res.1 = 0 ∨ res.1 = 1) → Qx (some (.int res.1)) (Z, res.2, L, O)) : ∀ (m : Nat) (I : (Nat → Nat → Int32)) (b0 : Nat) (y4 : Int32) (y5 : Int32), (Z[b0]? = some (12, 34)) → f12_isNextOrder_c78 n O m I b0 y4 y5 = some res → Ok g (d + 3, RX12, cX12_isNextOrder, 6, false, 0, 0, Z.length, pSl Z) Qx 78 [(0, .ref b0), (4, .int y4), (5, .int y5)] [] (Z, I, L, O) := by
  intro m
  induction m with
  | zero => intro I b0 y4 y5 hZ_b0 h; rw [f12_isNextOrder_c78] at h; cases h
  | succ m ih =>
    intro I b0 y4 y5 hZ_b0 h
    rw [f12_isNextOrder_c78] at h
    refine ok_iload dX12_isNextOrder_78 2 rfl ?_
    refine ok_iload dX12_isNextOrder_80 1 rfl ?_
    refine ok_icmp_ge (t := 102) dX12_isNextOrder_82 (by decide) (fun hc1 => ?_) (fun hc1 => ?_)
    · have h := (if_pos hc1).symm.trans h
      refine ok_iconst (v := 1) dX12_isNextOrder_102 (by decide) ?_
      cases h
      exact ok_iret dX12_isNextOrder_103 (hQ (Or.inr rfl))
    · have h := (if_neg hc1).symm.trans h
      refine ok_aload_n dX12_isNextOrder_85 0 rfl ?_
      refine ok_iload dX12_isNextOrder_86 2 rfl ?_
      refine ok_iload dX12_isNextOrder_88 1 rfl ?_
      obtain ⟨r2, hr3, h⟩ := bd h
      refine ok_callV (d := ((d + 0) + 2)) (mt := m12_swap) (mc := 0) (ms := 0) (As := [.int y5, .int y4]) (r := []) dX12_isNextOrder_90 mo12_swap mv12_swap lkRX12_453 rfl hZ_b0 (q := (RX12, TX12, 34)) rfl rfl rfl (Nat.le_of_ble_eq_true rfl) (by show _ + 1 ≤ d + _; omega) (Nat.le_refl _) (Nat.le_refl _) (pRt_mono ?_)
      refine k12_swap (d + 0) hW hZ_b0 hr3 ?_
      intro _
      show Ok g _ Qx 93 [(0, .ref b0), (4, .int y4), (5, .int y5)] [] (Z, r2, L, O)
      refine ok_iinc (u := (y4 + (-1))) (l' := [(4, .int (y4 + (-1))), (0, .ref b0), (5, .int y5)]) dX12_isNextOrder_93 1 rfl rfl (Nat.le_of_ble_eq_true rfl) rfl ?_
      refine ok_iinc (u := (y5 + 1)) (l' := [(5, .int (y5 + 1)), (4, .int (y4 + (-1))), (0, .ref b0)]) dX12_isNextOrder_96 2 rfl rfl (Nat.le_of_ble_eq_true rfl) rfl ?_
      refine ok_goto (t := 78) dX12_isNextOrder_99 (by decide) ?_
      refine ok_sub [2, 1, 0] rfl ?_
      exact ih r2 b0 (y4 + (-1)) (y5 + 1) hZ_b0 h
def f12_isNextOrder_c41 (n : Nat) (O : (Nat → Nat → Option Nat)) : Nat → (Nat → Nat → Int32) → Nat → Int32 → Int32 → Int32 → Option (Int32 × (Nat → Nat → Int32))
  | 0, _, _, _, _, _ => none
  | m + 1, I, b0, y1, y2, y3 => (if y3 < 0 ∨ 5 ≤ y3.toNatClampNeg then none else (if y2 < 0 ∨ 5 ≤ y2.toNatClampNeg then none else (if (I (rO O b0 28) y2.toNatClampNeg) ≤ (I (rO O b0 28) y3.toNatClampNeg) then (f12_swap I O b0 y2 y3).bind fun r5 => f12_isNextOrder_c78 n O n r5 b0 (y1 - 1) (y2 + 1) else f12_isNextOrder_c41 n O m I b0 y1 y2 (y3 + (-1)))))
set_option maxHeartbeats 4000000 in
set_option maxRecDepth 20000 in
theorem o12_isNextOrder_c41 {g : pG} {Qx : Option Value → pW → Prop} {Z : pZ} {L : (Nat → Nat → Int64)} {O : (Nat → Nat → Option Nat)} {n : Nat} {res : Int32 × (Nat → Nat → Int32)} (d : Nat) (hW : WT Z O) (hQ : (res.1 = 0 ∨ res.1 = 1) → Qx (some (.int res.1)) (Z, res.2, L, O)) : ∀ (m : Nat) (I : (Nat → Nat → Int32)) (b0 : Nat) (y1 : Int32) (y2 : Int32) (y3 : Int32), (Z[b0]? = some (12, 34)) → f12_isNextOrder_c41 n O m I b0 y1 y2 y3 = some res → Ok g (d + 3, RX12, cX12_isNextOrder, 6, false, 0, 0, Z.length, pSl Z) Qx 41 [(0, .ref b0), (1, .int y1), (2, .int y2), (3, .int y3)] [] (Z, I, L, O) := by
  intro m
  induction m with
  | zero => intro I b0 y1 y2 y3 hZ_b0 h; rw [f12_isNextOrder_c41] at h; cases h
  | succ m ih =>
    intro I b0 y1 y2 y3 hZ_b0 h
    rw [f12_isNextOrder_c41] at h
    refine ok_aload_n dX12_isNextOrder_41 0 rfl ?_
    have hT1 : Z[(rO O b0 28)]? = some (13, 5) := (wt_f (ci := 12) (k := 28) hW hZ_b0 rfl).2
    refine ok_getR (ci := 12) (k := 28) dX12_isNextOrder_42 flRX12_56 rfl hW hZ_b0 (by decide) ?_
    refine ok_iload_n dX12_isNextOrder_45 3 rfl ?_
    obtain ⟨hg2, h⟩ := gd h
    refine ok_iald2 (N := y3.toNatClampNeg) dX12_isNextOrder_46 hT1 hg2 rfl ?_
    refine ok_aload_n dX12_isNextOrder_47 0 rfl ?_
    refine ok_getR (ci := 12) (k := 28) dX12_isNextOrder_48 flRX12_56 rfl hW hZ_b0 (by decide) ?_
    refine ok_iload_n dX12_isNextOrder_51 2 rfl ?_
    obtain ⟨hg3, h⟩ := gd h
    refine ok_iald2 (N := y2.toNatClampNeg) dX12_isNextOrder_52 hT1 hg3 rfl ?_
    refine ok_icmp_ge (t := 62) dX12_isNextOrder_53 (by decide) (fun hc4 => ?_) (fun hc4 => ?_)
    · have h := (if_pos hc4).symm.trans h
      refine ok_aload_n dX12_isNextOrder_62 0 rfl ?_
      refine ok_iload_n dX12_isNextOrder_63 2 rfl ?_
      refine ok_iload_n dX12_isNextOrder_64 3 rfl ?_
      obtain ⟨r5, hr6, h⟩ := bd h
      refine ok_callV (d := ((d + 0) + 2)) (mt := m12_swap) (mc := 0) (ms := 0) (As := [.int y2, .int y3]) (r := []) dX12_isNextOrder_65 mo12_swap mv12_swap lkRX12_453 rfl hZ_b0 (q := (RX12, TX12, 34)) rfl rfl rfl (Nat.le_of_ble_eq_true rfl) (by show _ + 1 ≤ d + _; omega) (Nat.le_refl _) (Nat.le_refl _) (pRt_mono ?_)
      refine k12_swap (d + 0) hW hZ_b0 hr6 ?_
      intro _
      show Ok g _ Qx 68 [(0, .ref b0), (1, .int y1), (2, .int y2), (3, .int y3)] [] (Z, r5, L, O)
      refine ok_iload_n dX12_isNextOrder_68 1 rfl ?_
      refine ok_iconst (v := 1) dX12_isNextOrder_69 (by decide) ?_
      refine ok_isub dX12_isNextOrder_70 ?_
      refine ok_istore (l' := [(4, .int (y1 - 1)), (0, .ref b0), (1, .int y1), (2, .int y2), (3, .int y3)]) dX12_isNextOrder_71 (Nat.le_of_ble_eq_true rfl) rfl ?_
      refine ok_iload_n dX12_isNextOrder_73 3 rfl ?_
      refine ok_iconst (v := 1) dX12_isNextOrder_74 (by decide) ?_
      refine ok_iadd dX12_isNextOrder_75 ?_
      refine ok_istore (l' := [(5, .int (y2 + 1)), (4, .int (y1 - 1)), (0, .ref b0), (1, .int y1), (2, .int y2), (3, .int y3)]) dX12_isNextOrder_76 (Nat.le_of_ble_eq_true rfl) rfl ?_
      refine ok_sub [2, 1, 0] rfl ?_
      exact o12_isNextOrder_c78 d hW hQ  n r5 b0 (y1 - 1) (y2 + 1) hZ_b0 h
    · have h := (if_neg hc4).symm.trans h
      refine ok_iinc (u := (y3 + (-1))) (l' := [(3, .int (y3 + (-1))), (0, .ref b0), (1, .int y1), (2, .int y2)]) dX12_isNextOrder_56 3 rfl rfl (Nat.le_of_ble_eq_true rfl) rfl ?_
      refine ok_goto (t := 41) dX12_isNextOrder_59 (by decide) ?_
      refine ok_sub [1, 2, 3, 0] rfl ?_
      exact ih I b0 y1 y2 (y3 + (-1)) hZ_b0 h
def f12_isNextOrder_c4 (n : Nat) (O : (Nat → Nat → Option Nat)) : Nat → (Nat → Nat → Int32) → Nat → Int32 → Int32 → Option (Int32 × (Nat → Nat → Int32))
  | 0, _, _, _, _ => none
  | m + 1, I, b0, y1, y2 => (if y2 < 0 then (if 0 ≤ y2 then f12_isNextOrder_c41 n O n I b0 y1 y2 (y1 - 1) else some ((0 : Int32), I)) else (if y2 < 0 ∨ 5 ≤ y2.toNatClampNeg then none else (if (y2 + 1) < 0 ∨ 5 ≤ (y2 + 1).toNatClampNeg then none else (if (I (rO O b0 28) y2.toNatClampNeg) ≤ (I (rO O b0 28) (y2 + 1).toNatClampNeg) then (if 0 ≤ y2 then f12_isNextOrder_c41 n O n I b0 y1 y2 (y1 - 1) else some ((0 : Int32), I)) else f12_isNextOrder_c4 n O m I b0 y1 (y2 + (-1))))))
set_option maxHeartbeats 4000000 in
set_option maxRecDepth 20000 in
theorem o12_isNextOrder_c4 {g : pG} {Qx : Option Value → pW → Prop} {Z : pZ} {L : (Nat → Nat → Int64)} {O : (Nat → Nat → Option Nat)} {n : Nat} {res : Int32 × (Nat → Nat → Int32)} (d : Nat) (hW : WT Z O) (hQ : (res.1 = 0 ∨ res.1 = 1) → Qx (some (.int res.1)) (Z, res.2, L, O)) : ∀ (m : Nat) (I : (Nat → Nat → Int32)) (b0 : Nat) (y1 : Int32) (y2 : Int32), (Z[b0]? = some (12, 34)) → f12_isNextOrder_c4 n O m I b0 y1 y2 = some res → Ok g (d + 3, RX12, cX12_isNextOrder, 6, false, 0, 0, Z.length, pSl Z) Qx 4 [(0, .ref b0), (1, .int y1), (2, .int y2)] [] (Z, I, L, O) := by
  intro m
  induction m with
  | zero => intro I b0 y1 y2 hZ_b0 h; rw [f12_isNextOrder_c4] at h; cases h
  | succ m ih =>
    intro I b0 y1 y2 hZ_b0 h
    rw [f12_isNextOrder_c4] at h
    refine ok_iload_n dX12_isNextOrder_4 2 rfl ?_
    refine ok_if_lt (t := 31) dX12_isNextOrder_5 (by decide) (fun hc1 => ?_) (fun hc1 => ?_)
    · have h := (if_pos hc1).symm.trans h
      refine ok_iload_n dX12_isNextOrder_31 2 rfl ?_
      refine ok_if_ge (t := 37) dX12_isNextOrder_32 (by decide) (fun hc2 => ?_) (fun hc2 => ?_)
      · have h := (if_pos hc2).symm.trans h
        refine ok_iload_n dX12_isNextOrder_37 1 rfl ?_
        refine ok_iconst (v := 1) dX12_isNextOrder_38 (by decide) ?_
        refine ok_isub dX12_isNextOrder_39 ?_
        refine ok_istore_n (l' := [(3, .int (y1 - 1)), (0, .ref b0), (1, .int y1), (2, .int y2)]) dX12_isNextOrder_40 rfl (Nat.le_of_ble_eq_true rfl) rfl ?_
        refine ok_sub [1, 2, 3, 0] rfl ?_
        exact o12_isNextOrder_c41 d hW hQ  n I b0 y1 y2 (y1 - 1) hZ_b0 h
      · have h := (if_neg hc2).symm.trans h
        refine ok_iconst (v := 0) dX12_isNextOrder_35 (by decide) ?_
        cases h
        exact ok_iret dX12_isNextOrder_36 (hQ (Or.inl rfl))
    · have h := (if_neg hc1).symm.trans h
      refine ok_aload_n dX12_isNextOrder_8 0 rfl ?_
      have hT3 : Z[(rO O b0 28)]? = some (13, 5) := (wt_f (ci := 12) (k := 28) hW hZ_b0 rfl).2
      refine ok_getR (ci := 12) (k := 28) dX12_isNextOrder_9 flRX12_56 rfl hW hZ_b0 (by decide) ?_
      refine ok_iload_n dX12_isNextOrder_12 2 rfl ?_
      obtain ⟨hg4, h⟩ := gd h
      refine ok_iald2 (N := y2.toNatClampNeg) dX12_isNextOrder_13 hT3 hg4 rfl ?_
      refine ok_aload_n dX12_isNextOrder_14 0 rfl ?_
      refine ok_getR (ci := 12) (k := 28) dX12_isNextOrder_15 flRX12_56 rfl hW hZ_b0 (by decide) ?_
      refine ok_iload_n dX12_isNextOrder_18 2 rfl ?_
      refine ok_iconst (v := 1) dX12_isNextOrder_19 (by decide) ?_
      refine ok_iadd dX12_isNextOrder_20 ?_
      obtain ⟨hg5, h⟩ := gd h
      refine ok_iald2 (N := (y2 + 1).toNatClampNeg) dX12_isNextOrder_21 hT3 hg5 rfl ?_
      refine ok_icmp_le (t := 31) dX12_isNextOrder_22 (by decide) (fun hc6 => ?_) (fun hc6 => ?_)
      · have h := (if_pos hc6).symm.trans h
        refine ok_iload_n dX12_isNextOrder_31 2 rfl ?_
        refine ok_if_ge (t := 37) dX12_isNextOrder_32 (by decide) (fun hc7 => ?_) (fun hc7 => ?_)
        · have h := (if_pos hc7).symm.trans h
          refine ok_iload_n dX12_isNextOrder_37 1 rfl ?_
          refine ok_iconst (v := 1) dX12_isNextOrder_38 (by decide) ?_
          refine ok_isub dX12_isNextOrder_39 ?_
          refine ok_istore_n (l' := [(3, .int (y1 - 1)), (0, .ref b0), (1, .int y1), (2, .int y2)]) dX12_isNextOrder_40 rfl (Nat.le_of_ble_eq_true rfl) rfl ?_
          refine ok_sub [1, 2, 3, 0] rfl ?_
          exact o12_isNextOrder_c41 d hW hQ  n I b0 y1 y2 (y1 - 1) hZ_b0 h
        · have h := (if_neg hc7).symm.trans h
          refine ok_iconst (v := 0) dX12_isNextOrder_35 (by decide) ?_
          cases h
          exact ok_iret dX12_isNextOrder_36 (hQ (Or.inl rfl))
      · have h := (if_neg hc6).symm.trans h
        refine ok_iinc (u := (y2 + (-1))) (l' := [(2, .int (y2 + (-1))), (0, .ref b0), (1, .int y1)]) dX12_isNextOrder_25 2 rfl rfl (Nat.le_of_ble_eq_true rfl) rfl ?_
        refine ok_goto (t := 4) dX12_isNextOrder_28 (by decide) ?_
        refine ok_sub [1, 2, 0] rfl ?_
        exact ih I b0 y1 (y2 + (-1)) hZ_b0 h
def f12_isNextOrder (n : Nat) (I : (Nat → Nat → Int32)) (O : (Nat → Nat → Option Nat)) (a0 : Nat) (x1 : Int32) : Option (Int32 × (Nat → Nat → Int32)) := f12_isNextOrder_c4 n O n I a0 x1 (x1 - 2)
set_option maxHeartbeats 4000000 in
set_option maxRecDepth 20000 in
theorem o12_isNextOrder {g : pG} {Qx : Option Value → pW → Prop} {Z : pZ} {I : (Nat → Nat → Int32)} {L : (Nat → Nat → Int64)} {O : (Nat → Nat → Option Nat)} {n : Nat} {a0 : Nat} {x1 : Int32} {res : Int32 × (Nat → Nat → Int32)} (d : Nat) (hW : WT Z O) (hZ0 : Z[a0]? = some (12, 34)) (h : f12_isNextOrder n I O a0 x1 = some res) (hQ : (res.1 = 0 ∨ res.1 = 1) → Qx (some (.int res.1)) (Z, res.2, L, O)) : Ok g (d + 3, RX12, cX12_isNextOrder, 6, false, 0, 0, Z.length, pSl Z) Qx 0 [(0, .ref a0), (1, .int x1)] [] (Z, I, L, O) := by
  unfold f12_isNextOrder at h
  refine ok_iload_n dX12_isNextOrder_0 1 rfl ?_
  refine ok_iconst (v := 2) dX12_isNextOrder_1 (by decide) ?_
  refine ok_isub dX12_isNextOrder_2 ?_
  refine ok_istore_n (l' := [(2, .int (x1 - 2)), (0, .ref a0), (1, .int x1)]) dX12_isNextOrder_3 rfl (Nat.le_of_ble_eq_true rfl) rfl ?_
  refine ok_sub [1, 2, 0] rfl ?_
  exact o12_isNextOrder_c4 d hW hQ  n I a0 x1 (x1 - 2) hZ0 h
theorem k12_isNextOrder {g : pG} {Q : Option Value → pW → Prop} {Z : pZ} {I : (Nat → Nat → Int32)} {L : (Nat → Nat → Int64)} {O : (Nat → Nat → Option Nat)} {n : Nat} {a0 : Nat} {x1 : Int32} {res : Int32 × (Nat → Nat → Int32)} (d : Nat) (hW : WT Z O) (hZ0 : Z[a0]? = some (12, 34)) (h : f12_isNextOrder n I O a0 x1 = some res) (hQ : Q (some (.int res.1)) (Z, res.2, L, O)) : CT g (d + 3) m12_isNextOrder 0 0 [.ref a0, .int x1] (Z, I, L, O) Q :=
  ct_of_ok (mt := m12_isNextOrder) (ini := false) mo12_isNextOrder.2.2.2.2 (fun h => by cases h) (Nat.le_of_ble_eq_true rfl) (o12_isNextOrder d hW hZ0 h (fun hb => ⟨hb, hQ, rfl, rfl⟩))
theorem dX12_isOver_0 : decode cX12_isOver 0 = .ok (.iconst 0, 1) := by decide +kernel
theorem dX12_isOver_1 : decode cX12_isOver 1 = .ok (.istore_n 3, 1) := by decide +kernel
theorem dX12_isOver_2 : decode cX12_isOver 2 = .ok (.iload_n 3, 1) := by decide +kernel
theorem dX12_isOver_3 : decode cX12_isOver 3 = .ok (.aload_n 0, 1) := by decide +kernel
theorem dX12_isOver_4 : decode cX12_isOver 4 = .ok (.getfield 7, 3) := by decide +kernel
theorem dX12_isOver_7 : decode cX12_isOver 7 = .ok (.bipush 114, 2) := by decide +kernel
theorem dX12_isOver_9 : decode cX12_isOver 9 = .ok (.iload_n 1, 1) := by decide +kernel
theorem dX12_isOver_10 : decode cX12_isOver 10 = .ok (.iadd, 1) := by decide +kernel
theorem dX12_isOver_11 : decode cX12_isOver 11 = .ok (.iaload, 1) := by decide +kernel
theorem dX12_isOver_12 : decode cX12_isOver 12 = .ok (.if_icmp .ge 38, 3) := by decide +kernel
theorem dX12_isOver_15 : decode cX12_isOver 15 = .ok (.iload_n 2, 1) := by decide +kernel
theorem dX12_isOver_16 : decode cX12_isOver 16 = .ok (.iload_n 3, 1) := by decide +kernel
theorem dX12_isOver_17 : decode cX12_isOver 17 = .ok (.iadd, 1) := by decide +kernel
theorem dX12_isOver_18 : decode cX12_isOver 18 = .ok (.aload_n 0, 1) := by decide +kernel
theorem dX12_isOver_19 : decode cX12_isOver 19 = .ok (.getfield 456, 3) := by decide +kernel
theorem dX12_isOver_22 : decode cX12_isOver 22 = .ok (.if_icmp .ge 28, 3) := by decide +kernel
theorem dX12_isOver_25 : decode cX12_isOver 25 = .ok (.aload_n 0, 1) := by decide +kernel
theorem dX12_isOver_26 : decode cX12_isOver 26 = .ok (.getfield 62, 3) := by decide +kernel
theorem dX12_isOver_29 : decode cX12_isOver 29 = .ok (.iload_n 2, 1) := by decide +kernel
theorem dX12_isOver_30 : decode cX12_isOver 30 = .ok (.iload_n 3, 1) := by decide +kernel
theorem dX12_isOver_31 : decode cX12_isOver 31 = .ok (.iadd, 1) := by decide +kernel
theorem dX12_isOver_32 : decode cX12_isOver 32 = .ok (.iaload, 1) := by decide +kernel
theorem dX12_isOver_33 : decode cX12_isOver 33 = .ok (.aload_n 0, 1) := by decide +kernel
theorem dX12_isOver_34 : decode cX12_isOver 34 = .ok (.iload_n 1, 1) := by decide +kernel
theorem dX12_isOver_35 : decode cX12_isOver 35 = .ok (.iload_n 3, 1) := by decide +kernel
theorem dX12_isOver_36 : decode cX12_isOver 36 = .ok (.invokevirtual 87, 3) := by decide +kernel
theorem dX12_isOver_39 : decode cX12_isOver 39 = .ok (.if_icmp .eq 5, 3) := by decide +kernel
theorem dX12_isOver_42 : decode cX12_isOver 42 = .ok (.iconst 0, 1) := by decide +kernel
theorem dX12_isOver_43 : decode cX12_isOver 43 = .ok (.ireturn, 1) := by decide +kernel
theorem dX12_isOver_44 : decode cX12_isOver 44 = .ok (.iinc 3 1, 3) := by decide +kernel
theorem dX12_isOver_47 : decode cX12_isOver 47 = .ok (.goto (-45), 3) := by decide +kernel
theorem dX12_isOver_50 : decode cX12_isOver 50 = .ok (.iconst 1, 1) := by decide +kernel
theorem dX12_isOver_51 : decode cX12_isOver 51 = .ok (.ireturn, 1) := by decide +kernel
def m12_isOver : pMT := (yX12_isOver, cX12_isOver, 4, some .boolean)
theorem mo12_isOver : mOK m12_isOver 2 := ⟨tb_i 1945 (by decide +kernel), wi_RX12, ⟨wn_RX12.1, wn_RX12.2, by decide +kernel⟩, by decide, plainFor_of_name wp_RX12⟩
theorem mv12_isOver : mV m12_isOver := ⟨tb_i 1944 (by decide +kernel), tb_p 133 (by decide +kernel)⟩
def f12_isOver_c2 (n : Nat) (I : (Nat → Nat → Int32)) (O : (Nat → Nat → Option Nat)) : Nat → Nat → Int32 → Int32 → Int32 → Option (Int32)
  | 0, _, _, _, _ => none
  | m + 1, b0, y1, y2, y3 => (if ((114 : Int32) + y1) < 0 ∨ 4371 ≤ ((114 : Int32) + y1).toNatClampNeg then none else (if (I (rO O b0 0) ((114 : Int32) + y1).toNatClampNeg) ≤ y3 then some ((1 : Int32)) else (if (I b0 31) ≤ (y2 + y3) then some ((1 : Int32)) else (if (y2 + y3) < 0 ∨ 80 ≤ (y2 + y3).toNatClampNeg then none else (f12_keyOf I O b0 y1 y3).bind fun r7 => (if (I (rO O b0 30) (y2 + y3).toNatClampNeg) = r7 then f12_isOver_c2 n I O m b0 y1 y2 (y3 + 1) else some ((0 : Int32)))))))
set_option maxHeartbeats 4000000 in
set_option maxRecDepth 20000 in
theorem o12_isOver_c2 {g : pG} {Qx : Option Value → pW → Prop} {Z : pZ} {I : (Nat → Nat → Int32)} {L : (Nat → Nat → Int64)} {O : (Nat → Nat → Option Nat)} {n : Nat} {res : Int32} (d : Nat) (hW : WT Z O) (hQ : (res = 0 ∨ res = 1) → Qx (some (.int res)) (Z, I, L, O)) : ∀ (m : Nat) (b0 : Nat) (y1 : Int32) (y2 : Int32) (y3 : Int32), (Z[b0]? = some (12, 34)) → f12_isOver_c2 n I O m b0 y1 y2 y3 = some res → Ok g (d + 3, RX12, cX12_isOver, 4, false, 0, 0, Z.length, pSl Z) Qx 2 [(0, .ref b0), (1, .int y1), (2, .int y2), (3, .int y3)] [] (Z, I, L, O) := by
  intro m
  induction m with
  | zero => intro b0 y1 y2 y3 hZ_b0 h; rw [f12_isOver_c2] at h; cases h
  | succ m ih =>
    intro b0 y1 y2 y3 hZ_b0 h
    rw [f12_isOver_c2] at h
    refine ok_iload_n dX12_isOver_2 3 rfl ?_
    refine ok_aload_n dX12_isOver_3 0 rfl ?_
    have hT1 : Z[(rO O b0 0)]? = some (13, 4371) := (wt_f (ci := 12) (k := 0) hW hZ_b0 rfl).2
    refine ok_getR (ci := 12) (k := 0) dX12_isOver_4 flRX12_7 rfl hW hZ_b0 (by decide) ?_
    refine ok_bipush (v := 114) dX12_isOver_7 (by decide) ?_
    refine ok_iload_n dX12_isOver_9 1 rfl ?_
    refine ok_iadd dX12_isOver_10 ?_
    obtain ⟨hg2, h⟩ := gd h
    refine ok_iald2 (N := ((114 : Int32) + y1).toNatClampNeg) dX12_isOver_11 hT1 hg2 rfl ?_
    refine ok_icmp_ge (t := 50) dX12_isOver_12 (by decide) (fun hc3 => ?_) (fun hc3 => ?_)
    · have h := (if_pos hc3).symm.trans h
      refine ok_iconst (v := 1) dX12_isOver_50 (by decide) ?_
      cases h
      exact ok_iret dX12_isOver_51 (hQ (Or.inr rfl))
    · have h := (if_neg hc3).symm.trans h
      refine ok_iload_n dX12_isOver_15 2 rfl ?_
      refine ok_iload_n dX12_isOver_16 3 rfl ?_
      refine ok_iadd dX12_isOver_17 ?_
      refine ok_aload_n dX12_isOver_18 0 rfl ?_
      refine ok_getI (ci := 12) (k := 31) dX12_isOver_19 flRX12_456 rfl hZ_b0 (by decide) ?_
      refine ok_icmp_ge (t := 50) dX12_isOver_22 (by decide) (fun hc4 => ?_) (fun hc4 => ?_)
      · have h := (if_pos hc4).symm.trans h
        refine ok_iconst (v := 1) dX12_isOver_50 (by decide) ?_
        cases h
        exact ok_iret dX12_isOver_51 (hQ (Or.inr rfl))
      · have h := (if_neg hc4).symm.trans h
        refine ok_aload_n dX12_isOver_25 0 rfl ?_
        have hT5 : Z[(rO O b0 30)]? = some (13, 80) := (wt_f (ci := 12) (k := 30) hW hZ_b0 rfl).2
        refine ok_getR (ci := 12) (k := 30) dX12_isOver_26 flRX12_62 rfl hW hZ_b0 (by decide) ?_
        refine ok_iload_n dX12_isOver_29 2 rfl ?_
        refine ok_iload_n dX12_isOver_30 3 rfl ?_
        refine ok_iadd dX12_isOver_31 ?_
        obtain ⟨hg6, h⟩ := gd h
        refine ok_iald2 (N := (y2 + y3).toNatClampNeg) dX12_isOver_32 hT5 hg6 rfl ?_
        refine ok_aload_n dX12_isOver_33 0 rfl ?_
        refine ok_iload_n dX12_isOver_34 1 rfl ?_
        refine ok_iload_n dX12_isOver_35 3 rfl ?_
        obtain ⟨r7, hr8, h⟩ := bd h
        refine ok_callV (d := ((d + 0) + 2)) (mt := m12_keyOf) (mc := 0) (ms := 0) (As := [.int y1, .int y3]) (r := [.int (I (rO O b0 30) (y2 + y3).toNatClampNeg)]) dX12_isOver_36 mo12_keyOf mv12_keyOf lkRX12_87 rfl hZ_b0 (q := (RX12, TX12, 34)) rfl rfl rfl (Nat.le_of_ble_eq_true rfl) (by show _ + 1 ≤ d + _; omega) (Nat.le_refl _) (Nat.le_refl _) (pRt_mono ?_)
        refine k12_keyOf (d + 0) hW hZ_b0 hr8 ?_
        intro _
        show Ok g _ Qx 39 [(0, .ref b0), (1, .int y1), (2, .int y2), (3, .int y3)] [.int r7, .int (I (rO O b0 30) (y2 + y3).toNatClampNeg)] (Z, I, L, O)
        refine ok_icmp_eq (t := 44) dX12_isOver_39 (by decide) (fun hc9 => ?_) (fun hc9 => ?_)
        · have h := (if_pos hc9).symm.trans h
          refine ok_iinc (u := (y3 + 1)) (l' := [(3, .int (y3 + 1)), (0, .ref b0), (1, .int y1), (2, .int y2)]) dX12_isOver_44 3 rfl rfl (Nat.le_of_ble_eq_true rfl) rfl ?_
          refine ok_goto (t := 2) dX12_isOver_47 (by decide) ?_
          refine ok_sub [1, 2, 3, 0] rfl ?_
          exact ih b0 y1 y2 (y3 + 1) hZ_b0 h
        · have h := (if_neg hc9).symm.trans h
          refine ok_iconst (v := 0) dX12_isOver_42 (by decide) ?_
          cases h
          exact ok_iret dX12_isOver_43 (hQ (Or.inl rfl))
def f12_isOver (n : Nat) (I : (Nat → Nat → Int32)) (O : (Nat → Nat → Option Nat)) (a0 : Nat) (x1 : Int32) (x2 : Int32) : Option (Int32) := f12_isOver_c2 n I O n a0 x1 x2 (0 : Int32)
set_option maxHeartbeats 4000000 in
set_option maxRecDepth 20000 in
theorem o12_isOver {g : pG} {Qx : Option Value → pW → Prop} {Z : pZ} {I : (Nat → Nat → Int32)} {L : (Nat → Nat → Int64)} {O : (Nat → Nat → Option Nat)} {n : Nat} {a0 : Nat} {x1 : Int32} {x2 : Int32} {res : Int32} (d : Nat) (hW : WT Z O) (hZ0 : Z[a0]? = some (12, 34)) (h : f12_isOver n I O a0 x1 x2 = some res) (hQ : (res = 0 ∨ res = 1) → Qx (some (.int res)) (Z, I, L, O)) : Ok g (d + 3, RX12, cX12_isOver, 4, false, 0, 0, Z.length, pSl Z) Qx 0 [(0, .ref a0), (1, .int x1), (2, .int x2)] [] (Z, I, L, O) := by
  unfold f12_isOver at h
  refine ok_iconst (v := 0) dX12_isOver_0 (by decide) ?_
  refine ok_istore_n (l' := [(3, .int 0), (0, .ref a0), (1, .int x1), (2, .int x2)]) dX12_isOver_1 rfl (Nat.le_of_ble_eq_true rfl) rfl ?_
  refine ok_sub [1, 2, 3, 0] rfl ?_
  exact o12_isOver_c2 d hW hQ  n a0 x1 x2 (0 : Int32) hZ0 h
theorem k12_isOver {g : pG} {Q : Option Value → pW → Prop} {Z : pZ} {I : (Nat → Nat → Int32)} {L : (Nat → Nat → Int64)} {O : (Nat → Nat → Option Nat)} {n : Nat} {a0 : Nat} {x1 : Int32} {x2 : Int32} {res : Int32} (d : Nat) (hW : WT Z O) (hZ0 : Z[a0]? = some (12, 34)) (h : f12_isOver n I O a0 x1 x2 = some res) (hQ : Q (some (.int res)) (Z, I, L, O)) : CT g (d + 3) m12_isOver 0 0 [.ref a0, .int x1, .int x2] (Z, I, L, O) Q :=
  ct_of_ok (mt := m12_isOver) (ini := false) mo12_isOver.2.2.2.2 (fun h => by cases h) (Nat.le_of_ble_eq_true rfl) (o12_isOver d hW hZ0 h (fun hb => ⟨hb, hQ, rfl, rfl⟩))
theorem dX12_layOn_0 : decode cX12_layOn 0 = .ok (.iconst 0, 1) := by decide +kernel
theorem dX12_layOn_1 : decode cX12_layOn 1 = .ok (.istore_n 2, 1) := by decide +kernel
theorem dX12_layOn_2 : decode cX12_layOn 2 = .ok (.aload_n 0, 1) := by decide +kernel
theorem dX12_layOn_3 : decode cX12_layOn 3 = .ok (.iload_n 1, 1) := by decide +kernel
theorem dX12_layOn_4 : decode cX12_layOn 4 = .ok (.iload_n 2, 1) := by decide +kernel
theorem dX12_layOn_5 : decode cX12_layOn 5 = .ok (.invokevirtual 459, 3) := by decide +kernel
theorem dX12_layOn_8 : decode cX12_layOn 8 = .ok (.ifCond .ne 9, 3) := by decide +kernel
theorem dX12_layOn_11 : decode cX12_layOn 11 = .ok (.iinc 2 1, 3) := by decide +kernel
theorem dX12_layOn_14 : decode cX12_layOn 14 = .ok (.goto (-12), 3) := by decide +kernel
theorem dX12_layOn_17 : decode cX12_layOn 17 = .ok (.iconst 0, 1) := by decide +kernel
theorem dX12_layOn_18 : decode cX12_layOn 18 = .ok (.istore_n 3, 1) := by decide +kernel
theorem dX12_layOn_19 : decode cX12_layOn 19 = .ok (.iload_n 3, 1) := by decide +kernel
theorem dX12_layOn_20 : decode cX12_layOn 20 = .ok (.aload_n 0, 1) := by decide +kernel
theorem dX12_layOn_21 : decode cX12_layOn 21 = .ok (.getfield 7, 3) := by decide +kernel
theorem dX12_layOn_24 : decode cX12_layOn 24 = .ok (.bipush 114, 2) := by decide +kernel
theorem dX12_layOn_26 : decode cX12_layOn 26 = .ok (.iload_n 1, 1) := by decide +kernel
theorem dX12_layOn_27 : decode cX12_layOn 27 = .ok (.iadd, 1) := by decide +kernel
theorem dX12_layOn_28 : decode cX12_layOn 28 = .ok (.iaload, 1) := by decide +kernel
theorem dX12_layOn_29 : decode cX12_layOn 29 = .ok (.if_icmp .ge 23, 3) := by decide +kernel
theorem dX12_layOn_32 : decode cX12_layOn 32 = .ok (.aload_n 0, 1) := by decide +kernel
theorem dX12_layOn_33 : decode cX12_layOn 33 = .ok (.getfield 62, 3) := by decide +kernel
theorem dX12_layOn_36 : decode cX12_layOn 36 = .ok (.iload_n 2, 1) := by decide +kernel
theorem dX12_layOn_37 : decode cX12_layOn 37 = .ok (.iload_n 3, 1) := by decide +kernel
theorem dX12_layOn_38 : decode cX12_layOn 38 = .ok (.iadd, 1) := by decide +kernel
theorem dX12_layOn_39 : decode cX12_layOn 39 = .ok (.aload_n 0, 1) := by decide +kernel
theorem dX12_layOn_40 : decode cX12_layOn 40 = .ok (.iload_n 1, 1) := by decide +kernel
theorem dX12_layOn_41 : decode cX12_layOn 41 = .ok (.iload_n 3, 1) := by decide +kernel
theorem dX12_layOn_42 : decode cX12_layOn 42 = .ok (.invokevirtual 87, 3) := by decide +kernel
theorem dX12_layOn_45 : decode cX12_layOn 45 = .ok (.iastore, 1) := by decide +kernel
theorem dX12_layOn_46 : decode cX12_layOn 46 = .ok (.iinc 3 1, 3) := by decide +kernel
theorem dX12_layOn_49 : decode cX12_layOn 49 = .ok (.goto (-30), 3) := by decide +kernel
theorem dX12_layOn_52 : decode cX12_layOn 52 = .ok (.iload_n 2, 1) := by decide +kernel
theorem dX12_layOn_53 : decode cX12_layOn 53 = .ok (.aload_n 0, 1) := by decide +kernel
theorem dX12_layOn_54 : decode cX12_layOn 54 = .ok (.getfield 7, 3) := by decide +kernel
theorem dX12_layOn_57 : decode cX12_layOn 57 = .ok (.bipush 114, 2) := by decide +kernel
theorem dX12_layOn_59 : decode cX12_layOn 59 = .ok (.iload_n 1, 1) := by decide +kernel
theorem dX12_layOn_60 : decode cX12_layOn 60 = .ok (.iadd, 1) := by decide +kernel
theorem dX12_layOn_61 : decode cX12_layOn 61 = .ok (.iaload, 1) := by decide +kernel
theorem dX12_layOn_62 : decode cX12_layOn 62 = .ok (.iadd, 1) := by decide +kernel
theorem dX12_layOn_63 : decode cX12_layOn 63 = .ok (.aload_n 0, 1) := by decide +kernel
theorem dX12_layOn_64 : decode cX12_layOn 64 = .ok (.getfield 456, 3) := by decide +kernel
theorem dX12_layOn_67 : decode cX12_layOn 67 = .ok (.if_icmp .le 18, 3) := by decide +kernel
theorem dX12_layOn_70 : decode cX12_layOn 70 = .ok (.aload_n 0, 1) := by decide +kernel
theorem dX12_layOn_71 : decode cX12_layOn 71 = .ok (.iload_n 2, 1) := by decide +kernel
theorem dX12_layOn_72 : decode cX12_layOn 72 = .ok (.aload_n 0, 1) := by decide +kernel
theorem dX12_layOn_73 : decode cX12_layOn 73 = .ok (.getfield 7, 3) := by decide +kernel
theorem dX12_layOn_76 : decode cX12_layOn 76 = .ok (.bipush 114, 2) := by decide +kernel
theorem dX12_layOn_78 : decode cX12_layOn 78 = .ok (.iload_n 1, 1) := by decide +kernel
theorem dX12_layOn_79 : decode cX12_layOn 79 = .ok (.iadd, 1) := by decide +kernel
theorem dX12_layOn_80 : decode cX12_layOn 80 = .ok (.iaload, 1) := by decide +kernel
theorem dX12_layOn_81 : decode cX12_layOn 81 = .ok (.iadd, 1) := by decide +kernel
theorem dX12_layOn_82 : decode cX12_layOn 82 = .ok (.putfield 456, 3) := by decide +kernel
theorem dX12_layOn_85 : decode cX12_layOn 85 = .ok (.return_, 1) := by decide +kernel
def m12_layOn : pMT := (yX12_layOn, cX12_layOn, 4, none)
theorem mo12_layOn : mOK m12_layOn 1 := ⟨tb_i 1941 (by decide +kernel), wi_RX12, ⟨wn_RX12.1, wn_RX12.2, by decide +kernel⟩, by decide, plainFor_of_name wp_RX12⟩
theorem mv12_layOn : mV m12_layOn := ⟨tb_i 1940 (by decide +kernel), tb_p 132 (by decide +kernel)⟩
def f12_layOn_c19 (n : Nat) (O : (Nat → Nat → Option Nat)) : Nat → (Nat → Nat → Int32) → Nat → Int32 → Int32 → Int32 → Option ((Nat → Nat → Int32))
  | 0, _, _, _, _, _ => none
  | m + 1, I, b0, y1, y2, y3 => (if ((114 : Int32) + y1) < 0 ∨ 4371 ≤ ((114 : Int32) + y1).toNatClampNeg then none else (if (I (rO O b0 0) ((114 : Int32) + y1).toNatClampNeg) ≤ y3 then (if ((114 : Int32) + y1) < 0 ∨ 4371 ≤ ((114 : Int32) + y1).toNatClampNeg then none else (if (y2 + (I (rO O b0 0) ((114 : Int32) + y1).toNatClampNeg)) ≤ (I b0 31) then some (I) else (if ((114 : Int32) + y1) < 0 ∨ 4371 ≤ ((114 : Int32) + y1).toNatClampNeg then none else bl (sI I b0 31 (y2 + (I (rO O b0 0) ((114 : Int32) + y1).toNatClampNeg))) fun I7 => some (I7)))) else (f12_keyOf I O b0 y1 y3).bind fun r9 => (if (y2 + y3) < 0 ∨ 80 ≤ (y2 + y3).toNatClampNeg then none else bl (sI I (rO O b0 30) (y2 + y3).toNatClampNeg r9) fun I12 => f12_layOn_c19 n O m I12 b0 y1 y2 (y3 + 1))))
set_option maxHeartbeats 4000000 in
set_option maxRecDepth 20000 in
theorem o12_layOn_c19 {g : pG} {Qx : Option Value → pW → Prop} {Z : pZ} {L : (Nat → Nat → Int64)} {O : (Nat → Nat → Option Nat)} {n : Nat} {res : (Nat → Nat → Int32)} (d : Nat) (hW : WT Z O) (hQ : Qx none (Z, res, L, O)) : ∀ (m : Nat) (I : (Nat → Nat → Int32)) (b0 : Nat) (y1 : Int32) (y2 : Int32) (y3 : Int32), (Z[b0]? = some (12, 34)) → f12_layOn_c19 n O m I b0 y1 y2 y3 = some res → Ok g (d + 4, RX12, cX12_layOn, 4, false, 0, 0, Z.length, pSl Z) Qx 19 [(0, .ref b0), (1, .int y1), (2, .int y2), (3, .int y3)] [] (Z, I, L, O) := by
  intro m
  induction m with
  | zero => intro I b0 y1 y2 y3 hZ_b0 h; rw [f12_layOn_c19] at h; cases h
  | succ m ih =>
    intro I b0 y1 y2 y3 hZ_b0 h
    rw [f12_layOn_c19] at h
    refine ok_iload_n dX12_layOn_19 3 rfl ?_
    refine ok_aload_n dX12_layOn_20 0 rfl ?_
    have hT1 : Z[(rO O b0 0)]? = some (13, 4371) := (wt_f (ci := 12) (k := 0) hW hZ_b0 rfl).2
    refine ok_getR (ci := 12) (k := 0) dX12_layOn_21 flRX12_7 rfl hW hZ_b0 (by decide) ?_
    refine ok_bipush (v := 114) dX12_layOn_24 (by decide) ?_
    refine ok_iload_n dX12_layOn_26 1 rfl ?_
    refine ok_iadd dX12_layOn_27 ?_
    obtain ⟨hg2, h⟩ := gd h
    refine ok_iald2 (N := ((114 : Int32) + y1).toNatClampNeg) dX12_layOn_28 hT1 hg2 rfl ?_
    refine ok_icmp_ge (t := 52) dX12_layOn_29 (by decide) (fun hc3 => ?_) (fun hc3 => ?_)
    · have h := (if_pos hc3).symm.trans h
      refine ok_iload_n dX12_layOn_52 2 rfl ?_
      refine ok_aload_n dX12_layOn_53 0 rfl ?_
      refine ok_getR (ci := 12) (k := 0) dX12_layOn_54 flRX12_7 rfl hW hZ_b0 (by decide) ?_
      refine ok_bipush (v := 114) dX12_layOn_57 (by decide) ?_
      refine ok_iload_n dX12_layOn_59 1 rfl ?_
      refine ok_iadd dX12_layOn_60 ?_
      obtain ⟨hg4, h⟩ := gd h
      refine ok_iald2 (N := ((114 : Int32) + y1).toNatClampNeg) dX12_layOn_61 hT1 hg4 rfl ?_
      refine ok_iadd dX12_layOn_62 ?_
      refine ok_aload_n dX12_layOn_63 0 rfl ?_
      refine ok_getI (ci := 12) (k := 31) dX12_layOn_64 flRX12_456 rfl hZ_b0 (by decide) ?_
      refine ok_icmp_le (t := 85) dX12_layOn_67 (by decide) (fun hc5 => ?_) (fun hc5 => ?_)
      · have h := (if_pos hc5).symm.trans h
        cases h
        exact ok_vret dX12_layOn_85 hQ
      · have h := (if_neg hc5).symm.trans h
        refine ok_aload_n dX12_layOn_70 0 rfl ?_
        refine ok_iload_n dX12_layOn_71 2 rfl ?_
        refine ok_aload_n dX12_layOn_72 0 rfl ?_
        refine ok_getR (ci := 12) (k := 0) dX12_layOn_73 flRX12_7 rfl hW hZ_b0 (by decide) ?_
        refine ok_bipush (v := 114) dX12_layOn_76 (by decide) ?_
        refine ok_iload_n dX12_layOn_78 1 rfl ?_
        refine ok_iadd dX12_layOn_79 ?_
        obtain ⟨hg6, h⟩ := gd h
        refine ok_iald2 (N := ((114 : Int32) + y1).toNatClampNeg) dX12_layOn_80 hT1 hg6 rfl ?_
        refine ok_iadd dX12_layOn_81 ?_
        obtain ⟨I7, eI7, h⟩ := blE h
        refine ok_putI2 (ci := 12) (k := 31) dX12_layOn_82 flRX12_456 rfl (Or.inl rfl) hZ_b0 (by decide) eI7 ?_
        cases h
        exact ok_vret dX12_layOn_85 hQ
    · have h := (if_neg hc3).symm.trans h
      refine ok_aload_n dX12_layOn_32 0 rfl ?_
      have hT8 : Z[(rO O b0 30)]? = some (13, 80) := (wt_f (ci := 12) (k := 30) hW hZ_b0 rfl).2
      refine ok_getR (ci := 12) (k := 30) dX12_layOn_33 flRX12_62 rfl hW hZ_b0 (by decide) ?_
      refine ok_iload_n dX12_layOn_36 2 rfl ?_
      refine ok_iload_n dX12_layOn_37 3 rfl ?_
      refine ok_iadd dX12_layOn_38 ?_
      refine ok_aload_n dX12_layOn_39 0 rfl ?_
      refine ok_iload_n dX12_layOn_40 1 rfl ?_
      refine ok_iload_n dX12_layOn_41 3 rfl ?_
      obtain ⟨r9, hr10, h⟩ := bd h
      refine ok_callV (d := ((d + 1) + 2)) (mt := m12_keyOf) (mc := 0) (ms := 0) (As := [.int y1, .int y3]) (r := [.int (y2 + y3), .ref (rO O b0 30)]) dX12_layOn_42 mo12_keyOf mv12_keyOf lkRX12_87 rfl hZ_b0 (q := (RX12, TX12, 34)) rfl rfl rfl (Nat.le_of_ble_eq_true rfl) (by show _ + 1 ≤ d + _; omega) (Nat.le_refl _) (Nat.le_refl _) (pRt_mono ?_)
      refine k12_keyOf (d + 1) hW hZ_b0 hr10 ?_
      intro _
      show Ok g _ Qx 45 [(0, .ref b0), (1, .int y1), (2, .int y2), (3, .int y3)] [.int r9, .int (y2 + y3), .ref (rO O b0 30)] (Z, I, L, O)
      obtain ⟨hg11, h⟩ := gd h
      obtain ⟨I12, eI12, h⟩ := blE h
      refine ok_iast3 dX12_layOn_45 hT8 hg11 rfl eI12 ?_
      refine ok_iinc (u := (y3 + 1)) (l' := [(3, .int (y3 + 1)), (0, .ref b0), (1, .int y1), (2, .int y2)]) dX12_layOn_46 3 rfl rfl (Nat.le_of_ble_eq_true rfl) rfl ?_
      refine ok_goto (t := 19) dX12_layOn_49 (by decide) ?_
      refine ok_sub [1, 2, 3, 0] rfl ?_
      exact ih I12 b0 y1 y2 (y3 + 1) hZ_b0 h
def f12_layOn_c2 (n : Nat) (O : (Nat → Nat → Option Nat)) : Nat → (Nat → Nat → Int32) → Nat → Int32 → Int32 → Option ((Nat → Nat → Int32))
  | 0, _, _, _, _ => none
  | m + 1, I, b0, y1, y2 => (f12_isOver n I O b0 y1 y2).bind fun r1 => (if r1 = 0 then f12_layOn_c2 n O m I b0 y1 (y2 + 1) else f12_layOn_c19 n O n I b0 y1 y2 (0 : Int32))
set_option maxHeartbeats 4000000 in
set_option maxRecDepth 20000 in
theorem o12_layOn_c2 {g : pG} {Qx : Option Value → pW → Prop} {Z : pZ} {L : (Nat → Nat → Int64)} {O : (Nat → Nat → Option Nat)} {n : Nat} {res : (Nat → Nat → Int32)} (d : Nat) (hW : WT Z O) (hQ : Qx none (Z, res, L, O)) : ∀ (m : Nat) (I : (Nat → Nat → Int32)) (b0 : Nat) (y1 : Int32) (y2 : Int32), (Z[b0]? = some (12, 34)) → f12_layOn_c2 n O m I b0 y1 y2 = some res → Ok g (d + 4, RX12, cX12_layOn, 4, false, 0, 0, Z.length, pSl Z) Qx 2 [(0, .ref b0), (1, .int y1), (2, .int y2)] [] (Z, I, L, O) := by
  intro m
  induction m with
  | zero => intro I b0 y1 y2 hZ_b0 h; rw [f12_layOn_c2] at h; cases h
  | succ m ih =>
    intro I b0 y1 y2 hZ_b0 h
    rw [f12_layOn_c2] at h
    refine ok_aload_n dX12_layOn_2 0 rfl ?_
    refine ok_iload_n dX12_layOn_3 1 rfl ?_
    refine ok_iload_n dX12_layOn_4 2 rfl ?_
    obtain ⟨r1, hr2, h⟩ := bd h
    refine ok_callV (d := ((d + 0) + 3)) (mt := m12_isOver) (mc := 0) (ms := 0) (As := [.int y1, .int y2]) (r := []) dX12_layOn_5 mo12_isOver mv12_isOver lkRX12_459 rfl hZ_b0 (q := (RX12, TX12, 34)) rfl rfl rfl (Nat.le_of_ble_eq_true rfl) (by show _ + 1 ≤ d + _; omega) (Nat.le_refl _) (Nat.le_refl _) (pRt_mono ?_)
    refine k12_isOver (d + 0) hW hZ_b0 hr2 ?_
    intro hbr1
    show Ok g _ Qx 8 [(0, .ref b0), (1, .int y1), (2, .int y2)] [.int r1] (Z, I, L, O)
    refine ok_if_ne (t := 17) dX12_layOn_8 (by decide) (fun hc3 => ?_) (fun hc3 => ?_)
    · have h := (if_neg hc3).symm.trans h
      refine ok_iconst (v := 0) dX12_layOn_17 (by decide) ?_
      refine ok_istore_n (l' := [(3, .int 0), (0, .ref b0), (1, .int y1), (2, .int y2)]) dX12_layOn_18 rfl (Nat.le_of_ble_eq_true rfl) rfl ?_
      refine ok_sub [1, 2, 3, 0] rfl ?_
      exact o12_layOn_c19 d hW hQ  n I b0 y1 y2 (0 : Int32) hZ_b0 h
    · have h := (if_pos hc3).symm.trans h
      refine ok_iinc (u := (y2 + 1)) (l' := [(2, .int (y2 + 1)), (0, .ref b0), (1, .int y1)]) dX12_layOn_11 2 rfl rfl (Nat.le_of_ble_eq_true rfl) rfl ?_
      refine ok_goto (t := 2) dX12_layOn_14 (by decide) ?_
      refine ok_sub [1, 2, 0] rfl ?_
      exact ih I b0 y1 (y2 + 1) hZ_b0 h
def f12_layOn (n : Nat) (I : (Nat → Nat → Int32)) (O : (Nat → Nat → Option Nat)) (a0 : Nat) (x1 : Int32) : Option ((Nat → Nat → Int32)) := f12_layOn_c2 n O n I a0 x1 (0 : Int32)
set_option maxHeartbeats 4000000 in
set_option maxRecDepth 20000 in
theorem o12_layOn {g : pG} {Qx : Option Value → pW → Prop} {Z : pZ} {I : (Nat → Nat → Int32)} {L : (Nat → Nat → Int64)} {O : (Nat → Nat → Option Nat)} {n : Nat} {a0 : Nat} {x1 : Int32} {res : (Nat → Nat → Int32)} (d : Nat) (hW : WT Z O) (hZ0 : Z[a0]? = some (12, 34)) (h : f12_layOn n I O a0 x1 = some res) (hQ : Qx none (Z, res, L, O)) : Ok g (d + 4, RX12, cX12_layOn, 4, false, 0, 0, Z.length, pSl Z) Qx 0 [(0, .ref a0), (1, .int x1)] [] (Z, I, L, O) := by
  unfold f12_layOn at h
  refine ok_iconst (v := 0) dX12_layOn_0 (by decide) ?_
  refine ok_istore_n (l' := [(2, .int 0), (0, .ref a0), (1, .int x1)]) dX12_layOn_1 rfl (Nat.le_of_ble_eq_true rfl) rfl ?_
  refine ok_sub [1, 2, 0] rfl ?_
  exact o12_layOn_c2 d hW hQ  n I a0 x1 (0 : Int32) hZ0 h
theorem k12_layOn {g : pG} {Q : Option Value → pW → Prop} {Z : pZ} {I : (Nat → Nat → Int32)} {L : (Nat → Nat → Int64)} {O : (Nat → Nat → Option Nat)} {n : Nat} {a0 : Nat} {x1 : Int32} {res : (Nat → Nat → Int32)} (d : Nat) (hW : WT Z O) (hZ0 : Z[a0]? = some (12, 34)) (h : f12_layOn n I O a0 x1 = some res) (hQ : Q none (Z, res, L, O)) : CT g (d + 4) m12_layOn 0 0 [.ref a0, .int x1] (Z, I, L, O) Q :=
  ct_of_ok (mt := m12_layOn) (ini := false) mo12_layOn.2.2.2.2 (fun h => by cases h) (Nat.le_of_ble_eq_true rfl) (o12_layOn d hW hZ0 h ⟨trivial, hQ, rfl, rfl⟩)
