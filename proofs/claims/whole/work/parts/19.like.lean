theorem flRX2_9 : FL RX2 9 2 0 := ⟨(RX2, TX2, 10), rfl, by decide, tb_i 235 (by decide +kernel)⟩
theorem flRX2_15 : FL RX2 15 2 1 := ⟨(RX2, TX2, 10), rfl, by decide, tb_i 236 (by decide +kernel)⟩
theorem flRX2_18 : FL RX2 18 2 2 := ⟨(RX2, TX2, 10), rfl, by decide, tb_i 237 (by decide +kernel)⟩
theorem flRX2_21 : FL RX2 21 2 3 := ⟨(RX2, TX2, 10), rfl, by decide, tb_i 238 (by decide +kernel)⟩
theorem flRX2_24 : FL RX2 24 2 4 := ⟨(RX2, TX2, 10), rfl, by decide, tb_i 239 (by decide +kernel)⟩
theorem flRX2_30 : FL RX2 30 2 6 := ⟨(RX2, TX2, 10), rfl, by decide, tb_i 241 (by decide +kernel)⟩
theorem flRX2_82 : FL RX2 82 9 6 := ⟨(RX9, TX9, 10), rfl, by decide, tb_i 139 (by decide +kernel)⟩
theorem flRX2_88 : FL RX2 88 9 2 := ⟨(RX9, TX9, 10), rfl, by decide, tb_i 130 (by decide +kernel)⟩
theorem flRX2_91 : FL RX2 91 9 0 := ⟨(RX9, TX9, 10), rfl, by decide, tb_i 126 (by decide +kernel)⟩
theorem flRX2_114 : FL RX2 114 2 8 := ⟨(RX2, TX2, 10), rfl, by decide, tb_i 243 (by decide +kernel)⟩
theorem flRX2_117 : FL RX2 117 2 9 := ⟨(RX2, TX2, 10), rfl, by decide, tb_i 245 (by decide +kernel)⟩
theorem lkRX2_33 : Cond.methodLink RX2 33 yX10_size ∈ lw_tbl := tb_i 1002 (by decide +kernel)
theorem lkRX2_39 : Cond.methodLink RX2 39 yJ9_min_7cf53 ∈ lw_tbl := tb_i 1003 (by decide +kernel)
theorem lkRX2_45 : Cond.methodLink RX2 45 yX10_isTorn ∈ lw_tbl := tb_i 1004 (by decide +kernel)
theorem lkRX2_49 : Cond.methodLink RX2 49 yX10_keyAt ∈ lw_tbl := tb_i 1005 (by decide +kernel)
theorem lkRX2_52 : Cond.methodLink RX2 52 yX2_isSame ∈ lw_tbl := tb_i 1029 (by decide +kernel)
theorem lkRX2_55 : Cond.methodLink RX2 55 yX2_lay ∈ lw_tbl := tb_i 999 (by decide +kernel)
theorem lkRX2_59 : Cond.methodLink RX2 59 yX2_changesTo ∈ lw_tbl := tb_i 1006 (by decide +kernel)
theorem lkRX2_62 : Cond.methodLink RX2 62 yX2_matches ∈ lw_tbl := tb_i 1010 (by decide +kernel)
theorem lkRX2_65 : Cond.methodLink RX2 65 yX2_sharedFrom ∈ lw_tbl := tb_i 1021 (by decide +kernel)
theorem lkRX2_68 : Cond.methodLink RX2 68 yX2_pickShared ∈ lw_tbl := tb_i 1032 (by decide +kernel)
theorem lkRX2_72 : Cond.methodLink RX2 72 yJ9_max_7cf53 ∈ lw_tbl := tb_i 1025 (by decide +kernel)
theorem lkRX2_75 : Cond.methodLink RX2 75 yX2_isSameHole ∈ lw_tbl := tb_i 1026 (by decide +kernel)
theorem lkRX2_78 : Cond.methodLink RX2 78 yX2_firstLike ∈ lw_tbl := tb_i 1036 (by decide +kernel)
theorem lkRX2_95 : Cond.methodLink RX2 95 yX2_unlikeAt ∈ lw_tbl := tb_i 1056 (by decide +kernel)
theorem lkRX2_99 : Cond.methodLink RX2 99 yX10_tornPlaces ∈ lw_tbl := tb_i 1148 (by decide +kernel)
theorem lkRX2_102 : Cond.methodLink RX2 102 yJ6_bitCount_0f7a4 ∈ lw_tbl := tb_i 1149 (by decide +kernel)
theorem lkRX2_107 : Cond.methodLink RX2 107 yX2_fill ∈ lw_tbl := tb_i 1150 (by decide +kernel)
theorem lkRX2_110 : Cond.methodLink RX2 110 yX2_hasPhrase ∈ lw_tbl := tb_i 1154 (by decide +kernel)
theorem lkRX2_120 : Cond.methodLink RX2 120 yX2_sameFrom ∈ lw_tbl := tb_i 1076 (by decide +kernel)
theorem lkRX2_123 : Cond.methodLink RX2 123 yX2_isMirrored ∈ lw_tbl := tb_i 1088 (by decide +kernel)
theorem lkRX2_126 : Cond.methodLink RX2 126 yX2_longestAhead ∈ lw_tbl := tb_i 1224 (by decide +kernel)
theorem lkRX2_146 : Cond.methodLink RX2 146 yX2_lies ∈ lw_tbl := tb_i 1131 (by decide +kernel)
theorem dX2_lay_0 : decode cX2_lay 0 = .ok (.aload_n 0, 1) := by decide +kernel
theorem dX2_lay_1 : decode cX2_lay 1 = .ok (.iload_n 1, 1) := by decide +kernel
theorem dX2_lay_2 : decode cX2_lay 2 = .ok (.invokevirtual 33, 3) := by decide +kernel
theorem dX2_lay_5 : decode cX2_lay 5 = .ok (.aload_n 2, 1) := by decide +kernel
theorem dX2_lay_6 : decode cX2_lay 6 = .ok (.arraylength, 1) := by decide +kernel
theorem dX2_lay_7 : decode cX2_lay 7 = .ok (.invokestatic 39, 3) := by decide +kernel
theorem dX2_lay_10 : decode cX2_lay 10 = .ok (.istore_n 3, 1) := by decide +kernel
theorem dX2_lay_11 : decode cX2_lay 11 = .ok (.iconst 0, 1) := by decide +kernel
theorem dX2_lay_12 : decode cX2_lay 12 = .ok (.istore 4, 2) := by decide +kernel
theorem dX2_lay_14 : decode cX2_lay 14 = .ok (.iload 4, 2) := by decide +kernel
theorem dX2_lay_16 : decode cX2_lay 16 = .ok (.iload_n 3, 1) := by decide +kernel
theorem dX2_lay_17 : decode cX2_lay 17 = .ok (.if_icmp .ge 35, 3) := by decide +kernel
theorem dX2_lay_20 : decode cX2_lay 20 = .ok (.aload_n 2, 1) := by decide +kernel
theorem dX2_lay_21 : decode cX2_lay 21 = .ok (.iload 4, 2) := by decide +kernel
theorem dX2_lay_23 : decode cX2_lay 23 = .ok (.aload_n 0, 1) := by decide +kernel
theorem dX2_lay_24 : decode cX2_lay 24 = .ok (.iload_n 1, 1) := by decide +kernel
theorem dX2_lay_25 : decode cX2_lay 25 = .ok (.iload 4, 2) := by decide +kernel
theorem dX2_lay_27 : decode cX2_lay 27 = .ok (.invokevirtual 45, 3) := by decide +kernel
theorem dX2_lay_30 : decode cX2_lay 30 = .ok (.ifCond .eq 8, 3) := by decide +kernel
theorem dX2_lay_33 : decode cX2_lay 33 = .ok (.bipush 6, 2) := by decide +kernel
theorem dX2_lay_35 : decode cX2_lay 35 = .ok (.goto 10, 3) := by decide +kernel
theorem dX2_lay_38 : decode cX2_lay 38 = .ok (.aload_n 0, 1) := by decide +kernel
theorem dX2_lay_39 : decode cX2_lay 39 = .ok (.iload_n 1, 1) := by decide +kernel
theorem dX2_lay_40 : decode cX2_lay 40 = .ok (.iload 4, 2) := by decide +kernel
theorem dX2_lay_42 : decode cX2_lay 42 = .ok (.invokevirtual 49, 3) := by decide +kernel
theorem dX2_lay_45 : decode cX2_lay 45 = .ok (.iastore, 1) := by decide +kernel
theorem dX2_lay_46 : decode cX2_lay 46 = .ok (.iinc 4 1, 3) := by decide +kernel
theorem dX2_lay_49 : decode cX2_lay 49 = .ok (.goto (-35), 3) := by decide +kernel
theorem dX2_lay_52 : decode cX2_lay 52 = .ok (.iload_n 3, 1) := by decide +kernel
theorem dX2_lay_53 : decode cX2_lay 53 = .ok (.ireturn, 1) := by decide +kernel
theorem wi_RX2 : Cond.initialized RX2 ∈ lw_tbl := tb_i 9 (by decide +kernel)
theorem wn_RX2 : RX2 ≠ "java/lang/invoke/MethodHandle" ∧ RX2 ≠ "java/lang/invoke/VarHandle" := ⟨by decide +kernel, by decide +kernel⟩
theorem wp_RX2 : plainName RX2 = true := by decide +kernel
def m2_lay : pMT := (yX2_lay, cX2_lay, 5, some .int)
theorem mo2_lay : mOK m2_lay 3 := ⟨tb_i 1001 (by decide +kernel), wi_RX2, ⟨wn_RX2.1, wn_RX2.2, by decide +kernel⟩, by decide, plainFor_of_name wp_RX2⟩
theorem mv2_lay : mS m2_lay := (tb_i 1000 (by decide +kernel) : Cond.static yX2_lay ∈ lw_tbl)
def f2_lay_c14 (n : Nat) (O : (Nat → Nat → Option Nat)) : Nat → (Nat → Nat → Int32) → Nat → Int32 → Nat → Int32 → Int32 → Option (Int32 × (Nat → Nat → Int32))
  | 0, _, _, _, _, _, _ => none
  | m + 1, I, b0, y1, b2, y3, y4 => (if y3 ≤ y4 then some (y3, I) else (f10_isTorn I O b0 y1 y4).bind fun r2 => (if r2 = 0 then (f10_keyAt I O b0 y1 y4).bind fun r5 => (if y4 < 0 ∨ 16 ≤ y4.toNatClampNeg then none else bl (sI I b2 y4.toNatClampNeg r5) fun I8 => f2_lay_c14 n O m I8 b0 y1 b2 y3 (y4 + 1)) else (if y4 < 0 ∨ 16 ≤ y4.toNatClampNeg then none else bl (sI I b2 y4.toNatClampNeg (6 : Int32)) fun I10 => f2_lay_c14 n O m I10 b0 y1 b2 y3 (y4 + 1))))
set_option maxHeartbeats 4000000 in
set_option maxRecDepth 20000 in
theorem o2_lay_c14 {g : pG} {Qx : Option Value → pW → Prop} {Z : pZ} {L : (Nat → Nat → Int64)} {O : (Nat → Nat → Option Nat)} {n : Nat} {res : Int32 × (Nat → Nat → Int32)} (d : Nat) (hW : WT Z O) (hQ : Qx (some (.int res.1)) (Z, res.2, L, O)) : ∀ (m : Nat) (I : (Nat → Nat → Int32)) (b0 : Nat) (y1 : Int32) (b2 : Nat) (y3 : Int32) (y4 : Int32), (Z[b0]? = some (10, 5)) → (Z[b2]? = some (13, 16)) → f2_lay_c14 n O m I b0 y1 b2 y3 y4 = some res → Ok g (d + 4, RX2, cX2_lay, 5, false, 0, 0, Z.length, pSl Z) Qx 14 [(0, .ref b0), (1, .int y1), (2, .ref b2), (3, .int y3), (4, .int y4)] [] (Z, I, L, O) := by
  intro m
  induction m with
  | zero => intro I b0 y1 b2 y3 y4 hZ_b0 hZ_b2 h; rw [f2_lay_c14] at h; cases h
  | succ m ih =>
    intro I b0 y1 b2 y3 y4 hZ_b0 hZ_b2 h
    rw [f2_lay_c14] at h
    refine ok_iload dX2_lay_14 4 rfl ?_
    refine ok_iload_n dX2_lay_16 3 rfl ?_
    refine ok_icmp_ge (t := 52) dX2_lay_17 (by decide) (fun hc1 => ?_) (fun hc1 => ?_)
    · have h := (if_pos hc1).symm.trans h
      refine ok_iload_n dX2_lay_52 3 rfl ?_
      cases h
      exact ok_iret dX2_lay_53 hQ
    · have h := (if_neg hc1).symm.trans h
      refine ok_aload_n dX2_lay_20 2 rfl ?_
      refine ok_iload dX2_lay_21 4 rfl ?_
      refine ok_aload_n dX2_lay_23 0 rfl ?_
      refine ok_iload_n dX2_lay_24 1 rfl ?_
      refine ok_iload dX2_lay_25 4 rfl ?_
      obtain ⟨r2, hr3, h⟩ := bd h
      refine ok_callV (d := ((d + 0) + 3)) (mt := m10_isTorn) (mc := 0) (ms := 0) (As := [.int y1, .int y4]) (r := [.int y4, .ref b2]) dX2_lay_27 mo10_isTorn mv10_isTorn lkRX2_45 rfl hZ_b0 (q := (RX10, TX10, 5)) rfl rfl rfl (Nat.le_of_ble_eq_true rfl) (by show _ + 1 ≤ d + _; omega) (Nat.le_refl _) (Nat.le_refl _) (pRt_mono ?_)
      refine k10_isTorn (d + 0) hW hZ_b0 hr3 ?_
      intro hbr2
      show Ok g _ Qx 30 [(0, .ref b0), (1, .int y1), (2, .ref b2), (3, .int y3), (4, .int y4)] [.int r2, .int y4, .ref b2] (Z, I, L, O)
      refine ok_if_eq (t := 38) dX2_lay_30 (by decide) (fun hc4 => ?_) (fun hc4 => ?_)
      · have h := (if_pos hc4).symm.trans h
        refine ok_aload_n dX2_lay_38 0 rfl ?_
        refine ok_iload_n dX2_lay_39 1 rfl ?_
        refine ok_iload dX2_lay_40 4 rfl ?_
        obtain ⟨r5, hr6, h⟩ := bd h
        refine ok_callV (d := ((d + 0) + 3)) (mt := m10_keyAt) (mc := 0) (ms := 0) (As := [.int y1, .int y4]) (r := [.int y4, .ref b2]) dX2_lay_42 mo10_keyAt mv10_keyAt lkRX2_49 rfl hZ_b0 (q := (RX10, TX10, 5)) rfl rfl rfl (Nat.le_of_ble_eq_true rfl) (by show _ + 1 ≤ d + _; omega) (Nat.le_refl _) (Nat.le_refl _) (pRt_mono ?_)
        refine k10_keyAt (d + 0) hW hZ_b0 hr6 ?_
        intro _
        show Ok g _ Qx 45 [(0, .ref b0), (1, .int y1), (2, .ref b2), (3, .int y3), (4, .int y4)] [.int r5, .int y4, .ref b2] (Z, I, L, O)
        obtain ⟨hg7, h⟩ := gd h
        obtain ⟨I8, eI8, h⟩ := blE h
        refine ok_iast3 dX2_lay_45 hZ_b2 hg7 rfl eI8 ?_
        refine ok_iinc (u := (y4 + 1)) (l' := [(4, .int (y4 + 1)), (0, .ref b0), (1, .int y1), (2, .ref b2), (3, .int y3)]) dX2_lay_46 4 rfl rfl (Nat.le_of_ble_eq_true rfl) rfl ?_
        refine ok_goto (t := 14) dX2_lay_49 (by decide) ?_
        refine ok_sub [1, 2, 3, 4, 0] rfl ?_
        exact ih I8 b0 y1 b2 y3 (y4 + 1) hZ_b0 hZ_b2 h
      · have h := (if_neg hc4).symm.trans h
        refine ok_bipush (v := 6) dX2_lay_33 (by decide) ?_
        refine ok_goto (t := 45) dX2_lay_35 (by decide) ?_
        obtain ⟨hg9, h⟩ := gd h
        obtain ⟨I10, eI10, h⟩ := blE h
        refine ok_iast3 dX2_lay_45 hZ_b2 hg9 rfl eI10 ?_
        refine ok_iinc (u := (y4 + 1)) (l' := [(4, .int (y4 + 1)), (0, .ref b0), (1, .int y1), (2, .ref b2), (3, .int y3)]) dX2_lay_46 4 rfl rfl (Nat.le_of_ble_eq_true rfl) rfl ?_
        refine ok_goto (t := 14) dX2_lay_49 (by decide) ?_
        refine ok_sub [1, 2, 3, 4, 0] rfl ?_
        exact ih I10 b0 y1 b2 y3 (y4 + 1) hZ_b0 hZ_b2 h
def f2_lay (n : Nat) (I : (Nat → Nat → Int32)) (O : (Nat → Nat → Option Nat)) (a0 : Nat) (x1 : Int32) (a2 : Nat) : Option (Int32 × (Nat → Nat → Int32)) := (f10_size I O a0 x1).bind fun r1 => (fJ9_min_7cf53 r1 (16 : Int32)).bind fun r3 => f2_lay_c14 n O n I a0 x1 a2 r3 (0 : Int32)
set_option maxHeartbeats 4000000 in
set_option maxRecDepth 20000 in
theorem o2_lay {g : pG} {Qx : Option Value → pW → Prop} {Z : pZ} {I : (Nat → Nat → Int32)} {L : (Nat → Nat → Int64)} {O : (Nat → Nat → Option Nat)} {n : Nat} {a0 : Nat} {x1 : Int32} {a2 : Nat} {res : Int32 × (Nat → Nat → Int32)} (d : Nat) (hW : WT Z O) (hZ0 : Z[a0]? = some (10, 5)) (hZ2 : Z[a2]? = some (13, 16)) (h : f2_lay n I O a0 x1 a2 = some res) (hQ : Qx (some (.int res.1)) (Z, res.2, L, O)) : Ok g (d + 4, RX2, cX2_lay, 5, false, 0, 0, Z.length, pSl Z) Qx 0 [(0, .ref a0), (1, .int x1), (2, .ref a2)] [] (Z, I, L, O) := by
  unfold f2_lay at h
  refine ok_aload_n dX2_lay_0 0 rfl ?_
  refine ok_iload_n dX2_lay_1 1 rfl ?_
  obtain ⟨r1, hr2, h⟩ := bd h
  refine ok_callV (d := ((d + 0) + 3)) (mt := m10_size) (mc := 0) (ms := 0) (As := [.int x1]) (r := []) dX2_lay_2 mo10_size mv10_size lkRX2_33 rfl hZ0 (q := (RX10, TX10, 5)) rfl rfl rfl (Nat.le_of_ble_eq_true rfl) (by show _ + 1 ≤ d + _; omega) (Nat.le_refl _) (Nat.le_refl _) (pRt_mono ?_)
  refine k10_size (d + 0) hW hZ0 hr2 ?_
  intro _
  show Ok g _ Qx 5 [(0, .ref a0), (1, .int x1), (2, .ref a2)] [.int r1] (Z, I, L, O)
  refine ok_aload_n dX2_lay_5 2 rfl ?_
  refine ok_alen (v := 16) dX2_lay_6 hZ2 (Or.inl rfl) (by decide) ?_
  obtain ⟨r3, hr4, h⟩ := bd h
  refine ok_callS (d := ((d + 1) + 2)) (mt := mJ9_min_7cf53) (mc := 0) (ms := 0) (As := [.int r1, .int 16]) (r := []) dX2_lay_7 moJ9_min_7cf53 mvJ9_min_7cf53 lkRX2_39 rfl rfl (Nat.le_of_ble_eq_true rfl) (by show _ + 1 ≤ d + _; omega) (Nat.le_refl _) (Nat.le_refl _) (pRt_mono ?_)
  refine kJ9_min_7cf53 (d + 1) hW  hr4 ?_
  intro _
  show Ok g _ Qx 10 [(0, .ref a0), (1, .int x1), (2, .ref a2)] [.int r3] (Z, I, L, O)
  refine ok_istore_n (l' := [(3, .int r3), (0, .ref a0), (1, .int x1), (2, .ref a2)]) dX2_lay_10 rfl (Nat.le_of_ble_eq_true rfl) rfl ?_
  refine ok_iconst (v := 0) dX2_lay_11 (by decide) ?_
  refine ok_istore (l' := [(4, .int 0), (3, .int r3), (0, .ref a0), (1, .int x1), (2, .ref a2)]) dX2_lay_12 (Nat.le_of_ble_eq_true rfl) rfl ?_
  refine ok_sub [2, 3, 4, 1, 0] rfl ?_
  exact o2_lay_c14 d hW hQ  n I a0 x1 a2 r3 (0 : Int32) hZ0 hZ2 h
theorem k2_lay {g : pG} {Q : Option Value → pW → Prop} {Z : pZ} {I : (Nat → Nat → Int32)} {L : (Nat → Nat → Int64)} {O : (Nat → Nat → Option Nat)} {n : Nat} {a0 : Nat} {x1 : Int32} {a2 : Nat} {res : Int32 × (Nat → Nat → Int32)} (d : Nat) (hW : WT Z O) (hZ0 : Z[a0]? = some (10, 5)) (hZ2 : Z[a2]? = some (13, 16)) (h : f2_lay n I O a0 x1 a2 = some res) (hQ : Q (some (.int res.1)) (Z, res.2, L, O)) : CT g (d + 4) m2_lay 0 0 [.ref a0, .int x1, .ref a2] (Z, I, L, O) Q :=
  ct_of_ok (mt := m2_lay) (ini := false) mo2_lay.2.2.2.2 (fun h => by cases h) (Nat.le_of_ble_eq_true rfl) (o2_lay d hW hZ0 hZ2 h ⟨trivial, hQ, rfl, rfl⟩)
theorem dX2_matches_0 : decode cX2_matches 0 = .ok (.iload_n 0, 1) := by decide +kernel
theorem dX2_matches_1 : decode cX2_matches 1 = .ok (.iload_n 1, 1) := by decide +kernel
theorem dX2_matches_2 : decode cX2_matches 2 = .ok (.if_icmp .eq 15, 3) := by decide +kernel
theorem dX2_matches_5 : decode cX2_matches 5 = .ok (.iload_n 0, 1) := by decide +kernel
theorem dX2_matches_6 : decode cX2_matches 6 = .ok (.bipush 6, 2) := by decide +kernel
theorem dX2_matches_8 : decode cX2_matches 8 = .ok (.if_icmp .eq 9, 3) := by decide +kernel
theorem dX2_matches_11 : decode cX2_matches 11 = .ok (.iload_n 1, 1) := by decide +kernel
theorem dX2_matches_12 : decode cX2_matches 12 = .ok (.bipush 6, 2) := by decide +kernel
theorem dX2_matches_14 : decode cX2_matches 14 = .ok (.if_icmp .ne 7, 3) := by decide +kernel
theorem dX2_matches_17 : decode cX2_matches 17 = .ok (.iconst 1, 1) := by decide +kernel
theorem dX2_matches_18 : decode cX2_matches 18 = .ok (.goto 4, 3) := by decide +kernel
theorem dX2_matches_21 : decode cX2_matches 21 = .ok (.iconst 0, 1) := by decide +kernel
theorem dX2_matches_22 : decode cX2_matches 22 = .ok (.ireturn, 1) := by decide +kernel
def m2_matches : pMT := (yX2_matches, cX2_matches, 2, some .boolean)
theorem mo2_matches : mOK m2_matches 2 := ⟨tb_i 1012 (by decide +kernel), wi_RX2, ⟨wn_RX2.1, wn_RX2.2, by decide +kernel⟩, by decide, plainFor_of_name wp_RX2⟩
theorem mv2_matches : mS m2_matches := (tb_i 1011 (by decide +kernel) : Cond.static yX2_matches ∈ lw_tbl)
def f2_matches (x0 : Int32) (x1 : Int32) : Option (Int32) := (if x0 = x1 then some ((1 : Int32)) else (if x0 = (6 : Int32) then some ((1 : Int32)) else (if x1 = (6 : Int32) then some ((1 : Int32)) else some ((0 : Int32)))))
set_option maxHeartbeats 4000000 in
set_option maxRecDepth 20000 in
theorem o2_matches {g : pG} {Qx : Option Value → pW → Prop} {Z : pZ} {I : (Nat → Nat → Int32)} {L : (Nat → Nat → Int64)} {O : (Nat → Nat → Option Nat)} {x0 : Int32} {x1 : Int32} {res : Int32} (d : Nat) (hW : WT Z O) (h : f2_matches x0 x1 = some res) (hQ : (res = 0 ∨ res = 1) → Qx (some (.int res)) (Z, I, L, O)) : Ok g (d + 2, RX2, cX2_matches, 2, false, 0, 0, Z.length, pSl Z) Qx 0 [(0, .int x0), (1, .int x1)] [] (Z, I, L, O) := by
  unfold f2_matches at h
  refine ok_iload_n dX2_matches_0 0 rfl ?_
  refine ok_iload_n dX2_matches_1 1 rfl ?_
  refine ok_icmp_eq (t := 17) dX2_matches_2 (by decide) (fun hc1 => ?_) (fun hc1 => ?_)
  · have h := (if_pos hc1).symm.trans h
    refine ok_iconst (v := 1) dX2_matches_17 (by decide) ?_
    refine ok_goto (t := 22) dX2_matches_18 (by decide) ?_
    cases h
    exact ok_iret dX2_matches_22 (hQ (Or.inr rfl))
  · have h := (if_neg hc1).symm.trans h
    refine ok_iload_n dX2_matches_5 0 rfl ?_
    refine ok_bipush (v := 6) dX2_matches_6 (by decide) ?_
    refine ok_icmp_eq (t := 17) dX2_matches_8 (by decide) (fun hc2 => ?_) (fun hc2 => ?_)
    · have h := (if_pos hc2).symm.trans h
      refine ok_iconst (v := 1) dX2_matches_17 (by decide) ?_
      refine ok_goto (t := 22) dX2_matches_18 (by decide) ?_
      cases h
      exact ok_iret dX2_matches_22 (hQ (Or.inr rfl))
    · have h := (if_neg hc2).symm.trans h
      refine ok_iload_n dX2_matches_11 1 rfl ?_
      refine ok_bipush (v := 6) dX2_matches_12 (by decide) ?_
      refine ok_icmp_ne (t := 21) dX2_matches_14 (by decide) (fun hc3 => ?_) (fun hc3 => ?_)
      · have h := (if_neg hc3).symm.trans h
        refine ok_iconst (v := 0) dX2_matches_21 (by decide) ?_
        cases h
        exact ok_iret dX2_matches_22 (hQ (Or.inl rfl))
      · have h := (if_pos hc3).symm.trans h
        refine ok_iconst (v := 1) dX2_matches_17 (by decide) ?_
        refine ok_goto (t := 22) dX2_matches_18 (by decide) ?_
        cases h
        exact ok_iret dX2_matches_22 (hQ (Or.inr rfl))
theorem k2_matches {g : pG} {Q : Option Value → pW → Prop} {Z : pZ} {I : (Nat → Nat → Int32)} {L : (Nat → Nat → Int64)} {O : (Nat → Nat → Option Nat)} {x0 : Int32} {x1 : Int32} {res : Int32} (d : Nat) (hW : WT Z O) (h : f2_matches x0 x1 = some res) (hQ : Q (some (.int res)) (Z, I, L, O)) : CT g (d + 2) m2_matches 0 0 [.int x0, .int x1] (Z, I, L, O) Q :=
  ct_of_ok (mt := m2_matches) (ini := false) mo2_matches.2.2.2.2 (fun h => by cases h) (Nat.le_of_ble_eq_true rfl) (o2_matches d hW  h (fun hb => ⟨hb, hQ, rfl, rfl⟩))
theorem dX2_isSame_0 : decode cX2_isSame 0 = .ok (.iload_n 0, 1) := by decide +kernel
theorem dX2_isSame_1 : decode cX2_isSame 1 = .ok (.iload_n 1, 1) := by decide +kernel
theorem dX2_isSame_2 : decode cX2_isSame 2 = .ok (.if_icmp .ne 13, 3) := by decide +kernel
theorem dX2_isSame_5 : decode cX2_isSame 5 = .ok (.iload_n 0, 1) := by decide +kernel
theorem dX2_isSame_6 : decode cX2_isSame 6 = .ok (.bipush 6, 2) := by decide +kernel
theorem dX2_isSame_8 : decode cX2_isSame 8 = .ok (.if_icmp .eq 7, 3) := by decide +kernel
theorem dX2_isSame_11 : decode cX2_isSame 11 = .ok (.iconst 1, 1) := by decide +kernel
theorem dX2_isSame_12 : decode cX2_isSame 12 = .ok (.goto 4, 3) := by decide +kernel
theorem dX2_isSame_15 : decode cX2_isSame 15 = .ok (.iconst 0, 1) := by decide +kernel
theorem dX2_isSame_16 : decode cX2_isSame 16 = .ok (.ireturn, 1) := by decide +kernel
def m2_isSame : pMT := (yX2_isSame, cX2_isSame, 2, some .boolean)
theorem mo2_isSame : mOK m2_isSame 2 := ⟨tb_i 1031 (by decide +kernel), wi_RX2, ⟨wn_RX2.1, wn_RX2.2, by decide +kernel⟩, by decide, plainFor_of_name wp_RX2⟩
theorem mv2_isSame : mS m2_isSame := (tb_i 1030 (by decide +kernel) : Cond.static yX2_isSame ∈ lw_tbl)
def f2_isSame (x0 : Int32) (x1 : Int32) : Option (Int32) := (if x0 = x1 then (if x0 = (6 : Int32) then some ((0 : Int32)) else some ((1 : Int32))) else some ((0 : Int32)))
set_option maxHeartbeats 4000000 in
set_option maxRecDepth 20000 in
theorem o2_isSame {g : pG} {Qx : Option Value → pW → Prop} {Z : pZ} {I : (Nat → Nat → Int32)} {L : (Nat → Nat → Int64)} {O : (Nat → Nat → Option Nat)} {x0 : Int32} {x1 : Int32} {res : Int32} (d : Nat) (hW : WT Z O) (h : f2_isSame x0 x1 = some res) (hQ : (res = 0 ∨ res = 1) → Qx (some (.int res)) (Z, I, L, O)) : Ok g (d + 2, RX2, cX2_isSame, 2, false, 0, 0, Z.length, pSl Z) Qx 0 [(0, .int x0), (1, .int x1)] [] (Z, I, L, O) := by
  unfold f2_isSame at h
  refine ok_iload_n dX2_isSame_0 0 rfl ?_
  refine ok_iload_n dX2_isSame_1 1 rfl ?_
  refine ok_icmp_ne (t := 15) dX2_isSame_2 (by decide) (fun hc1 => ?_) (fun hc1 => ?_)
  · have h := (if_neg hc1).symm.trans h
    refine ok_iconst (v := 0) dX2_isSame_15 (by decide) ?_
    cases h
    exact ok_iret dX2_isSame_16 (hQ (Or.inl rfl))
  · have h := (if_pos hc1).symm.trans h
    refine ok_iload_n dX2_isSame_5 0 rfl ?_
    refine ok_bipush (v := 6) dX2_isSame_6 (by decide) ?_
    refine ok_icmp_eq (t := 15) dX2_isSame_8 (by decide) (fun hc2 => ?_) (fun hc2 => ?_)
    · have h := (if_pos hc2).symm.trans h
      refine ok_iconst (v := 0) dX2_isSame_15 (by decide) ?_
      cases h
      exact ok_iret dX2_isSame_16 (hQ (Or.inl rfl))
    · have h := (if_neg hc2).symm.trans h
      refine ok_iconst (v := 1) dX2_isSame_11 (by decide) ?_
      refine ok_goto (t := 16) dX2_isSame_12 (by decide) ?_
      cases h
      exact ok_iret dX2_isSame_16 (hQ (Or.inr rfl))
theorem k2_isSame {g : pG} {Q : Option Value → pW → Prop} {Z : pZ} {I : (Nat → Nat → Int32)} {L : (Nat → Nat → Int64)} {O : (Nat → Nat → Option Nat)} {x0 : Int32} {x1 : Int32} {res : Int32} (d : Nat) (hW : WT Z O) (h : f2_isSame x0 x1 = some res) (hQ : Q (some (.int res)) (Z, I, L, O)) : CT g (d + 2) m2_isSame 0 0 [.int x0, .int x1] (Z, I, L, O) Q :=
  ct_of_ok (mt := m2_isSame) (ini := false) mo2_isSame.2.2.2.2 (fun h => by cases h) (Nat.le_of_ble_eq_true rfl) (o2_isSame d hW  h (fun hb => ⟨hb, hQ, rfl, rfl⟩))
theorem dX2_isSameHole_0 : decode cX2_isSameHole 0 = .ok (.iload_n 0, 1) := by decide +kernel
theorem dX2_isSameHole_1 : decode cX2_isSameHole 1 = .ok (.iload_n 1, 1) := by decide +kernel
theorem dX2_isSameHole_2 : decode cX2_isSameHole 2 = .ok (.invokestatic 52, 3) := by decide +kernel
theorem dX2_isSameHole_5 : decode cX2_isSameHole 5 = .ok (.ifCond .eq 11, 3) := by decide +kernel
theorem dX2_isSameHole_8 : decode cX2_isSameHole 8 = .ok (.iload_n 0, 1) := by decide +kernel
theorem dX2_isSameHole_9 : decode cX2_isSameHole 9 = .ok (.ifCond .eq 7, 3) := by decide +kernel
theorem dX2_isSameHole_12 : decode cX2_isSameHole 12 = .ok (.iconst 1, 1) := by decide +kernel
theorem dX2_isSameHole_13 : decode cX2_isSameHole 13 = .ok (.goto 4, 3) := by decide +kernel
theorem dX2_isSameHole_16 : decode cX2_isSameHole 16 = .ok (.iconst 0, 1) := by decide +kernel
theorem dX2_isSameHole_17 : decode cX2_isSameHole 17 = .ok (.ireturn, 1) := by decide +kernel
def m2_isSameHole : pMT := (yX2_isSameHole, cX2_isSameHole, 2, some .boolean)
theorem mo2_isSameHole : mOK m2_isSameHole 2 := ⟨tb_i 1028 (by decide +kernel), wi_RX2, ⟨wn_RX2.1, wn_RX2.2, by decide +kernel⟩, by decide, plainFor_of_name wp_RX2⟩
theorem mv2_isSameHole : mS m2_isSameHole := (tb_i 1027 (by decide +kernel) : Cond.static yX2_isSameHole ∈ lw_tbl)
def f2_isSameHole (x0 : Int32) (x1 : Int32) : Option (Int32) := (f2_isSame x0 x1).bind fun r1 => (if r1 = 0 then some ((0 : Int32)) else (if x0 = 0 then some ((0 : Int32)) else some ((1 : Int32))))
set_option maxHeartbeats 4000000 in
set_option maxRecDepth 20000 in
theorem o2_isSameHole {g : pG} {Qx : Option Value → pW → Prop} {Z : pZ} {I : (Nat → Nat → Int32)} {L : (Nat → Nat → Int64)} {O : (Nat → Nat → Option Nat)} {x0 : Int32} {x1 : Int32} {res : Int32} (d : Nat) (hW : WT Z O) (h : f2_isSameHole x0 x1 = some res) (hQ : (res = 0 ∨ res = 1) → Qx (some (.int res)) (Z, I, L, O)) : Ok g (d + 3, RX2, cX2_isSameHole, 2, false, 0, 0, Z.length, pSl Z) Qx 0 [(0, .int x0), (1, .int x1)] [] (Z, I, L, O) := by
  unfold f2_isSameHole at h
  refine ok_iload_n dX2_isSameHole_0 0 rfl ?_
  refine ok_iload_n dX2_isSameHole_1 1 rfl ?_
  obtain ⟨r1, hr2, h⟩ := bd h
  refine ok_callS (d := ((d + 0) + 2)) (mt := m2_isSame) (mc := 0) (ms := 0) (As := [.int x0, .int x1]) (r := []) dX2_isSameHole_2 mo2_isSame mv2_isSame lkRX2_52 rfl rfl (Nat.le_of_ble_eq_true rfl) (by show _ + 1 ≤ d + _; omega) (Nat.le_refl _) (Nat.le_refl _) (pRt_mono ?_)
  refine k2_isSame (d + 0) hW  hr2 ?_
  intro hbr1
  show Ok g _ Qx 5 [(0, .int x0), (1, .int x1)] [.int r1] (Z, I, L, O)
  refine ok_if_eq (t := 16) dX2_isSameHole_5 (by decide) (fun hc3 => ?_) (fun hc3 => ?_)
  · have h := (if_pos hc3).symm.trans h
    refine ok_iconst (v := 0) dX2_isSameHole_16 (by decide) ?_
    cases h
    exact ok_iret dX2_isSameHole_17 (hQ (Or.inl rfl))
  · have h := (if_neg hc3).symm.trans h
    refine ok_iload_n dX2_isSameHole_8 0 rfl ?_
    refine ok_if_eq (t := 16) dX2_isSameHole_9 (by decide) (fun hc4 => ?_) (fun hc4 => ?_)
    · have h := (if_pos hc4).symm.trans h
      refine ok_iconst (v := 0) dX2_isSameHole_16 (by decide) ?_
      cases h
      exact ok_iret dX2_isSameHole_17 (hQ (Or.inl rfl))
    · have h := (if_neg hc4).symm.trans h
      refine ok_iconst (v := 1) dX2_isSameHole_12 (by decide) ?_
      refine ok_goto (t := 17) dX2_isSameHole_13 (by decide) ?_
      cases h
      exact ok_iret dX2_isSameHole_17 (hQ (Or.inr rfl))
theorem k2_isSameHole {g : pG} {Q : Option Value → pW → Prop} {Z : pZ} {I : (Nat → Nat → Int32)} {L : (Nat → Nat → Int64)} {O : (Nat → Nat → Option Nat)} {x0 : Int32} {x1 : Int32} {res : Int32} (d : Nat) (hW : WT Z O) (h : f2_isSameHole x0 x1 = some res) (hQ : Q (some (.int res)) (Z, I, L, O)) : CT g (d + 3) m2_isSameHole 0 0 [.int x0, .int x1] (Z, I, L, O) Q :=
  ct_of_ok (mt := m2_isSameHole) (ini := false) mo2_isSameHole.2.2.2.2 (fun h => by cases h) (Nat.le_of_ble_eq_true rfl) (o2_isSameHole d hW  h (fun hb => ⟨hb, hQ, rfl, rfl⟩))
theorem dX2_changesTo_0 : decode cX2_changesTo 0 = .ok (.iload_n 1, 1) := by decide +kernel
theorem dX2_changesTo_1 : decode cX2_changesTo 1 = .ok (.ifCond .eq 7, 3) := by decide +kernel
theorem dX2_changesTo_4 : decode cX2_changesTo 4 = .ok (.iload_n 2, 1) := by decide +kernel
theorem dX2_changesTo_5 : decode cX2_changesTo 5 = .ok (.ifCond .ne 7, 3) := by decide +kernel
theorem dX2_changesTo_8 : decode cX2_changesTo 8 = .ok (.iload_n 1, 1) := by decide +kernel
theorem dX2_changesTo_9 : decode cX2_changesTo 9 = .ok (.iload_n 2, 1) := by decide +kernel
theorem dX2_changesTo_10 : decode cX2_changesTo 10 = .ok (.iadd, 1) := by decide +kernel
theorem dX2_changesTo_11 : decode cX2_changesTo 11 = .ok (.ireturn, 1) := by decide +kernel
theorem dX2_changesTo_12 : decode cX2_changesTo 12 = .ok (.aload_n 0, 1) := by decide +kernel
theorem dX2_changesTo_13 : decode cX2_changesTo 13 = .ok (.getfield 9, 3) := by decide +kernel
theorem dX2_changesTo_16 : decode cX2_changesTo 16 = .ok (.iload_n 1, 1) := by decide +kernel
theorem dX2_changesTo_17 : decode cX2_changesTo 17 = .ok (.iconst 1, 1) := by decide +kernel
theorem dX2_changesTo_18 : decode cX2_changesTo 18 = .ok (.isub, 1) := by decide +kernel
theorem dX2_changesTo_19 : decode cX2_changesTo 19 = .ok (.iaload, 1) := by decide +kernel
theorem dX2_changesTo_20 : decode cX2_changesTo 20 = .ok (.aload_n 0, 1) := by decide +kernel
theorem dX2_changesTo_21 : decode cX2_changesTo 21 = .ok (.getfield 15, 3) := by decide +kernel
theorem dX2_changesTo_24 : decode cX2_changesTo 24 = .ok (.iload_n 2, 1) := by decide +kernel
theorem dX2_changesTo_25 : decode cX2_changesTo 25 = .ok (.iconst 1, 1) := by decide +kernel
theorem dX2_changesTo_26 : decode cX2_changesTo 26 = .ok (.isub, 1) := by decide +kernel
theorem dX2_changesTo_27 : decode cX2_changesTo 27 = .ok (.iaload, 1) := by decide +kernel
theorem dX2_changesTo_28 : decode cX2_changesTo 28 = .ok (.invokestatic 62, 3) := by decide +kernel
theorem dX2_changesTo_31 : decode cX2_changesTo 31 = .ok (.ifCond .eq 7, 3) := by decide +kernel
theorem dX2_changesTo_34 : decode cX2_changesTo 34 = .ok (.iconst 0, 1) := by decide +kernel
theorem dX2_changesTo_35 : decode cX2_changesTo 35 = .ok (.goto 4, 3) := by decide +kernel
theorem dX2_changesTo_38 : decode cX2_changesTo 38 = .ok (.iconst 1, 1) := by decide +kernel
theorem dX2_changesTo_39 : decode cX2_changesTo 39 = .ok (.istore_n 3, 1) := by decide +kernel
theorem dX2_changesTo_40 : decode cX2_changesTo 40 = .ok (.aload_n 0, 1) := by decide +kernel
theorem dX2_changesTo_41 : decode cX2_changesTo 41 = .ok (.getfield 18, 3) := by decide +kernel
theorem dX2_changesTo_44 : decode cX2_changesTo 44 = .ok (.iload_n 1, 1) := by decide +kernel
theorem dX2_changesTo_45 : decode cX2_changesTo 45 = .ok (.iconst 1, 1) := by decide +kernel
theorem dX2_changesTo_46 : decode cX2_changesTo 46 = .ok (.isub, 1) := by decide +kernel
theorem dX2_changesTo_47 : decode cX2_changesTo 47 = .ok (.bipush 17, 2) := by decide +kernel
theorem dX2_changesTo_49 : decode cX2_changesTo 49 = .ok (.imul, 1) := by decide +kernel
theorem dX2_changesTo_50 : decode cX2_changesTo 50 = .ok (.iload_n 2, 1) := by decide +kernel
theorem dX2_changesTo_51 : decode cX2_changesTo 51 = .ok (.iadd, 1) := by decide +kernel
theorem dX2_changesTo_52 : decode cX2_changesTo 52 = .ok (.iconst 1, 1) := by decide +kernel
theorem dX2_changesTo_53 : decode cX2_changesTo 53 = .ok (.isub, 1) := by decide +kernel
theorem dX2_changesTo_54 : decode cX2_changesTo 54 = .ok (.iaload, 1) := by decide +kernel
theorem dX2_changesTo_55 : decode cX2_changesTo 55 = .ok (.iload_n 3, 1) := by decide +kernel
theorem dX2_changesTo_56 : decode cX2_changesTo 56 = .ok (.iadd, 1) := by decide +kernel
theorem dX2_changesTo_57 : decode cX2_changesTo 57 = .ok (.istore 4, 2) := by decide +kernel
theorem dX2_changesTo_59 : decode cX2_changesTo 59 = .ok (.aload_n 0, 1) := by decide +kernel
theorem dX2_changesTo_60 : decode cX2_changesTo 60 = .ok (.getfield 18, 3) := by decide +kernel
theorem dX2_changesTo_63 : decode cX2_changesTo 63 = .ok (.iload_n 1, 1) := by decide +kernel
theorem dX2_changesTo_64 : decode cX2_changesTo 64 = .ok (.iconst 1, 1) := by decide +kernel
theorem dX2_changesTo_65 : decode cX2_changesTo 65 = .ok (.isub, 1) := by decide +kernel
theorem dX2_changesTo_66 : decode cX2_changesTo 66 = .ok (.bipush 17, 2) := by decide +kernel
theorem dX2_changesTo_68 : decode cX2_changesTo 68 = .ok (.imul, 1) := by decide +kernel
theorem dX2_changesTo_69 : decode cX2_changesTo 69 = .ok (.iload_n 2, 1) := by decide +kernel
theorem dX2_changesTo_70 : decode cX2_changesTo 70 = .ok (.iadd, 1) := by decide +kernel
theorem dX2_changesTo_71 : decode cX2_changesTo 71 = .ok (.iaload, 1) := by decide +kernel
theorem dX2_changesTo_72 : decode cX2_changesTo 72 = .ok (.iconst 1, 1) := by decide +kernel
theorem dX2_changesTo_73 : decode cX2_changesTo 73 = .ok (.iadd, 1) := by decide +kernel
theorem dX2_changesTo_74 : decode cX2_changesTo 74 = .ok (.istore 5, 2) := by decide +kernel
theorem dX2_changesTo_76 : decode cX2_changesTo 76 = .ok (.aload_n 0, 1) := by decide +kernel
theorem dX2_changesTo_77 : decode cX2_changesTo 77 = .ok (.getfield 18, 3) := by decide +kernel
theorem dX2_changesTo_80 : decode cX2_changesTo 80 = .ok (.iload_n 1, 1) := by decide +kernel
theorem dX2_changesTo_81 : decode cX2_changesTo 81 = .ok (.bipush 17, 2) := by decide +kernel
theorem dX2_changesTo_83 : decode cX2_changesTo 83 = .ok (.imul, 1) := by decide +kernel
theorem dX2_changesTo_84 : decode cX2_changesTo 84 = .ok (.iload_n 2, 1) := by decide +kernel
theorem dX2_changesTo_85 : decode cX2_changesTo 85 = .ok (.iadd, 1) := by decide +kernel
theorem dX2_changesTo_86 : decode cX2_changesTo 86 = .ok (.iconst 1, 1) := by decide +kernel
theorem dX2_changesTo_87 : decode cX2_changesTo 87 = .ok (.isub, 1) := by decide +kernel
theorem dX2_changesTo_88 : decode cX2_changesTo 88 = .ok (.iaload, 1) := by decide +kernel
theorem dX2_changesTo_89 : decode cX2_changesTo 89 = .ok (.iconst 1, 1) := by decide +kernel
theorem dX2_changesTo_90 : decode cX2_changesTo 90 = .ok (.iadd, 1) := by decide +kernel
theorem dX2_changesTo_91 : decode cX2_changesTo 91 = .ok (.istore 6, 2) := by decide +kernel
theorem dX2_changesTo_93 : decode cX2_changesTo 93 = .ok (.iload 4, 2) := by decide +kernel
theorem dX2_changesTo_95 : decode cX2_changesTo 95 = .ok (.iload 5, 2) := by decide +kernel
theorem dX2_changesTo_97 : decode cX2_changesTo 97 = .ok (.iload 6, 2) := by decide +kernel
theorem dX2_changesTo_99 : decode cX2_changesTo 99 = .ok (.invokestatic 39, 3) := by decide +kernel
theorem dX2_changesTo_102 : decode cX2_changesTo 102 = .ok (.invokestatic 39, 3) := by decide +kernel
theorem dX2_changesTo_105 : decode cX2_changesTo 105 = .ok (.ireturn, 1) := by decide +kernel
def m2_changesTo : pMT := (yX2_changesTo, cX2_changesTo, 7, some .int)
theorem mo2_changesTo : mOK m2_changesTo 2 := ⟨tb_i 1009 (by decide +kernel), wi_RX2, ⟨wn_RX2.1, wn_RX2.2, by decide +kernel⟩, by decide, plainFor_of_name wp_RX2⟩
theorem mv2_changesTo : mV m2_changesTo := ⟨tb_i 1008 (by decide +kernel), tb_p 39 (by decide +kernel)⟩
def f2_changesTo_c39 (I : (Nat → Nat → Int32)) (O : (Nat → Nat → Option Nat)) (b0 : Nat) (y1 : Int32) (y2 : Int32) (t0 : Int32) : Option (Int32) := (if ((((y1 - 1) * 17) + y2) - 1) < 0 ∨ 289 ≤ ((((y1 - 1) * 17) + y2) - 1).toNatClampNeg then none else bl (((I (rO O b0 2) ((((y1 - 1) * 17) + y2) - 1).toNatClampNeg) + t0) : Int32) fun z3 => (if (((y1 - 1) * 17) + y2) < 0 ∨ 289 ≤ (((y1 - 1) * 17) + y2).toNatClampNeg then none else bl (((I (rO O b0 2) (((y1 - 1) * 17) + y2).toNatClampNeg) + 1) : Int32) fun z5 => (if (((y1 * 17) + y2) - 1) < 0 ∨ 289 ≤ (((y1 * 17) + y2) - 1).toNatClampNeg then none else bl (((I (rO O b0 2) (((y1 * 17) + y2) - 1).toNatClampNeg) + 1) : Int32) fun z7 => (fJ9_min_7cf53 z5 z7).bind fun r8 => (fJ9_min_7cf53 z3 r8).bind fun r10 => some (r10))))
set_option maxHeartbeats 4000000 in
set_option maxRecDepth 20000 in
theorem o2_changesTo_c39 {g : pG} {Qx : Option Value → pW → Prop} {Z : pZ} {I : (Nat → Nat → Int32)} {L : (Nat → Nat → Int64)} {O : (Nat → Nat → Option Nat)} {res : Int32} (d : Nat) (hW : WT Z O) (hQ : Qx (some (.int res)) (Z, I, L, O)) (b0 : Nat) (y1 : Int32) (y2 : Int32) (t0 : Int32) (hZ_b0 : Z[b0]? = some (2, 10)) (h : f2_changesTo_c39 I O b0 y1 y2 t0 = some res) : Ok g (d + 3, RX2, cX2_changesTo, 7, false, 0, 0, Z.length, pSl Z) Qx 39 [(0, .ref b0), (1, .int y1), (2, .int y2)] [.int t0] (Z, I, L, O) := by
  unfold f2_changesTo_c39 at h
  refine ok_istore_n (l' := [(3, .int t0), (0, .ref b0), (1, .int y1), (2, .int y2)]) dX2_changesTo_39 rfl (Nat.le_of_ble_eq_true rfl) rfl ?_
  refine ok_aload_n dX2_changesTo_40 1 rfl ?_
  have hT1 : Z[(rO O b0 2)]? = some (13, 289) := (wt_f (ci := 2) (k := 2) hW hZ_b0 rfl).2
  refine ok_getR (ci := 2) (k := 2) dX2_changesTo_41 flRX2_18 rfl hW hZ_b0 (by decide) ?_
  refine ok_iload_n dX2_changesTo_44 2 rfl ?_
  refine ok_iconst (v := 1) dX2_changesTo_45 (by decide) ?_
  refine ok_isub dX2_changesTo_46 ?_
  refine ok_bipush (v := 17) dX2_changesTo_47 (by decide) ?_
  refine ok_imul dX2_changesTo_49 ?_
  refine ok_iload_n dX2_changesTo_50 3 rfl ?_
  refine ok_iadd dX2_changesTo_51 ?_
  refine ok_iconst (v := 1) dX2_changesTo_52 (by decide) ?_
  refine ok_isub dX2_changesTo_53 ?_
  obtain ⟨hg2, h⟩ := gd h
  refine ok_iald2 (N := ((((y1 - 1) * 17) + y2) - 1).toNatClampNeg) dX2_changesTo_54 hT1 hg2 rfl ?_
  refine ok_iload_n dX2_changesTo_55 0 rfl ?_
  refine ok_iadd dX2_changesTo_56 ?_
  obtain ⟨z3, ez3, h⟩ := blE h
  refine ok_nm ez3 ?_
  refine ok_istore (l' := [(4, .int z3), (3, .int t0), (0, .ref b0), (1, .int y1), (2, .int y2)]) dX2_changesTo_57 (Nat.le_of_ble_eq_true rfl) rfl ?_
  refine ok_aload_n dX2_changesTo_59 2 rfl ?_
  refine ok_getR (ci := 2) (k := 2) dX2_changesTo_60 flRX2_18 rfl hW hZ_b0 (by decide) ?_
  refine ok_iload_n dX2_changesTo_63 3 rfl ?_
  refine ok_iconst (v := 1) dX2_changesTo_64 (by decide) ?_
  refine ok_isub dX2_changesTo_65 ?_
  refine ok_bipush (v := 17) dX2_changesTo_66 (by decide) ?_
  refine ok_imul dX2_changesTo_68 ?_
  refine ok_iload_n dX2_changesTo_69 4 rfl ?_
  refine ok_iadd dX2_changesTo_70 ?_
  obtain ⟨hg4, h⟩ := gd h
  refine ok_iald2 (N := (((y1 - 1) * 17) + y2).toNatClampNeg) dX2_changesTo_71 hT1 hg4 rfl ?_
  refine ok_iconst (v := 1) dX2_changesTo_72 (by decide) ?_
  refine ok_iadd dX2_changesTo_73 ?_
  obtain ⟨z5, ez5, h⟩ := blE h
  refine ok_nm ez5 ?_
  refine ok_istore (l' := [(5, .int z5), (4, .int z3), (3, .int t0), (0, .ref b0), (1, .int y1), (2, .int y2)]) dX2_changesTo_74 (Nat.le_of_ble_eq_true rfl) rfl ?_
  refine ok_aload_n dX2_changesTo_76 3 rfl ?_
  refine ok_getR (ci := 2) (k := 2) dX2_changesTo_77 flRX2_18 rfl hW hZ_b0 (by decide) ?_
  refine ok_iload_n dX2_changesTo_80 4 rfl ?_
  refine ok_bipush (v := 17) dX2_changesTo_81 (by decide) ?_
  refine ok_imul dX2_changesTo_83 ?_
  refine ok_iload_n dX2_changesTo_84 5 rfl ?_
  refine ok_iadd dX2_changesTo_85 ?_
  refine ok_iconst (v := 1) dX2_changesTo_86 (by decide) ?_
  refine ok_isub dX2_changesTo_87 ?_
  obtain ⟨hg6, h⟩ := gd h
  refine ok_iald2 (N := (((y1 * 17) + y2) - 1).toNatClampNeg) dX2_changesTo_88 hT1 hg6 rfl ?_
  refine ok_iconst (v := 1) dX2_changesTo_89 (by decide) ?_
  refine ok_iadd dX2_changesTo_90 ?_
  obtain ⟨z7, ez7, h⟩ := blE h
  refine ok_nm ez7 ?_
  refine ok_istore (l' := [(6, .int z7), (5, .int z5), (4, .int z3), (3, .int t0), (0, .ref b0), (1, .int y1), (2, .int y2)]) dX2_changesTo_91 (Nat.le_of_ble_eq_true rfl) rfl ?_
  refine ok_iload dX2_changesTo_93 2 rfl ?_
  refine ok_iload dX2_changesTo_95 1 rfl ?_
  refine ok_iload dX2_changesTo_97 0 rfl ?_
  obtain ⟨r8, hr9, h⟩ := bd h
  refine ok_callS (d := ((d + 0) + 2)) (mt := mJ9_min_7cf53) (mc := 0) (ms := 0) (As := [.int z5, .int z7]) (r := [.int z3]) dX2_changesTo_99 moJ9_min_7cf53 mvJ9_min_7cf53 lkRX2_39 rfl rfl (Nat.le_of_ble_eq_true rfl) (by show _ + 1 ≤ d + _; omega) (Nat.le_refl _) (Nat.le_refl _) (pRt_mono ?_)
  refine kJ9_min_7cf53 (d + 0) hW  hr9 ?_
  intro _
  show Ok g _ Qx 102 [(6, .int z7), (5, .int z5), (4, .int z3), (3, .int t0), (0, .ref b0), (1, .int y1), (2, .int y2)] [.int r8, .int z3] (Z, I, L, O)
  obtain ⟨r10, hr11, h⟩ := bd h
  refine ok_callS (d := ((d + 0) + 2)) (mt := mJ9_min_7cf53) (mc := 0) (ms := 0) (As := [.int z3, .int r8]) (r := []) dX2_changesTo_102 moJ9_min_7cf53 mvJ9_min_7cf53 lkRX2_39 rfl rfl (Nat.le_of_ble_eq_true rfl) (by show _ + 1 ≤ d + _; omega) (Nat.le_refl _) (Nat.le_refl _) (pRt_mono ?_)
  refine kJ9_min_7cf53 (d + 0) hW  hr11 ?_
  intro _
  show Ok g _ Qx 105 [(6, .int z7), (5, .int z5), (4, .int z3), (3, .int t0), (0, .ref b0), (1, .int y1), (2, .int y2)] [.int r10] (Z, I, L, O)
  cases h
  exact ok_iret dX2_changesTo_105 hQ
def f2_changesTo (I : (Nat → Nat → Int32)) (O : (Nat → Nat → Option Nat)) (a0 : Nat) (x1 : Int32) (x2 : Int32) : Option (Int32) := (if x1 = 0 then some ((x1 + x2)) else (if x2 = 0 then some ((x1 + x2)) else (if (x1 - 1) < 0 ∨ 16 ≤ (x1 - 1).toNatClampNeg then none else (if (x2 - 1) < 0 ∨ 16 ≤ (x2 - 1).toNatClampNeg then none else (f2_matches (I (rO O a0 0) (x1 - 1).toNatClampNeg) (I (rO O a0 1) (x2 - 1).toNatClampNeg)).bind fun r7 => (if r7 = 0 then f2_changesTo_c39 I O a0 x1 x2 (1 : Int32) else f2_changesTo_c39 I O a0 x1 x2 (0 : Int32))))))
set_option maxHeartbeats 4000000 in
set_option maxRecDepth 20000 in
theorem o2_changesTo {g : pG} {Qx : Option Value → pW → Prop} {Z : pZ} {I : (Nat → Nat → Int32)} {L : (Nat → Nat → Int64)} {O : (Nat → Nat → Option Nat)} {a0 : Nat} {x1 : Int32} {x2 : Int32} {res : Int32} (d : Nat) (hW : WT Z O) (hZ0 : Z[a0]? = some (2, 10)) (h : f2_changesTo I O a0 x1 x2 = some res) (hQ : Qx (some (.int res)) (Z, I, L, O)) : Ok g (d + 3, RX2, cX2_changesTo, 7, false, 0, 0, Z.length, pSl Z) Qx 0 [(0, .ref a0), (1, .int x1), (2, .int x2)] [] (Z, I, L, O) := by
  unfold f2_changesTo at h
  refine ok_iload_n dX2_changesTo_0 1 rfl ?_
  refine ok_if_eq (t := 8) dX2_changesTo_1 (by decide) (fun hc1 => ?_) (fun hc1 => ?_)
  · have h := (if_pos hc1).symm.trans h
    refine ok_iload_n dX2_changesTo_8 1 rfl ?_
    refine ok_iload_n dX2_changesTo_9 2 rfl ?_
    refine ok_iadd dX2_changesTo_10 ?_
    cases h
    exact ok_iret dX2_changesTo_11 hQ
  · have h := (if_neg hc1).symm.trans h
    refine ok_iload_n dX2_changesTo_4 2 rfl ?_
    refine ok_if_ne (t := 12) dX2_changesTo_5 (by decide) (fun hc2 => ?_) (fun hc2 => ?_)
    · have h := (if_neg hc2).symm.trans h
      refine ok_aload_n dX2_changesTo_12 0 rfl ?_
      have hT3 : Z[(rO O a0 0)]? = some (13, 16) := (wt_f (ci := 2) (k := 0) hW hZ0 rfl).2
      refine ok_getR (ci := 2) (k := 0) dX2_changesTo_13 flRX2_9 rfl hW hZ0 (by decide) ?_
      refine ok_iload_n dX2_changesTo_16 1 rfl ?_
      refine ok_iconst (v := 1) dX2_changesTo_17 (by decide) ?_
      refine ok_isub dX2_changesTo_18 ?_
      obtain ⟨hg4, h⟩ := gd h
      refine ok_iald2 (N := (x1 - 1).toNatClampNeg) dX2_changesTo_19 hT3 hg4 rfl ?_
      refine ok_aload_n dX2_changesTo_20 0 rfl ?_
      have hT5 : Z[(rO O a0 1)]? = some (13, 16) := (wt_f (ci := 2) (k := 1) hW hZ0 rfl).2
      refine ok_getR (ci := 2) (k := 1) dX2_changesTo_21 flRX2_15 rfl hW hZ0 (by decide) ?_
      refine ok_iload_n dX2_changesTo_24 2 rfl ?_
      refine ok_iconst (v := 1) dX2_changesTo_25 (by decide) ?_
      refine ok_isub dX2_changesTo_26 ?_
      obtain ⟨hg6, h⟩ := gd h
      refine ok_iald2 (N := (x2 - 1).toNatClampNeg) dX2_changesTo_27 hT5 hg6 rfl ?_
      obtain ⟨r7, hr8, h⟩ := bd h
      refine ok_callS (d := ((d + 0) + 2)) (mt := m2_matches) (mc := 0) (ms := 0) (As := [.int (I (rO O a0 0) (x1 - 1).toNatClampNeg), .int (I (rO O a0 1) (x2 - 1).toNatClampNeg)]) (r := []) dX2_changesTo_28 mo2_matches mv2_matches lkRX2_62 rfl rfl (Nat.le_of_ble_eq_true rfl) (by show _ + 1 ≤ d + _; omega) (Nat.le_refl _) (Nat.le_refl _) (pRt_mono ?_)
      refine k2_matches (d + 0) hW  hr8 ?_
      intro hbr7
      show Ok g _ Qx 31 [(0, .ref a0), (1, .int x1), (2, .int x2)] [.int r7] (Z, I, L, O)
      refine ok_if_eq (t := 38) dX2_changesTo_31 (by decide) (fun hc9 => ?_) (fun hc9 => ?_)
      · have h := (if_pos hc9).symm.trans h
        refine ok_iconst (v := 1) dX2_changesTo_38 (by decide) ?_
        refine ok_sub [0, 1, 2] rfl ?_
        exact o2_changesTo_c39 d hW hQ  a0 x1 x2 (1 : Int32) hZ0 h
      · have h := (if_neg hc9).symm.trans h
        refine ok_iconst (v := 0) dX2_changesTo_34 (by decide) ?_
        refine ok_goto (t := 39) dX2_changesTo_35 (by decide) ?_
        refine ok_sub [0, 1, 2] rfl ?_
        exact o2_changesTo_c39 d hW hQ  a0 x1 x2 (0 : Int32) hZ0 h
    · have h := (if_pos hc2).symm.trans h
      refine ok_iload_n dX2_changesTo_8 1 rfl ?_
      refine ok_iload_n dX2_changesTo_9 2 rfl ?_
      refine ok_iadd dX2_changesTo_10 ?_
      cases h
      exact ok_iret dX2_changesTo_11 hQ
theorem k2_changesTo {g : pG} {Q : Option Value → pW → Prop} {Z : pZ} {I : (Nat → Nat → Int32)} {L : (Nat → Nat → Int64)} {O : (Nat → Nat → Option Nat)} {a0 : Nat} {x1 : Int32} {x2 : Int32} {res : Int32} (d : Nat) (hW : WT Z O) (hZ0 : Z[a0]? = some (2, 10)) (h : f2_changesTo I O a0 x1 x2 = some res) (hQ : Q (some (.int res)) (Z, I, L, O)) : CT g (d + 3) m2_changesTo 0 0 [.ref a0, .int x1, .int x2] (Z, I, L, O) Q :=
  ct_of_ok (mt := m2_changesTo) (ini := false) mo2_changesTo.2.2.2.2 (fun h => by cases h) (Nat.le_of_ble_eq_true rfl) (o2_changesTo d hW hZ0 h ⟨trivial, hQ, rfl, rfl⟩)
theorem dX2_changes_0 : decode cX2_changes 0 = .ok (.aload_n 1, 1) := by decide +kernel
theorem dX2_changes_1 : decode cX2_changes 1 = .ok (.iload_n 2, 1) := by decide +kernel
theorem dX2_changes_2 : decode cX2_changes 2 = .ok (.aload_n 0, 1) := by decide +kernel
theorem dX2_changes_3 : decode cX2_changes 3 = .ok (.getfield 9, 3) := by decide +kernel
theorem dX2_changes_6 : decode cX2_changes 6 = .ok (.invokestatic 55, 3) := by decide +kernel
theorem dX2_changes_9 : decode cX2_changes 9 = .ok (.istore 4, 2) := by decide +kernel
theorem dX2_changes_11 : decode cX2_changes 11 = .ok (.aload_n 1, 1) := by decide +kernel
theorem dX2_changes_12 : decode cX2_changes 12 = .ok (.iload_n 3, 1) := by decide +kernel
theorem dX2_changes_13 : decode cX2_changes 13 = .ok (.aload_n 0, 1) := by decide +kernel
theorem dX2_changes_14 : decode cX2_changes 14 = .ok (.getfield 15, 3) := by decide +kernel
theorem dX2_changes_17 : decode cX2_changes 17 = .ok (.invokestatic 55, 3) := by decide +kernel
theorem dX2_changes_20 : decode cX2_changes 20 = .ok (.istore 5, 2) := by decide +kernel
theorem dX2_changes_22 : decode cX2_changes 22 = .ok (.iconst 0, 1) := by decide +kernel
theorem dX2_changes_23 : decode cX2_changes 23 = .ok (.istore 6, 2) := by decide +kernel
theorem dX2_changes_25 : decode cX2_changes 25 = .ok (.iload 6, 2) := by decide +kernel
theorem dX2_changes_27 : decode cX2_changes 27 = .ok (.iload 4, 2) := by decide +kernel
theorem dX2_changes_29 : decode cX2_changes 29 = .ok (.if_icmp .gt 46, 3) := by decide +kernel
theorem dX2_changes_32 : decode cX2_changes 32 = .ok (.iconst 0, 1) := by decide +kernel
theorem dX2_changes_33 : decode cX2_changes 33 = .ok (.istore 7, 2) := by decide +kernel
theorem dX2_changes_35 : decode cX2_changes 35 = .ok (.iload 7, 2) := by decide +kernel
theorem dX2_changes_37 : decode cX2_changes 37 = .ok (.iload 5, 2) := by decide +kernel
theorem dX2_changes_39 : decode cX2_changes 39 = .ok (.if_icmp .gt 30, 3) := by decide +kernel
theorem dX2_changes_42 : decode cX2_changes 42 = .ok (.aload_n 0, 1) := by decide +kernel
theorem dX2_changes_43 : decode cX2_changes 43 = .ok (.getfield 18, 3) := by decide +kernel
theorem dX2_changes_46 : decode cX2_changes 46 = .ok (.iload 6, 2) := by decide +kernel
theorem dX2_changes_48 : decode cX2_changes 48 = .ok (.bipush 17, 2) := by decide +kernel
theorem dX2_changes_50 : decode cX2_changes 50 = .ok (.imul, 1) := by decide +kernel
theorem dX2_changes_51 : decode cX2_changes 51 = .ok (.iload 7, 2) := by decide +kernel
theorem dX2_changes_53 : decode cX2_changes 53 = .ok (.iadd, 1) := by decide +kernel
theorem dX2_changes_54 : decode cX2_changes 54 = .ok (.aload_n 0, 1) := by decide +kernel
theorem dX2_changes_55 : decode cX2_changes 55 = .ok (.iload 6, 2) := by decide +kernel
theorem dX2_changes_57 : decode cX2_changes 57 = .ok (.iload 7, 2) := by decide +kernel
theorem dX2_changes_59 : decode cX2_changes 59 = .ok (.invokevirtual 59, 3) := by decide +kernel
theorem dX2_changes_62 : decode cX2_changes 62 = .ok (.iastore, 1) := by decide +kernel
theorem dX2_changes_63 : decode cX2_changes 63 = .ok (.iinc 7 1, 3) := by decide +kernel
theorem dX2_changes_66 : decode cX2_changes 66 = .ok (.goto (-31), 3) := by decide +kernel
theorem dX2_changes_69 : decode cX2_changes 69 = .ok (.iinc 6 1, 3) := by decide +kernel
theorem dX2_changes_72 : decode cX2_changes 72 = .ok (.goto (-47), 3) := by decide +kernel
theorem dX2_changes_75 : decode cX2_changes 75 = .ok (.aload_n 0, 1) := by decide +kernel
theorem dX2_changes_76 : decode cX2_changes 76 = .ok (.getfield 18, 3) := by decide +kernel
theorem dX2_changes_79 : decode cX2_changes 79 = .ok (.iload 4, 2) := by decide +kernel
theorem dX2_changes_81 : decode cX2_changes 81 = .ok (.bipush 17, 2) := by decide +kernel
theorem dX2_changes_83 : decode cX2_changes 83 = .ok (.imul, 1) := by decide +kernel
theorem dX2_changes_84 : decode cX2_changes 84 = .ok (.iload 5, 2) := by decide +kernel
theorem dX2_changes_86 : decode cX2_changes 86 = .ok (.iadd, 1) := by decide +kernel
theorem dX2_changes_87 : decode cX2_changes 87 = .ok (.iaload, 1) := by decide +kernel
theorem dX2_changes_88 : decode cX2_changes 88 = .ok (.ireturn, 1) := by decide +kernel
def m2_changes : pMT := (yX2_changes, cX2_changes, 8, some .int)
theorem mo2_changes : mOK m2_changes 3 := ⟨tb_i 998 (by decide +kernel), wi_RX2, ⟨wn_RX2.1, wn_RX2.2, by decide +kernel⟩, by decide, plainFor_of_name wp_RX2⟩
theorem mv2_changes : mV m2_changes := ⟨tb_i 996 (by decide +kernel), tb_i 997 (by decide +kernel)⟩
def f2_changes_c35 (n : Nat) (O : (Nat → Nat → Option Nat)) (k25 : ((Nat → Nat → Int32) → Nat → Int32 → Int32 → Int32 → Option (Int32 × (Nat → Nat → Int32)))) : Nat → (Nat → Nat → Int32) → Nat → Int32 → Int32 → Int32 → Int32 → Option (Int32 × (Nat → Nat → Int32))
  | 0, _, _, _, _, _, _ => none
  | m + 1, I, b0, y4, y5, y6, y7 => (if y5 < y7 then k25 I b0 y4 y5 (y6 + 1) else (f2_changesTo I O b0 y6 y7).bind fun r3 => (if ((y6 * 17) + y7) < 0 ∨ 289 ≤ ((y6 * 17) + y7).toNatClampNeg then none else bl (sI I (rO O b0 2) ((y6 * 17) + y7).toNatClampNeg r3) fun I6 => f2_changes_c35 n O k25 m I6 b0 y4 y5 y6 (y7 + 1)))
set_option maxHeartbeats 4000000 in
set_option maxRecDepth 20000 in
theorem o2_changes_c35 {g : pG} {Qx : Option Value → pW → Prop} {Z : pZ} {L : (Nat → Nat → Int64)} {O : (Nat → Nat → Option Nat)} {n : Nat} {k25 : ((Nat → Nat → Int32) → Nat → Int32 → Int32 → Int32 → Option (Int32 × (Nat → Nat → Int32)))} {res : Int32 × (Nat → Nat → Int32)} (d : Nat) (hW : WT Z O) (hQ : Qx (some (.int res.1)) (Z, res.2, L, O)) (hk25 : ∀ (I : (Nat → Nat → Int32)) (b0 : Nat) (y4 : Int32) (y5 : Int32) (y6 : Int32), (Z[b0]? = some (2, 10)) → k25 I b0 y4 y5 y6 = some res → Ok g (d + 5, RX2, cX2_changes, 8, false, 0, 0, Z.length, pSl Z) Qx 25 [(0, .ref b0), (4, .int y4), (5, .int y5), (6, .int y6)] [] (Z, I, L, O)) : ∀ (m : Nat) (I : (Nat → Nat → Int32)) (b0 : Nat) (y4 : Int32) (y5 : Int32) (y6 : Int32) (y7 : Int32), (Z[b0]? = some (2, 10)) → f2_changes_c35 n O k25 m I b0 y4 y5 y6 y7 = some res → Ok g (d + 5, RX2, cX2_changes, 8, false, 0, 0, Z.length, pSl Z) Qx 35 [(0, .ref b0), (4, .int y4), (5, .int y5), (6, .int y6), (7, .int y7)] [] (Z, I, L, O) := by
  intro m
  induction m with
  | zero => intro I b0 y4 y5 y6 y7 hZ_b0 h; rw [f2_changes_c35] at h; cases h
  | succ m ih =>
    intro I b0 y4 y5 y6 y7 hZ_b0 h
    rw [f2_changes_c35] at h
    refine ok_iload dX2_changes_35 4 rfl ?_
    refine ok_iload dX2_changes_37 2 rfl ?_
    refine ok_icmp_gt (t := 69) dX2_changes_39 (by decide) (fun hc1 => ?_) (fun hc1 => ?_)
    · have h := (if_pos hc1).symm.trans h
      refine ok_iinc (u := (y6 + 1)) (l' := [(6, .int (y6 + 1)), (0, .ref b0), (4, .int y4), (5, .int y5), (7, .int y7)]) dX2_changes_69 3 rfl rfl (Nat.le_of_ble_eq_true rfl) rfl ?_
      refine ok_goto (t := 25) dX2_changes_72 (by decide) ?_
      refine ok_sub [1, 2, 3, 0] rfl ?_
      exact hk25 I b0 y4 y5 (y6 + 1) hZ_b0 h
    · have h := (if_neg hc1).symm.trans h
      refine ok_aload_n dX2_changes_42 0 rfl ?_
      have hT2 : Z[(rO O b0 2)]? = some (13, 289) := (wt_f (ci := 2) (k := 2) hW hZ_b0 rfl).2
      refine ok_getR (ci := 2) (k := 2) dX2_changes_43 flRX2_18 rfl hW hZ_b0 (by decide) ?_
      refine ok_iload dX2_changes_46 3 rfl ?_
      refine ok_bipush (v := 17) dX2_changes_48 (by decide) ?_
      refine ok_imul dX2_changes_50 ?_
      refine ok_iload dX2_changes_51 4 rfl ?_
      refine ok_iadd dX2_changes_53 ?_
      refine ok_aload_n dX2_changes_54 0 rfl ?_
      refine ok_iload dX2_changes_55 3 rfl ?_
      refine ok_iload dX2_changes_57 4 rfl ?_
      obtain ⟨r3, hr4, h⟩ := bd h
      refine ok_callV (d := ((d + 1) + 3)) (mt := m2_changesTo) (mc := 0) (ms := 0) (As := [.int y6, .int y7]) (r := [.int ((y6 * 17) + y7), .ref (rO O b0 2)]) dX2_changes_59 mo2_changesTo mv2_changesTo lkRX2_59 rfl hZ_b0 (q := (RX2, TX2, 10)) rfl rfl rfl (Nat.le_of_ble_eq_true rfl) (by show _ + 1 ≤ d + _; omega) (Nat.le_refl _) (Nat.le_refl _) (pRt_mono ?_)
      refine k2_changesTo (d + 1) hW hZ_b0 hr4 ?_
      intro _
      show Ok g _ Qx 62 [(0, .ref b0), (4, .int y4), (5, .int y5), (6, .int y6), (7, .int y7)] [.int r3, .int ((y6 * 17) + y7), .ref (rO O b0 2)] (Z, I, L, O)
      obtain ⟨hg5, h⟩ := gd h
      obtain ⟨I6, eI6, h⟩ := blE h
      refine ok_iast3 dX2_changes_62 hT2 hg5 rfl eI6 ?_
      refine ok_iinc (u := (y7 + 1)) (l' := [(7, .int (y7 + 1)), (0, .ref b0), (4, .int y4), (5, .int y5), (6, .int y6)]) dX2_changes_63 4 rfl rfl (Nat.le_of_ble_eq_true rfl) rfl ?_
      refine ok_goto (t := 35) dX2_changes_66 (by decide) ?_
      refine ok_sub [1, 2, 3, 4, 0] rfl ?_
      exact ih I6 b0 y4 y5 y6 (y7 + 1) hZ_b0 h
def f2_changes_c25 (n : Nat) (O : (Nat → Nat → Option Nat)) : Nat → (Nat → Nat → Int32) → Nat → Int32 → Int32 → Int32 → Option (Int32 × (Nat → Nat → Int32))
  | 0, _, _, _, _, _ => none
  | m + 1, I, b0, y4, y5, y6 => (if y4 < y6 then (if ((y4 * 17) + y5) < 0 ∨ 289 ≤ ((y4 * 17) + y5).toNatClampNeg then none else some ((I (rO O b0 2) ((y4 * 17) + y5).toNatClampNeg), I)) else f2_changes_c35 n O (f2_changes_c25 n O m) n I b0 y4 y5 y6 (0 : Int32))
set_option maxHeartbeats 4000000 in
set_option maxRecDepth 20000 in
theorem o2_changes_c25 {g : pG} {Qx : Option Value → pW → Prop} {Z : pZ} {L : (Nat → Nat → Int64)} {O : (Nat → Nat → Option Nat)} {n : Nat} {res : Int32 × (Nat → Nat → Int32)} (d : Nat) (hW : WT Z O) (hQ : Qx (some (.int res.1)) (Z, res.2, L, O)) : ∀ (m : Nat) (I : (Nat → Nat → Int32)) (b0 : Nat) (y4 : Int32) (y5 : Int32) (y6 : Int32), (Z[b0]? = some (2, 10)) → f2_changes_c25 n O m I b0 y4 y5 y6 = some res → Ok g (d + 5, RX2, cX2_changes, 8, false, 0, 0, Z.length, pSl Z) Qx 25 [(0, .ref b0), (4, .int y4), (5, .int y5), (6, .int y6)] [] (Z, I, L, O) := by
  intro m
  induction m with
  | zero => intro I b0 y4 y5 y6 hZ_b0 h; rw [f2_changes_c25] at h; cases h
  | succ m ih =>
    intro I b0 y4 y5 y6 hZ_b0 h
    rw [f2_changes_c25] at h
    refine ok_iload dX2_changes_25 3 rfl ?_
    refine ok_iload dX2_changes_27 1 rfl ?_
    refine ok_icmp_gt (t := 75) dX2_changes_29 (by decide) (fun hc1 => ?_) (fun hc1 => ?_)
    · have h := (if_pos hc1).symm.trans h
      refine ok_aload_n dX2_changes_75 0 rfl ?_
      have hT2 : Z[(rO O b0 2)]? = some (13, 289) := (wt_f (ci := 2) (k := 2) hW hZ_b0 rfl).2
      refine ok_getR (ci := 2) (k := 2) dX2_changes_76 flRX2_18 rfl hW hZ_b0 (by decide) ?_
      refine ok_iload dX2_changes_79 1 rfl ?_
      refine ok_bipush (v := 17) dX2_changes_81 (by decide) ?_
      refine ok_imul dX2_changes_83 ?_
      refine ok_iload dX2_changes_84 2 rfl ?_
      refine ok_iadd dX2_changes_86 ?_
      obtain ⟨hg3, h⟩ := gd h
      refine ok_iald2 (N := ((y4 * 17) + y5).toNatClampNeg) dX2_changes_87 hT2 hg3 rfl ?_
      cases h
      exact ok_iret dX2_changes_88 hQ
    · have h := (if_neg hc1).symm.trans h
      refine ok_iconst (v := 0) dX2_changes_32 (by decide) ?_
      refine ok_istore (l' := [(7, .int 0), (0, .ref b0), (4, .int y4), (5, .int y5), (6, .int y6)]) dX2_changes_33 (Nat.le_of_ble_eq_true rfl) rfl ?_
      refine ok_sub [1, 2, 3, 4, 0] rfl ?_
      exact o2_changes_c35 d hW hQ ih n I b0 y4 y5 y6 (0 : Int32) hZ_b0 h
def f2_changes (n : Nat) (I : (Nat → Nat → Int32)) (O : (Nat → Nat → Option Nat)) (a0 : Nat) (a1 : Nat) (x2 : Int32) (x3 : Int32) : Option (Int32 × (Nat → Nat → Int32)) := (f2_lay n I O a1 x2 (rO O a0 0)).bind fun r2 => (f2_lay n r2.2 O a1 x3 (rO O a0 1)).bind fun r5 => f2_changes_c25 n O n r5.2 a0 r2.1 r5.1 (0 : Int32)
set_option maxHeartbeats 4000000 in
set_option maxRecDepth 20000 in
theorem o2_changes {g : pG} {Qx : Option Value → pW → Prop} {Z : pZ} {I : (Nat → Nat → Int32)} {L : (Nat → Nat → Int64)} {O : (Nat → Nat → Option Nat)} {n : Nat} {a0 : Nat} {a1 : Nat} {x2 : Int32} {x3 : Int32} {res : Int32 × (Nat → Nat → Int32)} (d : Nat) (hW : WT Z O) (hZ0 : Z[a0]? = some (2, 10)) (hZ1 : Z[a1]? = some (10, 5)) (h : f2_changes n I O a0 a1 x2 x3 = some res) (hQ : Qx (some (.int res.1)) (Z, res.2, L, O)) : Ok g (d + 5, RX2, cX2_changes, 8, false, 0, 0, Z.length, pSl Z) Qx 0 [(0, .ref a0), (1, .ref a1), (2, .int x2), (3, .int x3)] [] (Z, I, L, O) := by
  unfold f2_changes at h
  refine ok_aload_n dX2_changes_0 1 rfl ?_
  refine ok_iload_n dX2_changes_1 2 rfl ?_
  refine ok_aload_n dX2_changes_2 0 rfl ?_
  have hT1 : Z[(rO O a0 0)]? = some (13, 16) := (wt_f (ci := 2) (k := 0) hW hZ0 rfl).2
  refine ok_getR (ci := 2) (k := 0) dX2_changes_3 flRX2_9 rfl hW hZ0 (by decide) ?_
  obtain ⟨r2, hr3, h⟩ := bd h
  refine ok_callS (d := ((d + 0) + 4)) (mt := m2_lay) (mc := 0) (ms := 0) (As := [.ref a1, .int x2, .ref (rO O a0 0)]) (r := []) dX2_changes_6 mo2_lay mv2_lay lkRX2_55 rfl rfl (Nat.le_of_ble_eq_true rfl) (by show _ + 1 ≤ d + _; omega) (Nat.le_refl _) (Nat.le_refl _) (pRt_mono ?_)
  refine k2_lay (d + 0) hW hZ1 hT1 hr3 ?_
  intro _
  show Ok g _ Qx 9 [(0, .ref a0), (1, .ref a1), (2, .int x2), (3, .int x3)] [.int r2.1] (Z, r2.2, L, O)
  refine ok_istore (l' := [(4, .int r2.1), (0, .ref a0), (1, .ref a1), (2, .int x2), (3, .int x3)]) dX2_changes_9 (Nat.le_of_ble_eq_true rfl) rfl ?_
  refine ok_aload_n dX2_changes_11 2 rfl ?_
  refine ok_iload_n dX2_changes_12 4 rfl ?_
  refine ok_aload_n dX2_changes_13 1 rfl ?_
  have hT4 : Z[(rO O a0 1)]? = some (13, 16) := (wt_f (ci := 2) (k := 1) hW hZ0 rfl).2
  refine ok_getR (ci := 2) (k := 1) dX2_changes_14 flRX2_15 rfl hW hZ0 (by decide) ?_
  obtain ⟨r5, hr6, h⟩ := bd h
  refine ok_callS (d := ((d + 0) + 4)) (mt := m2_lay) (mc := 0) (ms := 0) (As := [.ref a1, .int x3, .ref (rO O a0 1)]) (r := []) dX2_changes_17 mo2_lay mv2_lay lkRX2_55 rfl rfl (Nat.le_of_ble_eq_true rfl) (by show _ + 1 ≤ d + _; omega) (Nat.le_refl _) (Nat.le_refl _) (pRt_mono ?_)
  refine k2_lay (d + 0) hW hZ1 hT4 hr6 ?_
  intro _
  show Ok g _ Qx 20 [(4, .int r2.1), (0, .ref a0), (1, .ref a1), (2, .int x2), (3, .int x3)] [.int r5.1] (Z, r5.2, L, O)
  refine ok_istore (l' := [(5, .int r5.1), (4, .int r2.1), (0, .ref a0), (1, .ref a1), (2, .int x2), (3, .int x3)]) dX2_changes_20 (Nat.le_of_ble_eq_true rfl) rfl ?_
  refine ok_iconst (v := 0) dX2_changes_22 (by decide) ?_
  refine ok_istore (l' := [(6, .int 0), (5, .int r5.1), (4, .int r2.1), (0, .ref a0), (1, .ref a1), (2, .int x2), (3, .int x3)]) dX2_changes_23 (Nat.le_of_ble_eq_true rfl) rfl ?_
  refine ok_sub [3, 2, 1, 0] rfl ?_
  exact o2_changes_c25 d hW hQ  n r5.2 a0 r2.1 r5.1 (0 : Int32) hZ0 h
theorem k2_changes {g : pG} {Q : Option Value → pW → Prop} {Z : pZ} {I : (Nat → Nat → Int32)} {L : (Nat → Nat → Int64)} {O : (Nat → Nat → Option Nat)} {n : Nat} {a0 : Nat} {a1 : Nat} {x2 : Int32} {x3 : Int32} {res : Int32 × (Nat → Nat → Int32)} (d : Nat) (hW : WT Z O) (hZ0 : Z[a0]? = some (2, 10)) (hZ1 : Z[a1]? = some (10, 5)) (h : f2_changes n I O a0 a1 x2 x3 = some res) (hQ : Q (some (.int res.1)) (Z, res.2, L, O)) : CT g (d + 5) m2_changes 0 0 [.ref a0, .ref a1, .int x2, .int x3] (Z, I, L, O) Q :=
  ct_of_ok (mt := m2_changes) (ini := false) mo2_changes.2.2.2.2 (fun h => by cases h) (Nat.le_of_ble_eq_true rfl) (o2_changes d hW hZ0 hZ1 h ⟨trivial, hQ, rfl, rfl⟩)
theorem dX2_firstLike_0 : decode cX2_firstLike 0 = .ok (.iload_n 2, 1) := by decide +kernel
theorem dX2_firstLike_1 : decode cX2_firstLike 1 = .ok (.istore 4, 2) := by decide +kernel
theorem dX2_firstLike_3 : decode cX2_firstLike 3 = .ok (.iload 4, 2) := by decide +kernel
theorem dX2_firstLike_5 : decode cX2_firstLike 5 = .ok (.iload_n 3, 1) := by decide +kernel
theorem dX2_firstLike_6 : decode cX2_firstLike 6 = .ok (.if_icmp .ge 31, 3) := by decide +kernel
theorem dX2_firstLike_9 : decode cX2_firstLike 9 = .ok (.aload_n 0, 1) := by decide +kernel
theorem dX2_firstLike_10 : decode cX2_firstLike 10 = .ok (.getfield 9, 3) := by decide +kernel
theorem dX2_firstLike_13 : decode cX2_firstLike 13 = .ok (.iload_n 1, 1) := by decide +kernel
theorem dX2_firstLike_14 : decode cX2_firstLike 14 = .ok (.iaload, 1) := by decide +kernel
theorem dX2_firstLike_15 : decode cX2_firstLike 15 = .ok (.aload_n 0, 1) := by decide +kernel
theorem dX2_firstLike_16 : decode cX2_firstLike 16 = .ok (.getfield 15, 3) := by decide +kernel
theorem dX2_firstLike_19 : decode cX2_firstLike 19 = .ok (.iload 4, 2) := by decide +kernel
theorem dX2_firstLike_21 : decode cX2_firstLike 21 = .ok (.iaload, 1) := by decide +kernel
theorem dX2_firstLike_22 : decode cX2_firstLike 22 = .ok (.invokestatic 75, 3) := by decide +kernel
theorem dX2_firstLike_25 : decode cX2_firstLike 25 = .ok (.ifCond .eq 6, 3) := by decide +kernel
theorem dX2_firstLike_28 : decode cX2_firstLike 28 = .ok (.iload 4, 2) := by decide +kernel
theorem dX2_firstLike_30 : decode cX2_firstLike 30 = .ok (.ireturn, 1) := by decide +kernel
theorem dX2_firstLike_31 : decode cX2_firstLike 31 = .ok (.iinc 4 1, 3) := by decide +kernel
theorem dX2_firstLike_34 : decode cX2_firstLike 34 = .ok (.goto (-31), 3) := by decide +kernel
theorem dX2_firstLike_37 : decode cX2_firstLike 37 = .ok (.iload_n 3, 1) := by decide +kernel
theorem dX2_firstLike_38 : decode cX2_firstLike 38 = .ok (.ireturn, 1) := by decide +kernel
def m2_firstLike : pMT := (yX2_firstLike, cX2_firstLike, 5, some .int)
theorem mo2_firstLike : mOK m2_firstLike 3 := ⟨tb_i 1039 (by decide +kernel), wi_RX2, ⟨wn_RX2.1, wn_RX2.2, by decide +kernel⟩, by decide, plainFor_of_name wp_RX2⟩
theorem mv2_firstLike : mV m2_firstLike := ⟨tb_i 1038 (by decide +kernel), tb_p 42 (by decide +kernel)⟩
def f2_firstLike_c3 (n : Nat) (I : (Nat → Nat → Int32)) (O : (Nat → Nat → Option Nat)) : Nat → Nat → Int32 → Int32 → Int32 → Option (Int32)
  | 0, _, _, _, _ => none
  | m + 1, b0, y1, y3, y4 => (if y3 ≤ y4 then some (y3) else (if y1 < 0 ∨ 16 ≤ y1.toNatClampNeg then none else (if y4 < 0 ∨ 16 ≤ y4.toNatClampNeg then none else (f2_isSameHole (I (rO O b0 0) y1.toNatClampNeg) (I (rO O b0 1) y4.toNatClampNeg)).bind fun r6 => (if r6 = 0 then f2_firstLike_c3 n I O m b0 y1 y3 (y4 + 1) else some (y4)))))
set_option maxHeartbeats 4000000 in
set_option maxRecDepth 20000 in
theorem o2_firstLike_c3 {g : pG} {Qx : Option Value → pW → Prop} {Z : pZ} {I : (Nat → Nat → Int32)} {L : (Nat → Nat → Int64)} {O : (Nat → Nat → Option Nat)} {n : Nat} {res : Int32} (d : Nat) (hW : WT Z O) (hQ : Qx (some (.int res)) (Z, I, L, O)) : ∀ (m : Nat) (b0 : Nat) (y1 : Int32) (y3 : Int32) (y4 : Int32), (Z[b0]? = some (2, 10)) → f2_firstLike_c3 n I O m b0 y1 y3 y4 = some res → Ok g (d + 4, RX2, cX2_firstLike, 5, false, 0, 0, Z.length, pSl Z) Qx 3 [(0, .ref b0), (1, .int y1), (3, .int y3), (4, .int y4)] [] (Z, I, L, O) := by
  intro m
  induction m with
  | zero => intro b0 y1 y3 y4 hZ_b0 h; rw [f2_firstLike_c3] at h; cases h
  | succ m ih =>
    intro b0 y1 y3 y4 hZ_b0 h
    rw [f2_firstLike_c3] at h
    refine ok_iload dX2_firstLike_3 3 rfl ?_
    refine ok_iload_n dX2_firstLike_5 2 rfl ?_
    refine ok_icmp_ge (t := 37) dX2_firstLike_6 (by decide) (fun hc1 => ?_) (fun hc1 => ?_)
    · have h := (if_pos hc1).symm.trans h
      refine ok_iload_n dX2_firstLike_37 2 rfl ?_
      cases h
      exact ok_iret dX2_firstLike_38 hQ
    · have h := (if_neg hc1).symm.trans h
      refine ok_aload_n dX2_firstLike_9 0 rfl ?_
      have hT2 : Z[(rO O b0 0)]? = some (13, 16) := (wt_f (ci := 2) (k := 0) hW hZ_b0 rfl).2
      refine ok_getR (ci := 2) (k := 0) dX2_firstLike_10 flRX2_9 rfl hW hZ_b0 (by decide) ?_
      refine ok_iload_n dX2_firstLike_13 1 rfl ?_
      obtain ⟨hg3, h⟩ := gd h
      refine ok_iald2 (N := y1.toNatClampNeg) dX2_firstLike_14 hT2 hg3 rfl ?_
      refine ok_aload_n dX2_firstLike_15 0 rfl ?_
      have hT4 : Z[(rO O b0 1)]? = some (13, 16) := (wt_f (ci := 2) (k := 1) hW hZ_b0 rfl).2
      refine ok_getR (ci := 2) (k := 1) dX2_firstLike_16 flRX2_15 rfl hW hZ_b0 (by decide) ?_
      refine ok_iload dX2_firstLike_19 3 rfl ?_
      obtain ⟨hg5, h⟩ := gd h
      refine ok_iald2 (N := y4.toNatClampNeg) dX2_firstLike_21 hT4 hg5 rfl ?_
      obtain ⟨r6, hr7, h⟩ := bd h
      refine ok_callS (d := ((d + 0) + 3)) (mt := m2_isSameHole) (mc := 0) (ms := 0) (As := [.int (I (rO O b0 0) y1.toNatClampNeg), .int (I (rO O b0 1) y4.toNatClampNeg)]) (r := []) dX2_firstLike_22 mo2_isSameHole mv2_isSameHole lkRX2_75 rfl rfl (Nat.le_of_ble_eq_true rfl) (by show _ + 1 ≤ d + _; omega) (Nat.le_refl _) (Nat.le_refl _) (pRt_mono ?_)
      refine k2_isSameHole (d + 0) hW  hr7 ?_
      intro hbr6
      show Ok g _ Qx 25 [(0, .ref b0), (1, .int y1), (3, .int y3), (4, .int y4)] [.int r6] (Z, I, L, O)
      refine ok_if_eq (t := 31) dX2_firstLike_25 (by decide) (fun hc8 => ?_) (fun hc8 => ?_)
      · have h := (if_pos hc8).symm.trans h
        refine ok_iinc (u := (y4 + 1)) (l' := [(4, .int (y4 + 1)), (0, .ref b0), (1, .int y1), (3, .int y3)]) dX2_firstLike_31 3 rfl rfl (Nat.le_of_ble_eq_true rfl) rfl ?_
        refine ok_goto (t := 3) dX2_firstLike_34 (by decide) ?_
        refine ok_sub [1, 2, 3, 0] rfl ?_
        exact ih b0 y1 y3 (y4 + 1) hZ_b0 h
      · have h := (if_neg hc8).symm.trans h
        refine ok_iload dX2_firstLike_28 3 rfl ?_
        cases h
        exact ok_iret dX2_firstLike_30 hQ
def f2_firstLike (n : Nat) (I : (Nat → Nat → Int32)) (O : (Nat → Nat → Option Nat)) (a0 : Nat) (x1 : Int32) (x2 : Int32) (x3 : Int32) : Option (Int32) := f2_firstLike_c3 n I O n a0 x1 x3 x2
set_option maxHeartbeats 4000000 in
set_option maxRecDepth 20000 in
theorem o2_firstLike {g : pG} {Qx : Option Value → pW → Prop} {Z : pZ} {I : (Nat → Nat → Int32)} {L : (Nat → Nat → Int64)} {O : (Nat → Nat → Option Nat)} {n : Nat} {a0 : Nat} {x1 : Int32} {x2 : Int32} {x3 : Int32} {res : Int32} (d : Nat) (hW : WT Z O) (hZ0 : Z[a0]? = some (2, 10)) (h : f2_firstLike n I O a0 x1 x2 x3 = some res) (hQ : Qx (some (.int res)) (Z, I, L, O)) : Ok g (d + 4, RX2, cX2_firstLike, 5, false, 0, 0, Z.length, pSl Z) Qx 0 [(0, .ref a0), (1, .int x1), (2, .int x2), (3, .int x3)] [] (Z, I, L, O) := by
  unfold f2_firstLike at h
  refine ok_iload_n dX2_firstLike_0 2 rfl ?_
  refine ok_istore (l' := [(4, .int x2), (0, .ref a0), (1, .int x1), (2, .int x2), (3, .int x3)]) dX2_firstLike_1 (Nat.le_of_ble_eq_true rfl) rfl ?_
  refine ok_sub [1, 2, 4, 0] rfl ?_
  exact o2_firstLike_c3 d hW hQ  n a0 x1 x3 x2 hZ0 h
theorem k2_firstLike {g : pG} {Q : Option Value → pW → Prop} {Z : pZ} {I : (Nat → Nat → Int32)} {L : (Nat → Nat → Int64)} {O : (Nat → Nat → Option Nat)} {n : Nat} {a0 : Nat} {x1 : Int32} {x2 : Int32} {x3 : Int32} {res : Int32} (d : Nat) (hW : WT Z O) (hZ0 : Z[a0]? = some (2, 10)) (h : f2_firstLike n I O a0 x1 x2 x3 = some res) (hQ : Q (some (.int res)) (Z, I, L, O)) : CT g (d + 4) m2_firstLike 0 0 [.ref a0, .int x1, .int x2, .int x3] (Z, I, L, O) Q :=
  ct_of_ok (mt := m2_firstLike) (ini := false) mo2_firstLike.2.2.2.2 (fun h => by cases h) (Nat.le_of_ble_eq_true rfl) (o2_firstLike d hW hZ0 h ⟨trivial, hQ, rfl, rfl⟩)
theorem dX2_pickShared_0 : decode cX2_pickShared 0 = .ok (.iconst 0, 1) := by decide +kernel
theorem dX2_pickShared_1 : decode cX2_pickShared 1 = .ok (.istore_n 3, 1) := by decide +kernel
theorem dX2_pickShared_2 : decode cX2_pickShared 2 = .ok (.iconst 0, 1) := by decide +kernel
theorem dX2_pickShared_3 : decode cX2_pickShared 3 = .ok (.istore 4, 2) := by decide +kernel
theorem dX2_pickShared_5 : decode cX2_pickShared 5 = .ok (.iconst 0, 1) := by decide +kernel
theorem dX2_pickShared_6 : decode cX2_pickShared 6 = .ok (.istore 5, 2) := by decide +kernel
theorem dX2_pickShared_8 : decode cX2_pickShared 8 = .ok (.iload 5, 2) := by decide +kernel
theorem dX2_pickShared_10 : decode cX2_pickShared 10 = .ok (.iload_n 1, 1) := by decide +kernel
theorem dX2_pickShared_11 : decode cX2_pickShared 11 = .ok (.if_icmp .ge 83, 3) := by decide +kernel
theorem dX2_pickShared_14 : decode cX2_pickShared 14 = .ok (.iload_n 3, 1) := by decide +kernel
theorem dX2_pickShared_15 : decode cX2_pickShared 15 = .ok (.aload_n 0, 1) := by decide +kernel
theorem dX2_pickShared_16 : decode cX2_pickShared 16 = .ok (.getfield 18, 3) := by decide +kernel
theorem dX2_pickShared_19 : decode cX2_pickShared 19 = .ok (.iconst 0, 1) := by decide +kernel
theorem dX2_pickShared_20 : decode cX2_pickShared 20 = .ok (.iaload, 1) := by decide +kernel
theorem dX2_pickShared_21 : decode cX2_pickShared 21 = .ok (.if_icmp .ge 73, 3) := by decide +kernel
theorem dX2_pickShared_24 : decode cX2_pickShared 24 = .ok (.aload_n 0, 1) := by decide +kernel
theorem dX2_pickShared_25 : decode cX2_pickShared 25 = .ok (.iload 5, 2) := by decide +kernel
theorem dX2_pickShared_27 : decode cX2_pickShared 27 = .ok (.iload 4, 2) := by decide +kernel
theorem dX2_pickShared_29 : decode cX2_pickShared 29 = .ok (.iload_n 2, 1) := by decide +kernel
theorem dX2_pickShared_30 : decode cX2_pickShared 30 = .ok (.invokevirtual 78, 3) := by decide +kernel
theorem dX2_pickShared_33 : decode cX2_pickShared 33 = .ok (.istore 6, 2) := by decide +kernel
theorem dX2_pickShared_35 : decode cX2_pickShared 35 = .ok (.iload 6, 2) := by decide +kernel
theorem dX2_pickShared_37 : decode cX2_pickShared 37 = .ok (.iload_n 2, 1) := by decide +kernel
theorem dX2_pickShared_38 : decode cX2_pickShared 38 = .ok (.if_icmp .ge 50, 3) := by decide +kernel
theorem dX2_pickShared_41 : decode cX2_pickShared 41 = .ok (.aload_n 0, 1) := by decide +kernel
theorem dX2_pickShared_42 : decode cX2_pickShared 42 = .ok (.getfield 18, 3) := by decide +kernel
theorem dX2_pickShared_45 : decode cX2_pickShared 45 = .ok (.iload 5, 2) := by decide +kernel
theorem dX2_pickShared_47 : decode cX2_pickShared 47 = .ok (.iconst 1, 1) := by decide +kernel
theorem dX2_pickShared_48 : decode cX2_pickShared 48 = .ok (.iadd, 1) := by decide +kernel
theorem dX2_pickShared_49 : decode cX2_pickShared 49 = .ok (.bipush 17, 2) := by decide +kernel
theorem dX2_pickShared_51 : decode cX2_pickShared 51 = .ok (.imul, 1) := by decide +kernel
theorem dX2_pickShared_52 : decode cX2_pickShared 52 = .ok (.iload 6, 2) := by decide +kernel
theorem dX2_pickShared_54 : decode cX2_pickShared 54 = .ok (.iadd, 1) := by decide +kernel
theorem dX2_pickShared_55 : decode cX2_pickShared 55 = .ok (.iconst 1, 1) := by decide +kernel
theorem dX2_pickShared_56 : decode cX2_pickShared 56 = .ok (.iadd, 1) := by decide +kernel
theorem dX2_pickShared_57 : decode cX2_pickShared 57 = .ok (.iaload, 1) := by decide +kernel
theorem dX2_pickShared_58 : decode cX2_pickShared 58 = .ok (.iconst 1, 1) := by decide +kernel
theorem dX2_pickShared_59 : decode cX2_pickShared 59 = .ok (.iadd, 1) := by decide +kernel
theorem dX2_pickShared_60 : decode cX2_pickShared 60 = .ok (.aload_n 0, 1) := by decide +kernel
theorem dX2_pickShared_61 : decode cX2_pickShared 61 = .ok (.getfield 18, 3) := by decide +kernel
theorem dX2_pickShared_64 : decode cX2_pickShared 64 = .ok (.iconst 0, 1) := by decide +kernel
theorem dX2_pickShared_65 : decode cX2_pickShared 65 = .ok (.iaload, 1) := by decide +kernel
theorem dX2_pickShared_66 : decode cX2_pickShared 66 = .ok (.iload_n 3, 1) := by decide +kernel
theorem dX2_pickShared_67 : decode cX2_pickShared 67 = .ok (.isub, 1) := by decide +kernel
theorem dX2_pickShared_68 : decode cX2_pickShared 68 = .ok (.if_icmp .ne 20, 3) := by decide +kernel
theorem dX2_pickShared_71 : decode cX2_pickShared 71 = .ok (.aload_n 0, 1) := by decide +kernel
theorem dX2_pickShared_72 : decode cX2_pickShared 72 = .ok (.getfield 21, 3) := by decide +kernel
theorem dX2_pickShared_75 : decode cX2_pickShared 75 = .ok (.iload_n 3, 1) := by decide +kernel
theorem dX2_pickShared_76 : decode cX2_pickShared 76 = .ok (.iload 5, 2) := by decide +kernel
theorem dX2_pickShared_78 : decode cX2_pickShared 78 = .ok (.iastore, 1) := by decide +kernel
theorem dX2_pickShared_79 : decode cX2_pickShared 79 = .ok (.iinc 3 1, 3) := by decide +kernel
theorem dX2_pickShared_82 : decode cX2_pickShared 82 = .ok (.iload 6, 2) := by decide +kernel
theorem dX2_pickShared_84 : decode cX2_pickShared 84 = .ok (.iconst 1, 1) := by decide +kernel
theorem dX2_pickShared_85 : decode cX2_pickShared 85 = .ok (.iadd, 1) := by decide +kernel
theorem dX2_pickShared_86 : decode cX2_pickShared 86 = .ok (.istore 4, 2) := by decide +kernel
theorem dX2_pickShared_88 : decode cX2_pickShared 88 = .ok (.iinc 5 1, 3) := by decide +kernel
theorem dX2_pickShared_91 : decode cX2_pickShared 91 = .ok (.goto (-83), 3) := by decide +kernel
theorem dX2_pickShared_94 : decode cX2_pickShared 94 = .ok (.return_, 1) := by decide +kernel
def m2_pickShared : pMT := (yX2_pickShared, cX2_pickShared, 7, none)
theorem mo2_pickShared : mOK m2_pickShared 2 := ⟨tb_i 1035 (by decide +kernel), wi_RX2, ⟨wn_RX2.1, wn_RX2.2, by decide +kernel⟩, by decide, plainFor_of_name wp_RX2⟩
theorem mv2_pickShared : mV m2_pickShared := ⟨tb_i 1034 (by decide +kernel), tb_p 41 (by decide +kernel)⟩
def f2_pickShared_c8 (n : Nat) (O : (Nat → Nat → Option Nat)) : Nat → (Nat → Nat → Int32) → Nat → Int32 → Int32 → Int32 → Int32 → Int32 → Option ((Nat → Nat → Int32))
  | 0, _, _, _, _, _, _, _ => none
  | m + 1, I, b0, y1, y2, y3, y4, y5 => (if y1 ≤ y5 then some (I) else (if (I (rO O b0 2) 0) ≤ y3 then some (I) else (f2_firstLike n I O b0 y5 y4 y2).bind fun r4 => (if y2 ≤ r4 then f2_pickShared_c8 n O m I b0 y1 y2 y3 y4 (y5 + 1) else (if ((((y5 + 1) * 17) + r4) + 1) < 0 ∨ 289 ≤ ((((y5 + 1) * 17) + r4) + 1).toNatClampNeg then none else (if ((I (rO O b0 2) ((((y5 + 1) * 17) + r4) + 1).toNatClampNeg) + 1) = ((I (rO O b0 2) 0) - y3) then (if y3 < 0 ∨ 16 ≤ y3.toNatClampNeg then none else bl (sI I (rO O b0 3) y3.toNatClampNeg y5) fun I11 => f2_pickShared_c8 n O m I11 b0 y1 y2 (y3 + 1) (r4 + 1) (y5 + 1)) else f2_pickShared_c8 n O m I b0 y1 y2 y3 y4 (y5 + 1))))))
set_option maxHeartbeats 4000000 in
set_option maxRecDepth 20000 in
theorem o2_pickShared_c8 {g : pG} {Qx : Option Value → pW → Prop} {Z : pZ} {L : (Nat → Nat → Int64)} {O : (Nat → Nat → Option Nat)} {n : Nat} {res : (Nat → Nat → Int32)} (d : Nat) (hW : WT Z O) (hQ : Qx none (Z, res, L, O)) : ∀ (m : Nat) (I : (Nat → Nat → Int32)) (b0 : Nat) (y1 : Int32) (y2 : Int32) (y3 : Int32) (y4 : Int32) (y5 : Int32), (Z[b0]? = some (2, 10)) → f2_pickShared_c8 n O m I b0 y1 y2 y3 y4 y5 = some res → Ok g (d + 5, RX2, cX2_pickShared, 7, false, 0, 0, Z.length, pSl Z) Qx 8 [(0, .ref b0), (1, .int y1), (2, .int y2), (3, .int y3), (4, .int y4), (5, .int y5)] [] (Z, I, L, O) := by
  intro m
  induction m with
  | zero => intro I b0 y1 y2 y3 y4 y5 hZ_b0 h; rw [f2_pickShared_c8] at h; cases h
  | succ m ih =>
    intro I b0 y1 y2 y3 y4 y5 hZ_b0 h
    rw [f2_pickShared_c8] at h
    refine ok_iload dX2_pickShared_8 5 rfl ?_
    refine ok_iload_n dX2_pickShared_10 1 rfl ?_
    refine ok_icmp_ge (t := 94) dX2_pickShared_11 (by decide) (fun hc1 => ?_) (fun hc1 => ?_)
    · have h := (if_pos hc1).symm.trans h
      cases h
      exact ok_vret dX2_pickShared_94 hQ
    · have h := (if_neg hc1).symm.trans h
      refine ok_iload_n dX2_pickShared_14 3 rfl ?_
      refine ok_aload_n dX2_pickShared_15 0 rfl ?_
      have hT2 : Z[(rO O b0 2)]? = some (13, 289) := (wt_f (ci := 2) (k := 2) hW hZ_b0 rfl).2
      refine ok_getR (ci := 2) (k := 2) dX2_pickShared_16 flRX2_18 rfl hW hZ_b0 (by decide) ?_
      refine ok_iconst (v := 0) dX2_pickShared_19 (by decide) ?_
      refine ok_iald2 (N := 0) dX2_pickShared_20 hT2 (by unfold vp_in; decide) (by decide) ?_
      refine ok_icmp_ge (t := 94) dX2_pickShared_21 (by decide) (fun hc3 => ?_) (fun hc3 => ?_)
      · have h := (if_pos hc3).symm.trans h
        cases h
        exact ok_vret dX2_pickShared_94 hQ
      · have h := (if_neg hc3).symm.trans h
        refine ok_aload_n dX2_pickShared_24 0 rfl ?_
        refine ok_iload dX2_pickShared_25 5 rfl ?_
        refine ok_iload dX2_pickShared_27 4 rfl ?_
        refine ok_iload_n dX2_pickShared_29 2 rfl ?_
        obtain ⟨r4, hr5, h⟩ := bd h
        refine ok_callV (d := ((d + 0) + 4)) (mt := m2_firstLike) (mc := 0) (ms := 0) (As := [.int y5, .int y4, .int y2]) (r := []) dX2_pickShared_30 mo2_firstLike mv2_firstLike lkRX2_78 rfl hZ_b0 (q := (RX2, TX2, 10)) rfl rfl rfl (Nat.le_of_ble_eq_true rfl) (by show _ + 1 ≤ d + _; omega) (Nat.le_refl _) (Nat.le_refl _) (pRt_mono ?_)
        refine k2_firstLike (d + 0) hW hZ_b0 hr5 ?_
        intro _
        show Ok g _ Qx 33 [(0, .ref b0), (1, .int y1), (2, .int y2), (3, .int y3), (4, .int y4), (5, .int y5)] [.int r4] (Z, I, L, O)
        refine ok_istore (l' := [(6, .int r4), (0, .ref b0), (1, .int y1), (2, .int y2), (3, .int y3), (4, .int y4), (5, .int y5)]) dX2_pickShared_33 (Nat.le_of_ble_eq_true rfl) rfl ?_
        refine ok_iload dX2_pickShared_35 0 rfl ?_
        refine ok_iload_n dX2_pickShared_37 3 rfl ?_
        refine ok_icmp_ge (t := 88) dX2_pickShared_38 (by decide) (fun hc6 => ?_) (fun hc6 => ?_)
        · have h := (if_pos hc6).symm.trans h
          refine ok_iinc (u := (y5 + 1)) (l' := [(5, .int (y5 + 1)), (6, .int r4), (0, .ref b0), (1, .int y1), (2, .int y2), (3, .int y3), (4, .int y4)]) dX2_pickShared_88 6 rfl rfl (Nat.le_of_ble_eq_true rfl) rfl ?_
          refine ok_goto (t := 8) dX2_pickShared_91 (by decide) ?_
          refine ok_sub [2, 3, 4, 5, 6, 0] rfl ?_
          exact ih I b0 y1 y2 y3 y4 (y5 + 1) hZ_b0 h
        · have h := (if_neg hc6).symm.trans h
          refine ok_aload_n dX2_pickShared_41 1 rfl ?_
          refine ok_getR (ci := 2) (k := 2) dX2_pickShared_42 flRX2_18 rfl hW hZ_b0 (by decide) ?_
          refine ok_iload dX2_pickShared_45 6 rfl ?_
          refine ok_iconst (v := 1) dX2_pickShared_47 (by decide) ?_
          refine ok_iadd dX2_pickShared_48 ?_
          refine ok_bipush (v := 17) dX2_pickShared_49 (by decide) ?_
          refine ok_imul dX2_pickShared_51 ?_
          refine ok_iload dX2_pickShared_52 0 rfl ?_
          refine ok_iadd dX2_pickShared_54 ?_
          refine ok_iconst (v := 1) dX2_pickShared_55 (by decide) ?_
          refine ok_iadd dX2_pickShared_56 ?_
          obtain ⟨hg7, h⟩ := gd h
          refine ok_iald2 (N := ((((y5 + 1) * 17) + r4) + 1).toNatClampNeg) dX2_pickShared_57 hT2 hg7 rfl ?_
          refine ok_iconst (v := 1) dX2_pickShared_58 (by decide) ?_
          refine ok_iadd dX2_pickShared_59 ?_
          refine ok_aload_n dX2_pickShared_60 1 rfl ?_
          refine ok_getR (ci := 2) (k := 2) dX2_pickShared_61 flRX2_18 rfl hW hZ_b0 (by decide) ?_
          refine ok_iconst (v := 0) dX2_pickShared_64 (by decide) ?_
          refine ok_iald2 (N := 0) dX2_pickShared_65 hT2 (by unfold vp_in; decide) (by decide) ?_
          refine ok_iload_n dX2_pickShared_66 4 rfl ?_
          refine ok_isub dX2_pickShared_67 ?_
          refine ok_icmp_ne (t := 88) dX2_pickShared_68 (by decide) (fun hc8 => ?_) (fun hc8 => ?_)
          · have h := (if_neg hc8).symm.trans h
            refine ok_iinc (u := (y5 + 1)) (l' := [(5, .int (y5 + 1)), (6, .int r4), (0, .ref b0), (1, .int y1), (2, .int y2), (3, .int y3), (4, .int y4)]) dX2_pickShared_88 6 rfl rfl (Nat.le_of_ble_eq_true rfl) rfl ?_
            refine ok_goto (t := 8) dX2_pickShared_91 (by decide) ?_
            refine ok_sub [2, 3, 4, 5, 6, 0] rfl ?_
            exact ih I b0 y1 y2 y3 y4 (y5 + 1) hZ_b0 h
          · have h := (if_pos hc8).symm.trans h
            refine ok_aload_n dX2_pickShared_71 1 rfl ?_
            have hT9 : Z[(rO O b0 3)]? = some (13, 16) := (wt_f (ci := 2) (k := 3) hW hZ_b0 rfl).2
            refine ok_getR (ci := 2) (k := 3) dX2_pickShared_72 flRX2_21 rfl hW hZ_b0 (by decide) ?_
            refine ok_iload_n dX2_pickShared_75 4 rfl ?_
            refine ok_iload dX2_pickShared_76 6 rfl ?_
            obtain ⟨hg10, h⟩ := gd h
            obtain ⟨I11, eI11, h⟩ := blE h
            refine ok_iast3 dX2_pickShared_78 hT9 hg10 rfl eI11 ?_
            refine ok_iinc (u := (y3 + 1)) (l' := [(3, .int (y3 + 1)), (6, .int r4), (0, .ref b0), (1, .int y1), (2, .int y2), (4, .int y4), (5, .int y5)]) dX2_pickShared_79 4 rfl rfl (Nat.le_of_ble_eq_true rfl) rfl ?_
            refine ok_iload dX2_pickShared_82 1 rfl ?_
            refine ok_iconst (v := 1) dX2_pickShared_84 (by decide) ?_
            refine ok_iadd dX2_pickShared_85 ?_
            refine ok_istore (l' := [(4, .int (r4 + 1)), (3, .int (y3 + 1)), (6, .int r4), (0, .ref b0), (1, .int y1), (2, .int y2), (5, .int y5)]) dX2_pickShared_86 (Nat.le_of_ble_eq_true rfl) rfl ?_
            refine ok_iinc (u := (y5 + 1)) (l' := [(5, .int (y5 + 1)), (4, .int (r4 + 1)), (3, .int (y3 + 1)), (6, .int r4), (0, .ref b0), (1, .int y1), (2, .int y2)]) dX2_pickShared_88 6 rfl rfl (Nat.le_of_ble_eq_true rfl) rfl ?_
            refine ok_goto (t := 8) dX2_pickShared_91 (by decide) ?_
            refine ok_sub [4, 5, 6, 2, 1, 0] rfl ?_
            exact ih I11 b0 y1 y2 (y3 + 1) (r4 + 1) (y5 + 1) hZ_b0 h
def f2_pickShared (n : Nat) (I : (Nat → Nat → Int32)) (O : (Nat → Nat → Option Nat)) (a0 : Nat) (x1 : Int32) (x2 : Int32) : Option ((Nat → Nat → Int32)) := f2_pickShared_c8 n O n I a0 x1 x2 (0 : Int32) (0 : Int32) (0 : Int32)
set_option maxHeartbeats 4000000 in
set_option maxRecDepth 20000 in
theorem o2_pickShared {g : pG} {Qx : Option Value → pW → Prop} {Z : pZ} {I : (Nat → Nat → Int32)} {L : (Nat → Nat → Int64)} {O : (Nat → Nat → Option Nat)} {n : Nat} {a0 : Nat} {x1 : Int32} {x2 : Int32} {res : (Nat → Nat → Int32)} (d : Nat) (hW : WT Z O) (hZ0 : Z[a0]? = some (2, 10)) (h : f2_pickShared n I O a0 x1 x2 = some res) (hQ : Qx none (Z, res, L, O)) : Ok g (d + 5, RX2, cX2_pickShared, 7, false, 0, 0, Z.length, pSl Z) Qx 0 [(0, .ref a0), (1, .int x1), (2, .int x2)] [] (Z, I, L, O) := by
  unfold f2_pickShared at h
  refine ok_iconst (v := 0) dX2_pickShared_0 (by decide) ?_
  refine ok_istore_n (l' := [(3, .int 0), (0, .ref a0), (1, .int x1), (2, .int x2)]) dX2_pickShared_1 rfl (Nat.le_of_ble_eq_true rfl) rfl ?_
  refine ok_iconst (v := 0) dX2_pickShared_2 (by decide) ?_
  refine ok_istore (l' := [(4, .int 0), (3, .int 0), (0, .ref a0), (1, .int x1), (2, .int x2)]) dX2_pickShared_3 (Nat.le_of_ble_eq_true rfl) rfl ?_
  refine ok_iconst (v := 0) dX2_pickShared_5 (by decide) ?_
  refine ok_istore (l' := [(5, .int 0), (4, .int 0), (3, .int 0), (0, .ref a0), (1, .int x1), (2, .int x2)]) dX2_pickShared_6 (Nat.le_of_ble_eq_true rfl) rfl ?_
  refine ok_sub [3, 4, 5, 2, 1, 0] rfl ?_
  exact o2_pickShared_c8 d hW hQ  n I a0 x1 x2 (0 : Int32) (0 : Int32) (0 : Int32) hZ0 h
theorem k2_pickShared {g : pG} {Q : Option Value → pW → Prop} {Z : pZ} {I : (Nat → Nat → Int32)} {L : (Nat → Nat → Int64)} {O : (Nat → Nat → Option Nat)} {n : Nat} {a0 : Nat} {x1 : Int32} {x2 : Int32} {res : (Nat → Nat → Int32)} (d : Nat) (hW : WT Z O) (hZ0 : Z[a0]? = some (2, 10)) (h : f2_pickShared n I O a0 x1 x2 = some res) (hQ : Q none (Z, res, L, O)) : CT g (d + 5) m2_pickShared 0 0 [.ref a0, .int x1, .int x2] (Z, I, L, O) Q :=
  ct_of_ok (mt := m2_pickShared) (ini := false) mo2_pickShared.2.2.2.2 (fun h => by cases h) (Nat.le_of_ble_eq_true rfl) (o2_pickShared d hW hZ0 h ⟨trivial, hQ, rfl, rfl⟩)
theorem dX2_sharedFrom_0 : decode cX2_sharedFrom 0 = .ok (.aload_n 0, 1) := by decide +kernel
theorem dX2_sharedFrom_1 : decode cX2_sharedFrom 1 = .ok (.getfield 18, 3) := by decide +kernel
theorem dX2_sharedFrom_4 : decode cX2_sharedFrom 4 = .ok (.iload_n 1, 1) := by decide +kernel
theorem dX2_sharedFrom_5 : decode cX2_sharedFrom 5 = .ok (.iconst 1, 1) := by decide +kernel
theorem dX2_sharedFrom_6 : decode cX2_sharedFrom 6 = .ok (.iadd, 1) := by decide +kernel
theorem dX2_sharedFrom_7 : decode cX2_sharedFrom 7 = .ok (.bipush 17, 2) := by decide +kernel
theorem dX2_sharedFrom_9 : decode cX2_sharedFrom 9 = .ok (.imul, 1) := by decide +kernel
theorem dX2_sharedFrom_10 : decode cX2_sharedFrom 10 = .ok (.iload_n 2, 1) := by decide +kernel
theorem dX2_sharedFrom_11 : decode cX2_sharedFrom 11 = .ok (.iadd, 1) := by decide +kernel
theorem dX2_sharedFrom_12 : decode cX2_sharedFrom 12 = .ok (.iaload, 1) := by decide +kernel
theorem dX2_sharedFrom_13 : decode cX2_sharedFrom 13 = .ok (.aload_n 0, 1) := by decide +kernel
theorem dX2_sharedFrom_14 : decode cX2_sharedFrom 14 = .ok (.getfield 18, 3) := by decide +kernel
theorem dX2_sharedFrom_17 : decode cX2_sharedFrom 17 = .ok (.iload_n 1, 1) := by decide +kernel
theorem dX2_sharedFrom_18 : decode cX2_sharedFrom 18 = .ok (.bipush 17, 2) := by decide +kernel
theorem dX2_sharedFrom_20 : decode cX2_sharedFrom 20 = .ok (.imul, 1) := by decide +kernel
theorem dX2_sharedFrom_21 : decode cX2_sharedFrom 21 = .ok (.iload_n 2, 1) := by decide +kernel
theorem dX2_sharedFrom_22 : decode cX2_sharedFrom 22 = .ok (.iadd, 1) := by decide +kernel
theorem dX2_sharedFrom_23 : decode cX2_sharedFrom 23 = .ok (.iconst 1, 1) := by decide +kernel
theorem dX2_sharedFrom_24 : decode cX2_sharedFrom 24 = .ok (.iadd, 1) := by decide +kernel
theorem dX2_sharedFrom_25 : decode cX2_sharedFrom 25 = .ok (.iaload, 1) := by decide +kernel
theorem dX2_sharedFrom_26 : decode cX2_sharedFrom 26 = .ok (.invokestatic 72, 3) := by decide +kernel
theorem dX2_sharedFrom_29 : decode cX2_sharedFrom 29 = .ok (.istore_n 3, 1) := by decide +kernel
theorem dX2_sharedFrom_30 : decode cX2_sharedFrom 30 = .ok (.aload_n 0, 1) := by decide +kernel
theorem dX2_sharedFrom_31 : decode cX2_sharedFrom 31 = .ok (.getfield 9, 3) := by decide +kernel
theorem dX2_sharedFrom_34 : decode cX2_sharedFrom 34 = .ok (.iload_n 1, 1) := by decide +kernel
theorem dX2_sharedFrom_35 : decode cX2_sharedFrom 35 = .ok (.iaload, 1) := by decide +kernel
theorem dX2_sharedFrom_36 : decode cX2_sharedFrom 36 = .ok (.aload_n 0, 1) := by decide +kernel
theorem dX2_sharedFrom_37 : decode cX2_sharedFrom 37 = .ok (.getfield 15, 3) := by decide +kernel
theorem dX2_sharedFrom_40 : decode cX2_sharedFrom 40 = .ok (.iload_n 2, 1) := by decide +kernel
theorem dX2_sharedFrom_41 : decode cX2_sharedFrom 41 = .ok (.iaload, 1) := by decide +kernel
theorem dX2_sharedFrom_42 : decode cX2_sharedFrom 42 = .ok (.invokestatic 75, 3) := by decide +kernel
theorem dX2_sharedFrom_45 : decode cX2_sharedFrom 45 = .ok (.ifCond .eq 25, 3) := by decide +kernel
theorem dX2_sharedFrom_48 : decode cX2_sharedFrom 48 = .ok (.iload_n 3, 1) := by decide +kernel
theorem dX2_sharedFrom_49 : decode cX2_sharedFrom 49 = .ok (.aload_n 0, 1) := by decide +kernel
theorem dX2_sharedFrom_50 : decode cX2_sharedFrom 50 = .ok (.getfield 18, 3) := by decide +kernel
theorem dX2_sharedFrom_53 : decode cX2_sharedFrom 53 = .ok (.iload_n 1, 1) := by decide +kernel
theorem dX2_sharedFrom_54 : decode cX2_sharedFrom 54 = .ok (.iconst 1, 1) := by decide +kernel
theorem dX2_sharedFrom_55 : decode cX2_sharedFrom 55 = .ok (.iadd, 1) := by decide +kernel
theorem dX2_sharedFrom_56 : decode cX2_sharedFrom 56 = .ok (.bipush 17, 2) := by decide +kernel
theorem dX2_sharedFrom_58 : decode cX2_sharedFrom 58 = .ok (.imul, 1) := by decide +kernel
theorem dX2_sharedFrom_59 : decode cX2_sharedFrom 59 = .ok (.iload_n 2, 1) := by decide +kernel
theorem dX2_sharedFrom_60 : decode cX2_sharedFrom 60 = .ok (.iadd, 1) := by decide +kernel
theorem dX2_sharedFrom_61 : decode cX2_sharedFrom 61 = .ok (.iconst 1, 1) := by decide +kernel
theorem dX2_sharedFrom_62 : decode cX2_sharedFrom 62 = .ok (.iadd, 1) := by decide +kernel
theorem dX2_sharedFrom_63 : decode cX2_sharedFrom 63 = .ok (.iaload, 1) := by decide +kernel
theorem dX2_sharedFrom_64 : decode cX2_sharedFrom 64 = .ok (.iconst 1, 1) := by decide +kernel
theorem dX2_sharedFrom_65 : decode cX2_sharedFrom 65 = .ok (.iadd, 1) := by decide +kernel
theorem dX2_sharedFrom_66 : decode cX2_sharedFrom 66 = .ok (.invokestatic 72, 3) := by decide +kernel
theorem dX2_sharedFrom_69 : decode cX2_sharedFrom 69 = .ok (.istore_n 3, 1) := by decide +kernel
theorem dX2_sharedFrom_70 : decode cX2_sharedFrom 70 = .ok (.iload_n 3, 1) := by decide +kernel
theorem dX2_sharedFrom_71 : decode cX2_sharedFrom 71 = .ok (.ireturn, 1) := by decide +kernel
def m2_sharedFrom : pMT := (yX2_sharedFrom, cX2_sharedFrom, 4, some .int)
theorem mo2_sharedFrom : mOK m2_sharedFrom 2 := ⟨tb_i 1024 (by decide +kernel), wi_RX2, ⟨wn_RX2.1, wn_RX2.2, by decide +kernel⟩, by decide, plainFor_of_name wp_RX2⟩
theorem mv2_sharedFrom : mV m2_sharedFrom := ⟨tb_i 1023 (by decide +kernel), tb_p 40 (by decide +kernel)⟩
def f2_sharedFrom (I : (Nat → Nat → Int32)) (O : (Nat → Nat → Option Nat)) (a0 : Nat) (x1 : Int32) (x2 : Int32) : Option (Int32) := (if (((x1 + 1) * 17) + x2) < 0 ∨ 289 ≤ (((x1 + 1) * 17) + x2).toNatClampNeg then none else (if (((x1 * 17) + x2) + 1) < 0 ∨ 289 ≤ (((x1 * 17) + x2) + 1).toNatClampNeg then none else (fJ9_max_7cf53 (I (rO O a0 2) (((x1 + 1) * 17) + x2).toNatClampNeg) (I (rO O a0 2) (((x1 * 17) + x2) + 1).toNatClampNeg)).bind fun r4 => (if x1 < 0 ∨ 16 ≤ x1.toNatClampNeg then none else (if x2 < 0 ∨ 16 ≤ x2.toNatClampNeg then none else (f2_isSameHole (I (rO O a0 0) x1.toNatClampNeg) (I (rO O a0 1) x2.toNatClampNeg)).bind fun r10 => (if r10 = 0 then some (r4) else (if ((((x1 + 1) * 17) + x2) + 1) < 0 ∨ 289 ≤ ((((x1 + 1) * 17) + x2) + 1).toNatClampNeg then none else (fJ9_max_7cf53 r4 ((I (rO O a0 2) ((((x1 + 1) * 17) + x2) + 1).toNatClampNeg) + 1)).bind fun r14 => some (r14)))))))
set_option maxHeartbeats 4000000 in
set_option maxRecDepth 20000 in
theorem o2_sharedFrom {g : pG} {Qx : Option Value → pW → Prop} {Z : pZ} {I : (Nat → Nat → Int32)} {L : (Nat → Nat → Int64)} {O : (Nat → Nat → Option Nat)} {a0 : Nat} {x1 : Int32} {x2 : Int32} {res : Int32} (d : Nat) (hW : WT Z O) (hZ0 : Z[a0]? = some (2, 10)) (h : f2_sharedFrom I O a0 x1 x2 = some res) (hQ : Qx (some (.int res)) (Z, I, L, O)) : Ok g (d + 4, RX2, cX2_sharedFrom, 4, false, 0, 0, Z.length, pSl Z) Qx 0 [(0, .ref a0), (1, .int x1), (2, .int x2)] [] (Z, I, L, O) := by
  unfold f2_sharedFrom at h
  refine ok_aload_n dX2_sharedFrom_0 0 rfl ?_
  have hT1 : Z[(rO O a0 2)]? = some (13, 289) := (wt_f (ci := 2) (k := 2) hW hZ0 rfl).2
  refine ok_getR (ci := 2) (k := 2) dX2_sharedFrom_1 flRX2_18 rfl hW hZ0 (by decide) ?_
  refine ok_iload_n dX2_sharedFrom_4 1 rfl ?_
  refine ok_iconst (v := 1) dX2_sharedFrom_5 (by decide) ?_
  refine ok_iadd dX2_sharedFrom_6 ?_
  refine ok_bipush (v := 17) dX2_sharedFrom_7 (by decide) ?_
  refine ok_imul dX2_sharedFrom_9 ?_
  refine ok_iload_n dX2_sharedFrom_10 2 rfl ?_
  refine ok_iadd dX2_sharedFrom_11 ?_
  obtain ⟨hg2, h⟩ := gd h
  refine ok_iald2 (N := (((x1 + 1) * 17) + x2).toNatClampNeg) dX2_sharedFrom_12 hT1 hg2 rfl ?_
  refine ok_aload_n dX2_sharedFrom_13 0 rfl ?_
  refine ok_getR (ci := 2) (k := 2) dX2_sharedFrom_14 flRX2_18 rfl hW hZ0 (by decide) ?_
  refine ok_iload_n dX2_sharedFrom_17 1 rfl ?_
  refine ok_bipush (v := 17) dX2_sharedFrom_18 (by decide) ?_
  refine ok_imul dX2_sharedFrom_20 ?_
  refine ok_iload_n dX2_sharedFrom_21 2 rfl ?_
  refine ok_iadd dX2_sharedFrom_22 ?_
  refine ok_iconst (v := 1) dX2_sharedFrom_23 (by decide) ?_
  refine ok_iadd dX2_sharedFrom_24 ?_
  obtain ⟨hg3, h⟩ := gd h
  refine ok_iald2 (N := (((x1 * 17) + x2) + 1).toNatClampNeg) dX2_sharedFrom_25 hT1 hg3 rfl ?_
  obtain ⟨r4, hr5, h⟩ := bd h
  refine ok_callS (d := ((d + 1) + 2)) (mt := mJ9_max_7cf53) (mc := 0) (ms := 0) (As := [.int (I (rO O a0 2) (((x1 + 1) * 17) + x2).toNatClampNeg), .int (I (rO O a0 2) (((x1 * 17) + x2) + 1).toNatClampNeg)]) (r := []) dX2_sharedFrom_26 moJ9_max_7cf53 mvJ9_max_7cf53 lkRX2_72 rfl rfl (Nat.le_of_ble_eq_true rfl) (by show _ + 1 ≤ d + _; omega) (Nat.le_refl _) (Nat.le_refl _) (pRt_mono ?_)
  refine kJ9_max_7cf53 (d + 1) hW  hr5 ?_
  intro _
  show Ok g _ Qx 29 [(0, .ref a0), (1, .int x1), (2, .int x2)] [.int r4] (Z, I, L, O)
  refine ok_istore_n (l' := [(3, .int r4), (0, .ref a0), (1, .int x1), (2, .int x2)]) dX2_sharedFrom_29 rfl (Nat.le_of_ble_eq_true rfl) rfl ?_
  refine ok_aload_n dX2_sharedFrom_30 1 rfl ?_
  have hT6 : Z[(rO O a0 0)]? = some (13, 16) := (wt_f (ci := 2) (k := 0) hW hZ0 rfl).2
  refine ok_getR (ci := 2) (k := 0) dX2_sharedFrom_31 flRX2_9 rfl hW hZ0 (by decide) ?_
  refine ok_iload_n dX2_sharedFrom_34 2 rfl ?_
  obtain ⟨hg7, h⟩ := gd h
  refine ok_iald2 (N := x1.toNatClampNeg) dX2_sharedFrom_35 hT6 hg7 rfl ?_
  refine ok_aload_n dX2_sharedFrom_36 1 rfl ?_
  have hT8 : Z[(rO O a0 1)]? = some (13, 16) := (wt_f (ci := 2) (k := 1) hW hZ0 rfl).2
  refine ok_getR (ci := 2) (k := 1) dX2_sharedFrom_37 flRX2_15 rfl hW hZ0 (by decide) ?_
  refine ok_iload_n dX2_sharedFrom_40 3 rfl ?_
  obtain ⟨hg9, h⟩ := gd h
  refine ok_iald2 (N := x2.toNatClampNeg) dX2_sharedFrom_41 hT8 hg9 rfl ?_
  obtain ⟨r10, hr11, h⟩ := bd h
  refine ok_callS (d := ((d + 0) + 3)) (mt := m2_isSameHole) (mc := 0) (ms := 0) (As := [.int (I (rO O a0 0) x1.toNatClampNeg), .int (I (rO O a0 1) x2.toNatClampNeg)]) (r := []) dX2_sharedFrom_42 mo2_isSameHole mv2_isSameHole lkRX2_75 rfl rfl (Nat.le_of_ble_eq_true rfl) (by show _ + 1 ≤ d + _; omega) (Nat.le_refl _) (Nat.le_refl _) (pRt_mono ?_)
  refine k2_isSameHole (d + 0) hW  hr11 ?_
  intro hbr10
  show Ok g _ Qx 45 [(3, .int r4), (0, .ref a0), (1, .int x1), (2, .int x2)] [.int r10] (Z, I, L, O)
  refine ok_if_eq (t := 70) dX2_sharedFrom_45 (by decide) (fun hc12 => ?_) (fun hc12 => ?_)
  · have h := (if_pos hc12).symm.trans h
    refine ok_iload_n dX2_sharedFrom_70 0 rfl ?_
    cases h
    exact ok_iret dX2_sharedFrom_71 hQ
  · have h := (if_neg hc12).symm.trans h
    refine ok_iload_n dX2_sharedFrom_48 0 rfl ?_
    refine ok_aload_n dX2_sharedFrom_49 1 rfl ?_
    refine ok_getR (ci := 2) (k := 2) dX2_sharedFrom_50 flRX2_18 rfl hW hZ0 (by decide) ?_
    refine ok_iload_n dX2_sharedFrom_53 2 rfl ?_
    refine ok_iconst (v := 1) dX2_sharedFrom_54 (by decide) ?_
    refine ok_iadd dX2_sharedFrom_55 ?_
    refine ok_bipush (v := 17) dX2_sharedFrom_56 (by decide) ?_
    refine ok_imul dX2_sharedFrom_58 ?_
    refine ok_iload_n dX2_sharedFrom_59 3 rfl ?_
    refine ok_iadd dX2_sharedFrom_60 ?_
    refine ok_iconst (v := 1) dX2_sharedFrom_61 (by decide) ?_
    refine ok_iadd dX2_sharedFrom_62 ?_
    obtain ⟨hg13, h⟩ := gd h
    refine ok_iald2 (N := ((((x1 + 1) * 17) + x2) + 1).toNatClampNeg) dX2_sharedFrom_63 hT1 hg13 rfl ?_
    refine ok_iconst (v := 1) dX2_sharedFrom_64 (by decide) ?_
    refine ok_iadd dX2_sharedFrom_65 ?_
    obtain ⟨r14, hr15, h⟩ := bd h
    refine ok_callS (d := ((d + 1) + 2)) (mt := mJ9_max_7cf53) (mc := 0) (ms := 0) (As := [.int r4, .int ((I (rO O a0 2) ((((x1 + 1) * 17) + x2) + 1).toNatClampNeg) + 1)]) (r := []) dX2_sharedFrom_66 moJ9_max_7cf53 mvJ9_max_7cf53 lkRX2_72 rfl rfl (Nat.le_of_ble_eq_true rfl) (by show _ + 1 ≤ d + _; omega) (Nat.le_refl _) (Nat.le_refl _) (pRt_mono ?_)
    refine kJ9_max_7cf53 (d + 1) hW  hr15 ?_
    intro _
    show Ok g _ Qx 69 [(3, .int r4), (0, .ref a0), (1, .int x1), (2, .int x2)] [.int r14] (Z, I, L, O)
    refine ok_istore_n (l' := [(3, .int r14), (0, .ref a0), (1, .int x1), (2, .int x2)]) dX2_sharedFrom_69 rfl (Nat.le_of_ble_eq_true rfl) rfl ?_
    refine ok_iload_n dX2_sharedFrom_70 0 rfl ?_
    cases h
    exact ok_iret dX2_sharedFrom_71 hQ
theorem k2_sharedFrom {g : pG} {Q : Option Value → pW → Prop} {Z : pZ} {I : (Nat → Nat → Int32)} {L : (Nat → Nat → Int64)} {O : (Nat → Nat → Option Nat)} {a0 : Nat} {x1 : Int32} {x2 : Int32} {res : Int32} (d : Nat) (hW : WT Z O) (hZ0 : Z[a0]? = some (2, 10)) (h : f2_sharedFrom I O a0 x1 x2 = some res) (hQ : Q (some (.int res)) (Z, I, L, O)) : CT g (d + 4) m2_sharedFrom 0 0 [.ref a0, .int x1, .int x2] (Z, I, L, O) Q :=
  ct_of_ok (mt := m2_sharedFrom) (ini := false) mo2_sharedFrom.2.2.2.2 (fun h => by cases h) (Nat.le_of_ble_eq_true rfl) (o2_sharedFrom d hW hZ0 h ⟨trivial, hQ, rfl, rfl⟩)
theorem dX2_findShared_0 : decode cX2_findShared 0 = .ok (.aload_n 1, 1) := by decide +kernel
theorem dX2_findShared_1 : decode cX2_findShared 1 = .ok (.iload_n 2, 1) := by decide +kernel
theorem dX2_findShared_2 : decode cX2_findShared 2 = .ok (.aload_n 0, 1) := by decide +kernel
theorem dX2_findShared_3 : decode cX2_findShared 3 = .ok (.getfield 9, 3) := by decide +kernel
theorem dX2_findShared_6 : decode cX2_findShared 6 = .ok (.invokestatic 55, 3) := by decide +kernel
theorem dX2_findShared_9 : decode cX2_findShared 9 = .ok (.istore 4, 2) := by decide +kernel
theorem dX2_findShared_11 : decode cX2_findShared 11 = .ok (.aload_n 1, 1) := by decide +kernel
theorem dX2_findShared_12 : decode cX2_findShared 12 = .ok (.iload_n 3, 1) := by decide +kernel
theorem dX2_findShared_13 : decode cX2_findShared 13 = .ok (.aload_n 0, 1) := by decide +kernel
theorem dX2_findShared_14 : decode cX2_findShared 14 = .ok (.getfield 15, 3) := by decide +kernel
theorem dX2_findShared_17 : decode cX2_findShared 17 = .ok (.invokestatic 55, 3) := by decide +kernel
theorem dX2_findShared_20 : decode cX2_findShared 20 = .ok (.istore 5, 2) := by decide +kernel
theorem dX2_findShared_22 : decode cX2_findShared 22 = .ok (.iload 4, 2) := by decide +kernel
theorem dX2_findShared_24 : decode cX2_findShared 24 = .ok (.istore 6, 2) := by decide +kernel
theorem dX2_findShared_26 : decode cX2_findShared 26 = .ok (.iload 6, 2) := by decide +kernel
theorem dX2_findShared_28 : decode cX2_findShared 28 = .ok (.ifCond .lt 63, 3) := by decide +kernel
theorem dX2_findShared_31 : decode cX2_findShared 31 = .ok (.iload 5, 2) := by decide +kernel
theorem dX2_findShared_33 : decode cX2_findShared 33 = .ok (.istore 7, 2) := by decide +kernel
theorem dX2_findShared_35 : decode cX2_findShared 35 = .ok (.iload 7, 2) := by decide +kernel
theorem dX2_findShared_37 : decode cX2_findShared 37 = .ok (.ifCond .lt 48, 3) := by decide +kernel
theorem dX2_findShared_40 : decode cX2_findShared 40 = .ok (.aload_n 0, 1) := by decide +kernel
theorem dX2_findShared_41 : decode cX2_findShared 41 = .ok (.getfield 18, 3) := by decide +kernel
theorem dX2_findShared_44 : decode cX2_findShared 44 = .ok (.iload 6, 2) := by decide +kernel
theorem dX2_findShared_46 : decode cX2_findShared 46 = .ok (.bipush 17, 2) := by decide +kernel
theorem dX2_findShared_48 : decode cX2_findShared 48 = .ok (.imul, 1) := by decide +kernel
theorem dX2_findShared_49 : decode cX2_findShared 49 = .ok (.iload 7, 2) := by decide +kernel
theorem dX2_findShared_51 : decode cX2_findShared 51 = .ok (.iadd, 1) := by decide +kernel
theorem dX2_findShared_52 : decode cX2_findShared 52 = .ok (.iload 6, 2) := by decide +kernel
theorem dX2_findShared_54 : decode cX2_findShared 54 = .ok (.iload 4, 2) := by decide +kernel
theorem dX2_findShared_56 : decode cX2_findShared 56 = .ok (.if_icmp .eq 10, 3) := by decide +kernel
theorem dX2_findShared_59 : decode cX2_findShared 59 = .ok (.iload 7, 2) := by decide +kernel
theorem dX2_findShared_61 : decode cX2_findShared 61 = .ok (.iload 5, 2) := by decide +kernel
theorem dX2_findShared_63 : decode cX2_findShared 63 = .ok (.if_icmp .ne 7, 3) := by decide +kernel
theorem dX2_findShared_66 : decode cX2_findShared 66 = .ok (.iconst 0, 1) := by decide +kernel
theorem dX2_findShared_67 : decode cX2_findShared 67 = .ok (.goto 11, 3) := by decide +kernel
theorem dX2_findShared_70 : decode cX2_findShared 70 = .ok (.aload_n 0, 1) := by decide +kernel
theorem dX2_findShared_71 : decode cX2_findShared 71 = .ok (.iload 6, 2) := by decide +kernel
theorem dX2_findShared_73 : decode cX2_findShared 73 = .ok (.iload 7, 2) := by decide +kernel
theorem dX2_findShared_75 : decode cX2_findShared 75 = .ok (.invokevirtual 65, 3) := by decide +kernel
theorem dX2_findShared_78 : decode cX2_findShared 78 = .ok (.iastore, 1) := by decide +kernel
theorem dX2_findShared_79 : decode cX2_findShared 79 = .ok (.iinc 7 (-1), 3) := by decide +kernel
theorem dX2_findShared_82 : decode cX2_findShared 82 = .ok (.goto (-47), 3) := by decide +kernel
theorem dX2_findShared_85 : decode cX2_findShared 85 = .ok (.iinc 6 (-1), 3) := by decide +kernel
theorem dX2_findShared_88 : decode cX2_findShared 88 = .ok (.goto (-62), 3) := by decide +kernel
theorem dX2_findShared_91 : decode cX2_findShared 91 = .ok (.aload_n 0, 1) := by decide +kernel
theorem dX2_findShared_92 : decode cX2_findShared 92 = .ok (.iload 4, 2) := by decide +kernel
theorem dX2_findShared_94 : decode cX2_findShared 94 = .ok (.iload 5, 2) := by decide +kernel
theorem dX2_findShared_96 : decode cX2_findShared 96 = .ok (.invokevirtual 68, 3) := by decide +kernel
theorem dX2_findShared_99 : decode cX2_findShared 99 = .ok (.aload_n 0, 1) := by decide +kernel
theorem dX2_findShared_100 : decode cX2_findShared 100 = .ok (.getfield 18, 3) := by decide +kernel
theorem dX2_findShared_103 : decode cX2_findShared 103 = .ok (.iconst 0, 1) := by decide +kernel
theorem dX2_findShared_104 : decode cX2_findShared 104 = .ok (.iaload, 1) := by decide +kernel
theorem dX2_findShared_105 : decode cX2_findShared 105 = .ok (.ireturn, 1) := by decide +kernel
def m2_findShared : pMT := (yX2_findShared, cX2_findShared, 8, some .int)
theorem mo2_findShared : mOK m2_findShared 3 := ⟨tb_i 1020 (by decide +kernel), wi_RX2, ⟨wn_RX2.1, wn_RX2.2, by decide +kernel⟩, by decide, plainFor_of_name wp_RX2⟩
theorem mv2_findShared : mV m2_findShared := ⟨tb_i 1018 (by decide +kernel), tb_i 1019 (by decide +kernel)⟩
def f2_findShared_c35 (n : Nat) (O : (Nat → Nat → Option Nat)) (k26 : ((Nat → Nat → Int32) → Nat → Int32 → Int32 → Int32 → Option (Int32 × (Nat → Nat → Int32)))) : Nat → (Nat → Nat → Int32) → Nat → Int32 → Int32 → Int32 → Int32 → Option (Int32 × (Nat → Nat → Int32))
  | 0, _, _, _, _, _, _ => none
  | m + 1, I, b0, y4, y5, y6, y7 => (if y7 < 0 then k26 I b0 y4 y5 (y6 + (-1)) else (if y6 = y4 then (if ((y6 * 17) + y7) < 0 ∨ 289 ≤ ((y6 * 17) + y7).toNatClampNeg then none else bl (sI I (rO O b0 2) ((y6 * 17) + y7).toNatClampNeg (0 : Int32)) fun I5 => f2_findShared_c35 n O k26 m I5 b0 y4 y5 y6 (y7 + (-1))) else (if y7 = y5 then (if ((y6 * 17) + y7) < 0 ∨ 289 ≤ ((y6 * 17) + y7).toNatClampNeg then none else bl (sI I (rO O b0 2) ((y6 * 17) + y7).toNatClampNeg (0 : Int32)) fun I12 => f2_findShared_c35 n O k26 m I12 b0 y4 y5 y6 (y7 + (-1))) else (f2_sharedFrom I O b0 y6 y7).bind fun r7 => (if ((y6 * 17) + y7) < 0 ∨ 289 ≤ ((y6 * 17) + y7).toNatClampNeg then none else bl (sI I (rO O b0 2) ((y6 * 17) + y7).toNatClampNeg r7) fun I10 => f2_findShared_c35 n O k26 m I10 b0 y4 y5 y6 (y7 + (-1))))))
set_option maxHeartbeats 4000000 in
set_option maxRecDepth 20000 in
theorem o2_findShared_c35 {g : pG} {Qx : Option Value → pW → Prop} {Z : pZ} {L : (Nat → Nat → Int64)} {O : (Nat → Nat → Option Nat)} {n : Nat} {k26 : ((Nat → Nat → Int32) → Nat → Int32 → Int32 → Int32 → Option (Int32 × (Nat → Nat → Int32)))} {res : Int32 × (Nat → Nat → Int32)} (d : Nat) (hW : WT Z O) (hQ : Qx (some (.int res.1)) (Z, res.2, L, O)) (hk26 : ∀ (I : (Nat → Nat → Int32)) (b0 : Nat) (y4 : Int32) (y5 : Int32) (y6 : Int32), (Z[b0]? = some (2, 10)) → k26 I b0 y4 y5 y6 = some res → Ok g (d + 6, RX2, cX2_findShared, 8, false, 0, 0, Z.length, pSl Z) Qx 26 [(0, .ref b0), (4, .int y4), (5, .int y5), (6, .int y6)] [] (Z, I, L, O)) : ∀ (m : Nat) (I : (Nat → Nat → Int32)) (b0 : Nat) (y4 : Int32) (y5 : Int32) (y6 : Int32) (y7 : Int32), (Z[b0]? = some (2, 10)) → f2_findShared_c35 n O k26 m I b0 y4 y5 y6 y7 = some res → Ok g (d + 6, RX2, cX2_findShared, 8, false, 0, 0, Z.length, pSl Z) Qx 35 [(0, .ref b0), (4, .int y4), (5, .int y5), (6, .int y6), (7, .int y7)] [] (Z, I, L, O) := by
  intro m
  induction m with
  | zero => intro I b0 y4 y5 y6 y7 hZ_b0 h; rw [f2_findShared_c35] at h; cases h
  | succ m ih =>
    intro I b0 y4 y5 y6 y7 hZ_b0 h
    rw [f2_findShared_c35] at h
    refine ok_iload dX2_findShared_35 4 rfl ?_
    refine ok_if_lt (t := 85) dX2_findShared_37 (by decide) (fun hc1 => ?_) (fun hc1 => ?_)
    · have h := (if_pos hc1).symm.trans h
      refine ok_iinc (u := (y6 + (-1))) (l' := [(6, .int (y6 + (-1))), (0, .ref b0), (4, .int y4), (5, .int y5), (7, .int y7)]) dX2_findShared_85 3 rfl rfl (Nat.le_of_ble_eq_true rfl) rfl ?_
      refine ok_goto (t := 26) dX2_findShared_88 (by decide) ?_
      refine ok_sub [1, 2, 3, 0] rfl ?_
      exact hk26 I b0 y4 y5 (y6 + (-1)) hZ_b0 h
    · have h := (if_neg hc1).symm.trans h
      refine ok_aload_n dX2_findShared_40 0 rfl ?_
      have hT2 : Z[(rO O b0 2)]? = some (13, 289) := (wt_f (ci := 2) (k := 2) hW hZ_b0 rfl).2
      refine ok_getR (ci := 2) (k := 2) dX2_findShared_41 flRX2_18 rfl hW hZ_b0 (by decide) ?_
      refine ok_iload dX2_findShared_44 3 rfl ?_
      refine ok_bipush (v := 17) dX2_findShared_46 (by decide) ?_
      refine ok_imul dX2_findShared_48 ?_
      refine ok_iload dX2_findShared_49 4 rfl ?_
      refine ok_iadd dX2_findShared_51 ?_
      refine ok_iload dX2_findShared_52 3 rfl ?_
      refine ok_iload dX2_findShared_54 1 rfl ?_
      refine ok_icmp_eq (t := 66) dX2_findShared_56 (by decide) (fun hc3 => ?_) (fun hc3 => ?_)
      · have h := (if_pos hc3).symm.trans h
        refine ok_iconst (v := 0) dX2_findShared_66 (by decide) ?_
        refine ok_goto (t := 78) dX2_findShared_67 (by decide) ?_
        obtain ⟨hg4, h⟩ := gd h
        obtain ⟨I5, eI5, h⟩ := blE h
        refine ok_iast3 dX2_findShared_78 hT2 hg4 rfl eI5 ?_
        refine ok_iinc (u := (y7 + (-1))) (l' := [(7, .int (y7 + (-1))), (0, .ref b0), (4, .int y4), (5, .int y5), (6, .int y6)]) dX2_findShared_79 4 rfl rfl (Nat.le_of_ble_eq_true rfl) rfl ?_
        refine ok_goto (t := 35) dX2_findShared_82 (by decide) ?_
        refine ok_sub [1, 2, 3, 4, 0] rfl ?_
        exact ih I5 b0 y4 y5 y6 (y7 + (-1)) hZ_b0 h
      · have h := (if_neg hc3).symm.trans h
        refine ok_iload dX2_findShared_59 4 rfl ?_
        refine ok_iload dX2_findShared_61 2 rfl ?_
        refine ok_icmp_ne (t := 70) dX2_findShared_63 (by decide) (fun hc6 => ?_) (fun hc6 => ?_)
        · have h := (if_neg hc6).symm.trans h
          refine ok_aload_n dX2_findShared_70 0 rfl ?_
          refine ok_iload dX2_findShared_71 3 rfl ?_
          refine ok_iload dX2_findShared_73 4 rfl ?_
          obtain ⟨r7, hr8, h⟩ := bd h
          refine ok_callV (d := ((d + 1) + 4)) (mt := m2_sharedFrom) (mc := 0) (ms := 0) (As := [.int y6, .int y7]) (r := [.int ((y6 * 17) + y7), .ref (rO O b0 2)]) dX2_findShared_75 mo2_sharedFrom mv2_sharedFrom lkRX2_65 rfl hZ_b0 (q := (RX2, TX2, 10)) rfl rfl rfl (Nat.le_of_ble_eq_true rfl) (by show _ + 1 ≤ d + _; omega) (Nat.le_refl _) (Nat.le_refl _) (pRt_mono ?_)
          refine k2_sharedFrom (d + 1) hW hZ_b0 hr8 ?_
          intro _
          show Ok g _ Qx 78 [(0, .ref b0), (4, .int y4), (5, .int y5), (6, .int y6), (7, .int y7)] [.int r7, .int ((y6 * 17) + y7), .ref (rO O b0 2)] (Z, I, L, O)
          obtain ⟨hg9, h⟩ := gd h
          obtain ⟨I10, eI10, h⟩ := blE h
          refine ok_iast3 dX2_findShared_78 hT2 hg9 rfl eI10 ?_
          refine ok_iinc (u := (y7 + (-1))) (l' := [(7, .int (y7 + (-1))), (0, .ref b0), (4, .int y4), (5, .int y5), (6, .int y6)]) dX2_findShared_79 4 rfl rfl (Nat.le_of_ble_eq_true rfl) rfl ?_
          refine ok_goto (t := 35) dX2_findShared_82 (by decide) ?_
          refine ok_sub [1, 2, 3, 4, 0] rfl ?_
          exact ih I10 b0 y4 y5 y6 (y7 + (-1)) hZ_b0 h
        · have h := (if_pos hc6).symm.trans h
          refine ok_iconst (v := 0) dX2_findShared_66 (by decide) ?_
          refine ok_goto (t := 78) dX2_findShared_67 (by decide) ?_
          obtain ⟨hg11, h⟩ := gd h
          obtain ⟨I12, eI12, h⟩ := blE h
          refine ok_iast3 dX2_findShared_78 hT2 hg11 rfl eI12 ?_
          refine ok_iinc (u := (y7 + (-1))) (l' := [(7, .int (y7 + (-1))), (0, .ref b0), (4, .int y4), (5, .int y5), (6, .int y6)]) dX2_findShared_79 4 rfl rfl (Nat.le_of_ble_eq_true rfl) rfl ?_
          refine ok_goto (t := 35) dX2_findShared_82 (by decide) ?_
          refine ok_sub [1, 2, 3, 4, 0] rfl ?_
          exact ih I12 b0 y4 y5 y6 (y7 + (-1)) hZ_b0 h
def f2_findShared_c26 (n : Nat) (O : (Nat → Nat → Option Nat)) : Nat → (Nat → Nat → Int32) → Nat → Int32 → Int32 → Int32 → Option (Int32 × (Nat → Nat → Int32))
  | 0, _, _, _, _, _ => none
  | m + 1, I, b0, y4, y5, y6 => (if y6 < 0 then (f2_pickShared n I O b0 y4 y5).bind fun r2 => some ((r2 (rO O b0 2) 0), r2) else f2_findShared_c35 n O (f2_findShared_c26 n O m) n I b0 y4 y5 y6 y5)
set_option maxHeartbeats 4000000 in
set_option maxRecDepth 20000 in
theorem o2_findShared_c26 {g : pG} {Qx : Option Value → pW → Prop} {Z : pZ} {L : (Nat → Nat → Int64)} {O : (Nat → Nat → Option Nat)} {n : Nat} {res : Int32 × (Nat → Nat → Int32)} (d : Nat) (hW : WT Z O) (hQ : Qx (some (.int res.1)) (Z, res.2, L, O)) : ∀ (m : Nat) (I : (Nat → Nat → Int32)) (b0 : Nat) (y4 : Int32) (y5 : Int32) (y6 : Int32), (Z[b0]? = some (2, 10)) → f2_findShared_c26 n O m I b0 y4 y5 y6 = some res → Ok g (d + 6, RX2, cX2_findShared, 8, false, 0, 0, Z.length, pSl Z) Qx 26 [(0, .ref b0), (4, .int y4), (5, .int y5), (6, .int y6)] [] (Z, I, L, O) := by
  intro m
  induction m with
  | zero => intro I b0 y4 y5 y6 hZ_b0 h; rw [f2_findShared_c26] at h; cases h
  | succ m ih =>
    intro I b0 y4 y5 y6 hZ_b0 h
    rw [f2_findShared_c26] at h
    refine ok_iload dX2_findShared_26 3 rfl ?_
    refine ok_if_lt (t := 91) dX2_findShared_28 (by decide) (fun hc1 => ?_) (fun hc1 => ?_)
    · have h := (if_pos hc1).symm.trans h
      refine ok_aload_n dX2_findShared_91 0 rfl ?_
      refine ok_iload dX2_findShared_92 1 rfl ?_
      refine ok_iload dX2_findShared_94 2 rfl ?_
      obtain ⟨r2, hr3, h⟩ := bd h
      refine ok_callV (d := ((d + 0) + 5)) (mt := m2_pickShared) (mc := 0) (ms := 0) (As := [.int y4, .int y5]) (r := []) dX2_findShared_96 mo2_pickShared mv2_pickShared lkRX2_68 rfl hZ_b0 (q := (RX2, TX2, 10)) rfl rfl rfl (Nat.le_of_ble_eq_true rfl) (by show _ + 1 ≤ d + _; omega) (Nat.le_refl _) (Nat.le_refl _) (pRt_mono ?_)
      refine k2_pickShared (d + 0) hW hZ_b0 hr3 ?_
      intro _
      show Ok g _ Qx 99 [(0, .ref b0), (4, .int y4), (5, .int y5), (6, .int y6)] [] (Z, r2, L, O)
      refine ok_aload_n dX2_findShared_99 0 rfl ?_
      have hT4 : Z[(rO O b0 2)]? = some (13, 289) := (wt_f (ci := 2) (k := 2) hW hZ_b0 rfl).2
      refine ok_getR (ci := 2) (k := 2) dX2_findShared_100 flRX2_18 rfl hW hZ_b0 (by decide) ?_
      refine ok_iconst (v := 0) dX2_findShared_103 (by decide) ?_
      refine ok_iald2 (N := 0) dX2_findShared_104 hT4 (by unfold vp_in; decide) (by decide) ?_
      cases h
      exact ok_iret dX2_findShared_105 hQ
    · have h := (if_neg hc1).symm.trans h
      refine ok_iload dX2_findShared_31 2 rfl ?_
      refine ok_istore (l' := [(7, .int y5), (0, .ref b0), (4, .int y4), (5, .int y5), (6, .int y6)]) dX2_findShared_33 (Nat.le_of_ble_eq_true rfl) rfl ?_
      refine ok_sub [1, 2, 3, 4, 0] rfl ?_
      exact o2_findShared_c35 d hW hQ ih n I b0 y4 y5 y6 y5 hZ_b0 h
def f2_findShared (n : Nat) (I : (Nat → Nat → Int32)) (O : (Nat → Nat → Option Nat)) (a0 : Nat) (a1 : Nat) (x2 : Int32) (x3 : Int32) : Option (Int32 × (Nat → Nat → Int32)) := (f2_lay n I O a1 x2 (rO O a0 0)).bind fun r2 => (f2_lay n r2.2 O a1 x3 (rO O a0 1)).bind fun r5 => f2_findShared_c26 n O n r5.2 a0 r2.1 r5.1 r2.1
set_option maxHeartbeats 4000000 in
set_option maxRecDepth 20000 in
theorem o2_findShared {g : pG} {Qx : Option Value → pW → Prop} {Z : pZ} {I : (Nat → Nat → Int32)} {L : (Nat → Nat → Int64)} {O : (Nat → Nat → Option Nat)} {n : Nat} {a0 : Nat} {a1 : Nat} {x2 : Int32} {x3 : Int32} {res : Int32 × (Nat → Nat → Int32)} (d : Nat) (hW : WT Z O) (hZ0 : Z[a0]? = some (2, 10)) (hZ1 : Z[a1]? = some (10, 5)) (h : f2_findShared n I O a0 a1 x2 x3 = some res) (hQ : Qx (some (.int res.1)) (Z, res.2, L, O)) : Ok g (d + 6, RX2, cX2_findShared, 8, false, 0, 0, Z.length, pSl Z) Qx 0 [(0, .ref a0), (1, .ref a1), (2, .int x2), (3, .int x3)] [] (Z, I, L, O) := by
  unfold f2_findShared at h
  refine ok_aload_n dX2_findShared_0 1 rfl ?_
  refine ok_iload_n dX2_findShared_1 2 rfl ?_
  refine ok_aload_n dX2_findShared_2 0 rfl ?_
  have hT1 : Z[(rO O a0 0)]? = some (13, 16) := (wt_f (ci := 2) (k := 0) hW hZ0 rfl).2
  refine ok_getR (ci := 2) (k := 0) dX2_findShared_3 flRX2_9 rfl hW hZ0 (by decide) ?_
  obtain ⟨r2, hr3, h⟩ := bd h
  refine ok_callS (d := ((d + 1) + 4)) (mt := m2_lay) (mc := 0) (ms := 0) (As := [.ref a1, .int x2, .ref (rO O a0 0)]) (r := []) dX2_findShared_6 mo2_lay mv2_lay lkRX2_55 rfl rfl (Nat.le_of_ble_eq_true rfl) (by show _ + 1 ≤ d + _; omega) (Nat.le_refl _) (Nat.le_refl _) (pRt_mono ?_)
  refine k2_lay (d + 1) hW hZ1 hT1 hr3 ?_
  intro _
  show Ok g _ Qx 9 [(0, .ref a0), (1, .ref a1), (2, .int x2), (3, .int x3)] [.int r2.1] (Z, r2.2, L, O)
  refine ok_istore (l' := [(4, .int r2.1), (0, .ref a0), (1, .ref a1), (2, .int x2), (3, .int x3)]) dX2_findShared_9 (Nat.le_of_ble_eq_true rfl) rfl ?_
  refine ok_aload_n dX2_findShared_11 2 rfl ?_
  refine ok_iload_n dX2_findShared_12 4 rfl ?_
  refine ok_aload_n dX2_findShared_13 1 rfl ?_
  have hT4 : Z[(rO O a0 1)]? = some (13, 16) := (wt_f (ci := 2) (k := 1) hW hZ0 rfl).2
  refine ok_getR (ci := 2) (k := 1) dX2_findShared_14 flRX2_15 rfl hW hZ0 (by decide) ?_
  obtain ⟨r5, hr6, h⟩ := bd h
  refine ok_callS (d := ((d + 1) + 4)) (mt := m2_lay) (mc := 0) (ms := 0) (As := [.ref a1, .int x3, .ref (rO O a0 1)]) (r := []) dX2_findShared_17 mo2_lay mv2_lay lkRX2_55 rfl rfl (Nat.le_of_ble_eq_true rfl) (by show _ + 1 ≤ d + _; omega) (Nat.le_refl _) (Nat.le_refl _) (pRt_mono ?_)
  refine k2_lay (d + 1) hW hZ1 hT4 hr6 ?_
  intro _
  show Ok g _ Qx 20 [(4, .int r2.1), (0, .ref a0), (1, .ref a1), (2, .int x2), (3, .int x3)] [.int r5.1] (Z, r5.2, L, O)
  refine ok_istore (l' := [(5, .int r5.1), (4, .int r2.1), (0, .ref a0), (1, .ref a1), (2, .int x2), (3, .int x3)]) dX2_findShared_20 (Nat.le_of_ble_eq_true rfl) rfl ?_
  refine ok_iload dX2_findShared_22 1 rfl ?_
  refine ok_istore (l' := [(6, .int r2.1), (5, .int r5.1), (4, .int r2.1), (0, .ref a0), (1, .ref a1), (2, .int x2), (3, .int x3)]) dX2_findShared_24 (Nat.le_of_ble_eq_true rfl) rfl ?_
  refine ok_sub [3, 2, 1, 0] rfl ?_
  exact o2_findShared_c26 d hW hQ  n r5.2 a0 r2.1 r5.1 r2.1 hZ0 h
theorem k2_findShared {g : pG} {Q : Option Value → pW → Prop} {Z : pZ} {I : (Nat → Nat → Int32)} {L : (Nat → Nat → Int64)} {O : (Nat → Nat → Option Nat)} {n : Nat} {a0 : Nat} {a1 : Nat} {x2 : Int32} {x3 : Int32} {res : Int32 × (Nat → Nat → Int32)} (d : Nat) (hW : WT Z O) (hZ0 : Z[a0]? = some (2, 10)) (hZ1 : Z[a1]? = some (10, 5)) (h : f2_findShared n I O a0 a1 x2 x3 = some res) (hQ : Q (some (.int res.1)) (Z, res.2, L, O)) : CT g (d + 6) m2_findShared 0 0 [.ref a0, .ref a1, .int x2, .int x3] (Z, I, L, O) Q :=
  ct_of_ok (mt := m2_findShared) (ini := false) mo2_findShared.2.2.2.2 (fun h => by cases h) (Nat.le_of_ble_eq_true rfl) (o2_findShared d hW hZ0 hZ1 h ⟨trivial, hQ, rfl, rfl⟩)
theorem dX2_sharedPlace_0 : decode cX2_sharedPlace 0 = .ok (.iload_n 1, 1) := by decide +kernel
theorem dX2_sharedPlace_1 : decode cX2_sharedPlace 1 = .ok (.ifCond .lt 18, 3) := by decide +kernel
theorem dX2_sharedPlace_4 : decode cX2_sharedPlace 4 = .ok (.iload_n 1, 1) := by decide +kernel
theorem dX2_sharedPlace_5 : decode cX2_sharedPlace 5 = .ok (.bipush 16, 2) := by decide +kernel
theorem dX2_sharedPlace_7 : decode cX2_sharedPlace 7 = .ok (.if_icmp .ge 12, 3) := by decide +kernel
theorem dX2_sharedPlace_10 : decode cX2_sharedPlace 10 = .ok (.aload_n 0, 1) := by decide +kernel
theorem dX2_sharedPlace_11 : decode cX2_sharedPlace 11 = .ok (.getfield 21, 3) := by decide +kernel
theorem dX2_sharedPlace_14 : decode cX2_sharedPlace 14 = .ok (.iload_n 1, 1) := by decide +kernel
theorem dX2_sharedPlace_15 : decode cX2_sharedPlace 15 = .ok (.iaload, 1) := by decide +kernel
theorem dX2_sharedPlace_16 : decode cX2_sharedPlace 16 = .ok (.goto 5, 3) := by decide +kernel
theorem dX2_sharedPlace_19 : decode cX2_sharedPlace 19 = .ok (.bipush (-2), 2) := by decide +kernel
theorem dX2_sharedPlace_21 : decode cX2_sharedPlace 21 = .ok (.ireturn, 1) := by decide +kernel
def m2_sharedPlace : pMT := (yX2_sharedPlace, cX2_sharedPlace, 2, some .int)
theorem mo2_sharedPlace : mOK m2_sharedPlace 1 := ⟨tb_i 1043 (by decide +kernel), wi_RX2, ⟨wn_RX2.1, wn_RX2.2, by decide +kernel⟩, by decide, plainFor_of_name wp_RX2⟩
theorem mv2_sharedPlace : mV m2_sharedPlace := ⟨tb_i 1041 (by decide +kernel), tb_i 1042 (by decide +kernel)⟩
def f2_sharedPlace (I : (Nat → Nat → Int32)) (O : (Nat → Nat → Option Nat)) (a0 : Nat) (x1 : Int32) : Option (Int32) := (if x1 < 0 then some (((-2) : Int32)) else (if (16 : Int32) ≤ x1 then some (((-2) : Int32)) else (if x1 < 0 ∨ 16 ≤ x1.toNatClampNeg then none else some ((I (rO O a0 3) x1.toNatClampNeg)))))
set_option maxHeartbeats 4000000 in
set_option maxRecDepth 20000 in
theorem o2_sharedPlace {g : pG} {Qx : Option Value → pW → Prop} {Z : pZ} {I : (Nat → Nat → Int32)} {L : (Nat → Nat → Int64)} {O : (Nat → Nat → Option Nat)} {a0 : Nat} {x1 : Int32} {res : Int32} (d : Nat) (hW : WT Z O) (hZ0 : Z[a0]? = some (2, 10)) (h : f2_sharedPlace I O a0 x1 = some res) (hQ : Qx (some (.int res)) (Z, I, L, O)) : Ok g (d + 2, RX2, cX2_sharedPlace, 2, false, 0, 0, Z.length, pSl Z) Qx 0 [(0, .ref a0), (1, .int x1)] [] (Z, I, L, O) := by
  unfold f2_sharedPlace at h
  refine ok_iload_n dX2_sharedPlace_0 1 rfl ?_
  refine ok_if_lt (t := 19) dX2_sharedPlace_1 (by decide) (fun hc1 => ?_) (fun hc1 => ?_)
  · have h := (if_pos hc1).symm.trans h
    refine ok_bipush (v := (-2)) dX2_sharedPlace_19 (by decide) ?_
    cases h
    exact ok_iret dX2_sharedPlace_21 hQ
  · have h := (if_neg hc1).symm.trans h
    refine ok_iload_n dX2_sharedPlace_4 1 rfl ?_
    refine ok_bipush (v := 16) dX2_sharedPlace_5 (by decide) ?_
    refine ok_icmp_ge (t := 19) dX2_sharedPlace_7 (by decide) (fun hc2 => ?_) (fun hc2 => ?_)
    · have h := (if_pos hc2).symm.trans h
      refine ok_bipush (v := (-2)) dX2_sharedPlace_19 (by decide) ?_
      cases h
      exact ok_iret dX2_sharedPlace_21 hQ
    · have h := (if_neg hc2).symm.trans h
      refine ok_aload_n dX2_sharedPlace_10 0 rfl ?_
      have hT3 : Z[(rO O a0 3)]? = some (13, 16) := (wt_f (ci := 2) (k := 3) hW hZ0 rfl).2
      refine ok_getR (ci := 2) (k := 3) dX2_sharedPlace_11 flRX2_21 rfl hW hZ0 (by decide) ?_
      refine ok_iload_n dX2_sharedPlace_14 1 rfl ?_
      obtain ⟨hg4, h⟩ := gd h
      refine ok_iald2 (N := x1.toNatClampNeg) dX2_sharedPlace_15 hT3 hg4 rfl ?_
      refine ok_goto (t := 21) dX2_sharedPlace_16 (by decide) ?_
      cases h
      exact ok_iret dX2_sharedPlace_21 hQ
theorem k2_sharedPlace {g : pG} {Q : Option Value → pW → Prop} {Z : pZ} {I : (Nat → Nat → Int32)} {L : (Nat → Nat → Int64)} {O : (Nat → Nat → Option Nat)} {a0 : Nat} {x1 : Int32} {res : Int32} (d : Nat) (hW : WT Z O) (hZ0 : Z[a0]? = some (2, 10)) (h : f2_sharedPlace I O a0 x1 = some res) (hQ : Q (some (.int res)) (Z, I, L, O)) : CT g (d + 2) m2_sharedPlace 0 0 [.ref a0, .int x1] (Z, I, L, O) Q :=
  ct_of_ok (mt := m2_sharedPlace) (ini := false) mo2_sharedPlace.2.2.2.2 (fun h => by cases h) (Nat.le_of_ble_eq_true rfl) (o2_sharedPlace d hW hZ0 h ⟨trivial, hQ, rfl, rfl⟩)
theorem dX2_unlikeAt_0 : decode cX2_unlikeAt 0 = .ok (.iconst 0, 1) := by decide +kernel
theorem dX2_unlikeAt_1 : decode cX2_unlikeAt 1 = .ok (.istore_n 3, 1) := by decide +kernel
theorem dX2_unlikeAt_2 : decode cX2_unlikeAt 2 = .ok (.iconst 0, 1) := by decide +kernel
theorem dX2_unlikeAt_3 : decode cX2_unlikeAt 3 = .ok (.istore 4, 2) := by decide +kernel
theorem dX2_unlikeAt_5 : decode cX2_unlikeAt 5 = .ok (.iload 4, 2) := by decide +kernel
theorem dX2_unlikeAt_7 : decode cX2_unlikeAt 7 = .ok (.aload_n 1, 1) := by decide +kernel
theorem dX2_unlikeAt_8 : decode cX2_unlikeAt 8 = .ok (.getfield 82, 3) := by decide +kernel
theorem dX2_unlikeAt_11 : decode cX2_unlikeAt 11 = .ok (.if_icmp .ge 50, 3) := by decide +kernel
theorem dX2_unlikeAt_14 : decode cX2_unlikeAt 14 = .ok (.iload 4, 2) := by decide +kernel
theorem dX2_unlikeAt_16 : decode cX2_unlikeAt 16 = .ok (.bipush 8, 2) := by decide +kernel
theorem dX2_unlikeAt_18 : decode cX2_unlikeAt 18 = .ok (.if_icmp .ge 43, 3) := by decide +kernel
theorem dX2_unlikeAt_21 : decode cX2_unlikeAt 21 = .ok (.iload_n 2, 1) := by decide +kernel
theorem dX2_unlikeAt_22 : decode cX2_unlikeAt 22 = .ok (.iload 4, 2) := by decide +kernel
theorem dX2_unlikeAt_24 : decode cX2_unlikeAt 24 = .ok (.iadd, 1) := by decide +kernel
theorem dX2_unlikeAt_25 : decode cX2_unlikeAt 25 = .ok (.bipush 16, 2) := by decide +kernel
theorem dX2_unlikeAt_27 : decode cX2_unlikeAt 27 = .ok (.if_icmp .ge 34, 3) := by decide +kernel
theorem dX2_unlikeAt_30 : decode cX2_unlikeAt 30 = .ok (.aload_n 0, 1) := by decide +kernel
theorem dX2_unlikeAt_31 : decode cX2_unlikeAt 31 = .ok (.getfield 9, 3) := by decide +kernel
theorem dX2_unlikeAt_34 : decode cX2_unlikeAt 34 = .ok (.iload_n 2, 1) := by decide +kernel
theorem dX2_unlikeAt_35 : decode cX2_unlikeAt 35 = .ok (.iload 4, 2) := by decide +kernel
theorem dX2_unlikeAt_37 : decode cX2_unlikeAt 37 = .ok (.iadd, 1) := by decide +kernel
theorem dX2_unlikeAt_38 : decode cX2_unlikeAt 38 = .ok (.iaload, 1) := by decide +kernel
theorem dX2_unlikeAt_39 : decode cX2_unlikeAt 39 = .ok (.aload_n 1, 1) := by decide +kernel
theorem dX2_unlikeAt_40 : decode cX2_unlikeAt 40 = .ok (.getfield 88, 3) := by decide +kernel
theorem dX2_unlikeAt_43 : decode cX2_unlikeAt 43 = .ok (.iload 4, 2) := by decide +kernel
theorem dX2_unlikeAt_45 : decode cX2_unlikeAt 45 = .ok (.iaload, 1) := by decide +kernel
theorem dX2_unlikeAt_46 : decode cX2_unlikeAt 46 = .ok (.invokestatic 62, 3) := by decide +kernel
theorem dX2_unlikeAt_49 : decode cX2_unlikeAt 49 = .ok (.ifCond .ne 6, 3) := by decide +kernel
theorem dX2_unlikeAt_52 : decode cX2_unlikeAt 52 = .ok (.iinc 3 1, 3) := by decide +kernel
theorem dX2_unlikeAt_55 : decode cX2_unlikeAt 55 = .ok (.iinc 4 1, 3) := by decide +kernel
theorem dX2_unlikeAt_58 : decode cX2_unlikeAt 58 = .ok (.goto (-53), 3) := by decide +kernel
theorem dX2_unlikeAt_61 : decode cX2_unlikeAt 61 = .ok (.iload_n 3, 1) := by decide +kernel
theorem dX2_unlikeAt_62 : decode cX2_unlikeAt 62 = .ok (.ireturn, 1) := by decide +kernel
def m2_unlikeAt : pMT := (yX2_unlikeAt, cX2_unlikeAt, 5, some .int)
theorem mo2_unlikeAt : mOK m2_unlikeAt 2 := ⟨tb_i 1059 (by decide +kernel), wi_RX2, ⟨wn_RX2.1, wn_RX2.2, by decide +kernel⟩, by decide, plainFor_of_name wp_RX2⟩
theorem mv2_unlikeAt : mV m2_unlikeAt := ⟨tb_i 1058 (by decide +kernel), tb_p 43 (by decide +kernel)⟩
def f2_unlikeAt_c5 (n : Nat) (I : (Nat → Nat → Int32)) (O : (Nat → Nat → Option Nat)) : Nat → Nat → Nat → Int32 → Int32 → Int32 → Option (Int32)
  | 0, _, _, _, _, _ => none
  | m + 1, b0, b1, y2, y3, y4 => (if (I b1 6) ≤ y4 then some (y3) else (if (8 : Int32) ≤ y4 then some (y3) else (if (16 : Int32) ≤ (y2 + y4) then some (y3) else (if (y2 + y4) < 0 ∨ 16 ≤ (y2 + y4).toNatClampNeg then none else (if y4 < 0 ∨ 8 ≤ y4.toNatClampNeg then none else (f2_matches (I (rO O b0 0) (y2 + y4).toNatClampNeg) (I (rO O b1 2) y4.toNatClampNeg)).bind fun r8 => (if r8 = 0 then f2_unlikeAt_c5 n I O m b0 b1 y2 (y3 + 1) (y4 + 1) else f2_unlikeAt_c5 n I O m b0 b1 y2 y3 (y4 + 1)))))))
set_option maxHeartbeats 4000000 in
set_option maxRecDepth 20000 in
theorem o2_unlikeAt_c5 {g : pG} {Qx : Option Value → pW → Prop} {Z : pZ} {I : (Nat → Nat → Int32)} {L : (Nat → Nat → Int64)} {O : (Nat → Nat → Option Nat)} {n : Nat} {res : Int32} (d : Nat) (hW : WT Z O) (hQ : Qx (some (.int res)) (Z, I, L, O)) : ∀ (m : Nat) (b0 : Nat) (b1 : Nat) (y2 : Int32) (y3 : Int32) (y4 : Int32), (Z[b0]? = some (2, 10)) → (Z[b1]? = some (9, 10)) → f2_unlikeAt_c5 n I O m b0 b1 y2 y3 y4 = some res → Ok g (d + 3, RX2, cX2_unlikeAt, 5, false, 0, 0, Z.length, pSl Z) Qx 5 [(0, .ref b0), (1, .ref b1), (2, .int y2), (3, .int y3), (4, .int y4)] [] (Z, I, L, O) := by
  intro m
  induction m with
  | zero => intro b0 b1 y2 y3 y4 hZ_b0 hZ_b1 h; rw [f2_unlikeAt_c5] at h; cases h
  | succ m ih =>
    intro b0 b1 y2 y3 y4 hZ_b0 hZ_b1 h
    rw [f2_unlikeAt_c5] at h
    refine ok_iload dX2_unlikeAt_5 4 rfl ?_
    refine ok_aload_n dX2_unlikeAt_7 1 rfl ?_
    refine ok_getI (ci := 9) (k := 6) dX2_unlikeAt_8 flRX2_82 rfl hZ_b1 (by decide) ?_
    refine ok_icmp_ge (t := 61) dX2_unlikeAt_11 (by decide) (fun hc1 => ?_) (fun hc1 => ?_)
    · have h := (if_pos hc1).symm.trans h
      refine ok_iload_n dX2_unlikeAt_61 3 rfl ?_
      cases h
      exact ok_iret dX2_unlikeAt_62 hQ
    · have h := (if_neg hc1).symm.trans h
      refine ok_iload dX2_unlikeAt_14 4 rfl ?_
      refine ok_bipush (v := 8) dX2_unlikeAt_16 (by decide) ?_
      refine ok_icmp_ge (t := 61) dX2_unlikeAt_18 (by decide) (fun hc2 => ?_) (fun hc2 => ?_)
      · have h := (if_pos hc2).symm.trans h
        refine ok_iload_n dX2_unlikeAt_61 3 rfl ?_
        cases h
        exact ok_iret dX2_unlikeAt_62 hQ
      · have h := (if_neg hc2).symm.trans h
        refine ok_iload_n dX2_unlikeAt_21 2 rfl ?_
        refine ok_iload dX2_unlikeAt_22 4 rfl ?_
        refine ok_iadd dX2_unlikeAt_24 ?_
        refine ok_bipush (v := 16) dX2_unlikeAt_25 (by decide) ?_
        refine ok_icmp_ge (t := 61) dX2_unlikeAt_27 (by decide) (fun hc3 => ?_) (fun hc3 => ?_)
        · have h := (if_pos hc3).symm.trans h
          refine ok_iload_n dX2_unlikeAt_61 3 rfl ?_
          cases h
          exact ok_iret dX2_unlikeAt_62 hQ
        · have h := (if_neg hc3).symm.trans h
          refine ok_aload_n dX2_unlikeAt_30 0 rfl ?_
          have hT4 : Z[(rO O b0 0)]? = some (13, 16) := (wt_f (ci := 2) (k := 0) hW hZ_b0 rfl).2
          refine ok_getR (ci := 2) (k := 0) dX2_unlikeAt_31 flRX2_9 rfl hW hZ_b0 (by decide) ?_
          refine ok_iload_n dX2_unlikeAt_34 2 rfl ?_
          refine ok_iload dX2_unlikeAt_35 4 rfl ?_
          refine ok_iadd dX2_unlikeAt_37 ?_
          obtain ⟨hg5, h⟩ := gd h
          refine ok_iald2 (N := (y2 + y4).toNatClampNeg) dX2_unlikeAt_38 hT4 hg5 rfl ?_
          refine ok_aload_n dX2_unlikeAt_39 1 rfl ?_
          have hT6 : Z[(rO O b1 2)]? = some (13, 8) := (wt_f (ci := 9) (k := 2) hW hZ_b1 rfl).2
          refine ok_getR (ci := 9) (k := 2) dX2_unlikeAt_40 flRX2_88 rfl hW hZ_b1 (by decide) ?_
          refine ok_iload dX2_unlikeAt_43 4 rfl ?_
          obtain ⟨hg7, h⟩ := gd h
          refine ok_iald2 (N := y4.toNatClampNeg) dX2_unlikeAt_45 hT6 hg7 rfl ?_
          obtain ⟨r8, hr9, h⟩ := bd h
          refine ok_callS (d := ((d + 0) + 2)) (mt := m2_matches) (mc := 0) (ms := 0) (As := [.int (I (rO O b0 0) (y2 + y4).toNatClampNeg), .int (I (rO O b1 2) y4.toNatClampNeg)]) (r := []) dX2_unlikeAt_46 mo2_matches mv2_matches lkRX2_62 rfl rfl (Nat.le_of_ble_eq_true rfl) (by show _ + 1 ≤ d + _; omega) (Nat.le_refl _) (Nat.le_refl _) (pRt_mono ?_)
          refine k2_matches (d + 0) hW  hr9 ?_
          intro hbr8
          show Ok g _ Qx 49 [(0, .ref b0), (1, .ref b1), (2, .int y2), (3, .int y3), (4, .int y4)] [.int r8] (Z, I, L, O)
          refine ok_if_ne (t := 55) dX2_unlikeAt_49 (by decide) (fun hc10 => ?_) (fun hc10 => ?_)
          · have h := (if_neg hc10).symm.trans h
            refine ok_iinc (u := (y4 + 1)) (l' := [(4, .int (y4 + 1)), (0, .ref b0), (1, .ref b1), (2, .int y2), (3, .int y3)]) dX2_unlikeAt_55 4 rfl rfl (Nat.le_of_ble_eq_true rfl) rfl ?_
            refine ok_goto (t := 5) dX2_unlikeAt_58 (by decide) ?_
            refine ok_sub [1, 2, 3, 4, 0] rfl ?_
            exact ih b0 b1 y2 y3 (y4 + 1) hZ_b0 hZ_b1 h
          · have h := (if_pos hc10).symm.trans h
            refine ok_iinc (u := (y3 + 1)) (l' := [(3, .int (y3 + 1)), (0, .ref b0), (1, .ref b1), (2, .int y2), (4, .int y4)]) dX2_unlikeAt_52 3 rfl rfl (Nat.le_of_ble_eq_true rfl) rfl ?_
            refine ok_iinc (u := (y4 + 1)) (l' := [(4, .int (y4 + 1)), (3, .int (y3 + 1)), (0, .ref b0), (1, .ref b1), (2, .int y2)]) dX2_unlikeAt_55 4 rfl rfl (Nat.le_of_ble_eq_true rfl) rfl ?_
            refine ok_goto (t := 5) dX2_unlikeAt_58 (by decide) ?_
            refine ok_sub [2, 3, 4, 1, 0] rfl ?_
            exact ih b0 b1 y2 (y3 + 1) (y4 + 1) hZ_b0 hZ_b1 h
def f2_unlikeAt (n : Nat) (I : (Nat → Nat → Int32)) (O : (Nat → Nat → Option Nat)) (a0 : Nat) (a1 : Nat) (x2 : Int32) : Option (Int32) := f2_unlikeAt_c5 n I O n a0 a1 x2 (0 : Int32) (0 : Int32)
set_option maxHeartbeats 4000000 in
set_option maxRecDepth 20000 in
theorem o2_unlikeAt {g : pG} {Qx : Option Value → pW → Prop} {Z : pZ} {I : (Nat → Nat → Int32)} {L : (Nat → Nat → Int64)} {O : (Nat → Nat → Option Nat)} {n : Nat} {a0 : Nat} {a1 : Nat} {x2 : Int32} {res : Int32} (d : Nat) (hW : WT Z O) (hZ0 : Z[a0]? = some (2, 10)) (hZ1 : Z[a1]? = some (9, 10)) (h : f2_unlikeAt n I O a0 a1 x2 = some res) (hQ : Qx (some (.int res)) (Z, I, L, O)) : Ok g (d + 3, RX2, cX2_unlikeAt, 5, false, 0, 0, Z.length, pSl Z) Qx 0 [(0, .ref a0), (1, .ref a1), (2, .int x2)] [] (Z, I, L, O) := by
  unfold f2_unlikeAt at h
  refine ok_iconst (v := 0) dX2_unlikeAt_0 (by decide) ?_
  refine ok_istore_n (l' := [(3, .int 0), (0, .ref a0), (1, .ref a1), (2, .int x2)]) dX2_unlikeAt_1 rfl (Nat.le_of_ble_eq_true rfl) rfl ?_
  refine ok_iconst (v := 0) dX2_unlikeAt_2 (by decide) ?_
  refine ok_istore (l' := [(4, .int 0), (3, .int 0), (0, .ref a0), (1, .ref a1), (2, .int x2)]) dX2_unlikeAt_3 (Nat.le_of_ble_eq_true rfl) rfl ?_
  refine ok_sub [2, 3, 4, 1, 0] rfl ?_
  exact o2_unlikeAt_c5 d hW hQ  n a0 a1 x2 (0 : Int32) (0 : Int32) hZ0 hZ1 h
theorem k2_unlikeAt {g : pG} {Q : Option Value → pW → Prop} {Z : pZ} {I : (Nat → Nat → Int32)} {L : (Nat → Nat → Int64)} {O : (Nat → Nat → Option Nat)} {n : Nat} {a0 : Nat} {a1 : Nat} {x2 : Int32} {res : Int32} (d : Nat) (hW : WT Z O) (hZ0 : Z[a0]? = some (2, 10)) (hZ1 : Z[a1]? = some (9, 10)) (h : f2_unlikeAt n I O a0 a1 x2 = some res) (hQ : Q (some (.int res)) (Z, I, L, O)) : CT g (d + 3) m2_unlikeAt 0 0 [.ref a0, .ref a1, .int x2] (Z, I, L, O) Q :=
  ct_of_ok (mt := m2_unlikeAt) (ini := false) mo2_unlikeAt.2.2.2.2 (fun h => by cases h) (Nat.le_of_ble_eq_true rfl) (o2_unlikeAt d hW hZ0 hZ1 h ⟨trivial, hQ, rfl, rfl⟩)
theorem dX2_fitting_0 : decode cX2_fitting 0 = .ok (.aload_n 1, 1) := by decide +kernel
theorem dX2_fitting_1 : decode cX2_fitting 1 = .ok (.getfield 91, 3) := by decide +kernel
theorem dX2_fitting_4 : decode cX2_fitting 4 = .ok (.iload_n 2, 1) := by decide +kernel
theorem dX2_fitting_5 : decode cX2_fitting 5 = .ok (.aload_n 0, 1) := by decide +kernel
theorem dX2_fitting_6 : decode cX2_fitting 6 = .ok (.getfield 9, 3) := by decide +kernel
theorem dX2_fitting_9 : decode cX2_fitting 9 = .ok (.invokestatic 55, 3) := by decide +kernel
theorem dX2_fitting_12 : decode cX2_fitting 12 = .ok (.istore 4, 2) := by decide +kernel
theorem dX2_fitting_14 : decode cX2_fitting 14 = .ok (.iconst 0, 1) := by decide +kernel
theorem dX2_fitting_15 : decode cX2_fitting 15 = .ok (.istore 5, 2) := by decide +kernel
theorem dX2_fitting_17 : decode cX2_fitting 17 = .ok (.iconst 0, 1) := by decide +kernel
theorem dX2_fitting_18 : decode cX2_fitting 18 = .ok (.istore 6, 2) := by decide +kernel
theorem dX2_fitting_20 : decode cX2_fitting 20 = .ok (.iload 6, 2) := by decide +kernel
theorem dX2_fitting_22 : decode cX2_fitting 22 = .ok (.iload 4, 2) := by decide +kernel
theorem dX2_fitting_24 : decode cX2_fitting 24 = .ok (.if_icmp .ge 41, 3) := by decide +kernel
theorem dX2_fitting_27 : decode cX2_fitting 27 = .ok (.iload 6, 2) := by decide +kernel
theorem dX2_fitting_29 : decode cX2_fitting 29 = .ok (.aload_n 1, 1) := by decide +kernel
theorem dX2_fitting_30 : decode cX2_fitting 30 = .ok (.getfield 82, 3) := by decide +kernel
theorem dX2_fitting_33 : decode cX2_fitting 33 = .ok (.iadd, 1) := by decide +kernel
theorem dX2_fitting_34 : decode cX2_fitting 34 = .ok (.iload 4, 2) := by decide +kernel
theorem dX2_fitting_36 : decode cX2_fitting 36 = .ok (.if_icmp .gt 29, 3) := by decide +kernel
theorem dX2_fitting_39 : decode cX2_fitting 39 = .ok (.aload_n 0, 1) := by decide +kernel
theorem dX2_fitting_40 : decode cX2_fitting 40 = .ok (.aload_n 1, 1) := by decide +kernel
theorem dX2_fitting_41 : decode cX2_fitting 41 = .ok (.iload 6, 2) := by decide +kernel
theorem dX2_fitting_43 : decode cX2_fitting 43 = .ok (.invokevirtual 95, 3) := by decide +kernel
theorem dX2_fitting_46 : decode cX2_fitting 46 = .ok (.iload_n 3, 1) := by decide +kernel
theorem dX2_fitting_47 : decode cX2_fitting 47 = .ok (.if_icmp .gt 12, 3) := by decide +kernel
theorem dX2_fitting_50 : decode cX2_fitting 50 = .ok (.iload 5, 2) := by decide +kernel
theorem dX2_fitting_52 : decode cX2_fitting 52 = .ok (.iconst 1, 1) := by decide +kernel
theorem dX2_fitting_53 : decode cX2_fitting 53 = .ok (.iload 6, 2) := by decide +kernel
theorem dX2_fitting_55 : decode cX2_fitting 55 = .ok (.ishl, 1) := by decide +kernel
theorem dX2_fitting_56 : decode cX2_fitting 56 = .ok (.ior, 1) := by decide +kernel
theorem dX2_fitting_57 : decode cX2_fitting 57 = .ok (.istore 5, 2) := by decide +kernel
theorem dX2_fitting_59 : decode cX2_fitting 59 = .ok (.iinc 6 1, 3) := by decide +kernel
theorem dX2_fitting_62 : decode cX2_fitting 62 = .ok (.goto (-42), 3) := by decide +kernel
theorem dX2_fitting_65 : decode cX2_fitting 65 = .ok (.iload 5, 2) := by decide +kernel
theorem dX2_fitting_67 : decode cX2_fitting 67 = .ok (.ireturn, 1) := by decide +kernel
def m2_fitting : pMT := (yX2_fitting, cX2_fitting, 7, some .int)
theorem mo2_fitting : mOK m2_fitting 3 := ⟨tb_i 1055 (by decide +kernel), wi_RX2, ⟨wn_RX2.1, wn_RX2.2, by decide +kernel⟩, by decide, plainFor_of_name wp_RX2⟩
theorem mv2_fitting : mV m2_fitting := ⟨tb_i 1053 (by decide +kernel), tb_i 1054 (by decide +kernel)⟩
def f2_fitting_c20 (n : Nat) (O : (Nat → Nat → Option Nat)) : Nat → (Nat → Nat → Int32) → Nat → Nat → Int32 → Int32 → Int32 → Int32 → Option (Int32 × (Nat → Nat → Int32))
  | 0, _, _, _, _, _, _, _ => none
  | m + 1, I, b0, b1, y3, y4, y5, y6 => (if y4 ≤ y6 then some (y5, I) else (if y4 < (y6 + (I b1 6)) then some (y5, I) else (f2_unlikeAt n I O b0 b1 y6).bind fun r3 => (if y3 < r3 then f2_fitting_c20 n O m I b0 b1 y3 y4 y5 (y6 + 1) else bl ((y5 ||| ((1 : Int32) <<< (y6 &&& 31))) : Int32) fun z6 => f2_fitting_c20 n O m I b0 b1 y3 y4 z6 (y6 + 1))))
set_option maxHeartbeats 4000000 in
set_option maxRecDepth 20000 in
theorem o2_fitting_c20 {g : pG} {Qx : Option Value → pW → Prop} {Z : pZ} {L : (Nat → Nat → Int64)} {O : (Nat → Nat → Option Nat)} {n : Nat} {res : Int32 × (Nat → Nat → Int32)} (d : Nat) (hW : WT Z O) (hQ : Qx (some (.int res.1)) (Z, res.2, L, O)) : ∀ (m : Nat) (I : (Nat → Nat → Int32)) (b0 : Nat) (b1 : Nat) (y3 : Int32) (y4 : Int32) (y5 : Int32) (y6 : Int32), (Z[b0]? = some (2, 10)) → (Z[b1]? = some (9, 10)) → f2_fitting_c20 n O m I b0 b1 y3 y4 y5 y6 = some res → Ok g (d + 5, RX2, cX2_fitting, 7, false, 0, 0, Z.length, pSl Z) Qx 20 [(0, .ref b0), (1, .ref b1), (3, .int y3), (4, .int y4), (5, .int y5), (6, .int y6)] [] (Z, I, L, O) := by
  intro m
  induction m with
  | zero => intro I b0 b1 y3 y4 y5 y6 hZ_b0 hZ_b1 h; rw [f2_fitting_c20] at h; cases h
  | succ m ih =>
    intro I b0 b1 y3 y4 y5 y6 hZ_b0 hZ_b1 h
    rw [f2_fitting_c20] at h
    refine ok_iload dX2_fitting_20 5 rfl ?_
    refine ok_iload dX2_fitting_22 3 rfl ?_
    refine ok_icmp_ge (t := 65) dX2_fitting_24 (by decide) (fun hc1 => ?_) (fun hc1 => ?_)
    · have h := (if_pos hc1).symm.trans h
      refine ok_iload dX2_fitting_65 4 rfl ?_
      cases h
      exact ok_iret dX2_fitting_67 hQ
    · have h := (if_neg hc1).symm.trans h
      refine ok_iload dX2_fitting_27 5 rfl ?_
      refine ok_aload_n dX2_fitting_29 1 rfl ?_
      refine ok_getI (ci := 9) (k := 6) dX2_fitting_30 flRX2_82 rfl hZ_b1 (by decide) ?_
      refine ok_iadd dX2_fitting_33 ?_
      refine ok_iload dX2_fitting_34 3 rfl ?_
      refine ok_icmp_gt (t := 65) dX2_fitting_36 (by decide) (fun hc2 => ?_) (fun hc2 => ?_)
      · have h := (if_pos hc2).symm.trans h
        refine ok_iload dX2_fitting_65 4 rfl ?_
        cases h
        exact ok_iret dX2_fitting_67 hQ
      · have h := (if_neg hc2).symm.trans h
        refine ok_aload_n dX2_fitting_39 0 rfl ?_
        refine ok_aload_n dX2_fitting_40 1 rfl ?_
        refine ok_iload dX2_fitting_41 5 rfl ?_
        obtain ⟨r3, hr4, h⟩ := bd h
        refine ok_callV (d := ((d + 1) + 3)) (mt := m2_unlikeAt) (mc := 0) (ms := 0) (As := [.ref b1, .int y6]) (r := []) dX2_fitting_43 mo2_unlikeAt mv2_unlikeAt lkRX2_95 rfl hZ_b0 (q := (RX2, TX2, 10)) rfl rfl rfl (Nat.le_of_ble_eq_true rfl) (by show _ + 1 ≤ d + _; omega) (Nat.le_refl _) (Nat.le_refl _) (pRt_mono ?_)
        refine k2_unlikeAt (d + 1) hW hZ_b0 hZ_b1 hr4 ?_
        intro _
        show Ok g _ Qx 46 [(0, .ref b0), (1, .ref b1), (3, .int y3), (4, .int y4), (5, .int y5), (6, .int y6)] [.int r3] (Z, I, L, O)
        refine ok_iload_n dX2_fitting_46 2 rfl ?_
        refine ok_icmp_gt (t := 59) dX2_fitting_47 (by decide) (fun hc5 => ?_) (fun hc5 => ?_)
        · have h := (if_pos hc5).symm.trans h
          refine ok_iinc (u := (y6 + 1)) (l' := [(6, .int (y6 + 1)), (0, .ref b0), (1, .ref b1), (3, .int y3), (4, .int y4), (5, .int y5)]) dX2_fitting_59 5 rfl rfl (Nat.le_of_ble_eq_true rfl) rfl ?_
          refine ok_goto (t := 20) dX2_fitting_62 (by decide) ?_
          refine ok_sub [1, 2, 3, 4, 5, 0] rfl ?_
          exact ih I b0 b1 y3 y4 y5 (y6 + 1) hZ_b0 hZ_b1 h
        · have h := (if_neg hc5).symm.trans h
          refine ok_iload dX2_fitting_50 4 rfl ?_
          refine ok_iconst (v := 1) dX2_fitting_52 (by decide) ?_
          refine ok_iload dX2_fitting_53 5 rfl ?_
          refine ok_ishl dX2_fitting_55 ?_
          refine ok_ior dX2_fitting_56 ?_
          obtain ⟨z6, ez6, h⟩ := blE h
          refine ok_nm ez6 ?_
          refine ok_istore (l' := [(5, .int z6), (0, .ref b0), (1, .ref b1), (3, .int y3), (4, .int y4), (6, .int y6)]) dX2_fitting_57 (Nat.le_of_ble_eq_true rfl) rfl ?_
          refine ok_iinc (u := (y6 + 1)) (l' := [(6, .int (y6 + 1)), (5, .int z6), (0, .ref b0), (1, .ref b1), (3, .int y3), (4, .int y4)]) dX2_fitting_59 5 rfl rfl (Nat.le_of_ble_eq_true rfl) rfl ?_
          refine ok_goto (t := 20) dX2_fitting_62 (by decide) ?_
          refine ok_sub [2, 3, 4, 5, 1, 0] rfl ?_
          exact ih I b0 b1 y3 y4 z6 (y6 + 1) hZ_b0 hZ_b1 h
def f2_fitting (n : Nat) (I : (Nat → Nat → Int32)) (O : (Nat → Nat → Option Nat)) (a0 : Nat) (a1 : Nat) (x2 : Int32) (x3 : Int32) : Option (Int32 × (Nat → Nat → Int32)) := (f2_lay n I O (rO O a1 0) x2 (rO O a0 0)).bind fun r3 => f2_fitting_c20 n O n r3.2 a0 a1 x3 r3.1 (0 : Int32) (0 : Int32)
set_option maxHeartbeats 4000000 in
set_option maxRecDepth 20000 in
theorem o2_fitting {g : pG} {Qx : Option Value → pW → Prop} {Z : pZ} {I : (Nat → Nat → Int32)} {L : (Nat → Nat → Int64)} {O : (Nat → Nat → Option Nat)} {n : Nat} {a0 : Nat} {a1 : Nat} {x2 : Int32} {x3 : Int32} {res : Int32 × (Nat → Nat → Int32)} (d : Nat) (hW : WT Z O) (hZ0 : Z[a0]? = some (2, 10)) (hZ1 : Z[a1]? = some (9, 10)) (h : f2_fitting n I O a0 a1 x2 x3 = some res) (hQ : Qx (some (.int res.1)) (Z, res.2, L, O)) : Ok g (d + 5, RX2, cX2_fitting, 7, false, 0, 0, Z.length, pSl Z) Qx 0 [(0, .ref a0), (1, .ref a1), (2, .int x2), (3, .int x3)] [] (Z, I, L, O) := by
  unfold f2_fitting at h
  refine ok_aload_n dX2_fitting_0 1 rfl ?_
  have hT1 : Z[(rO O a1 0)]? = some (10, 5) := (wt_f (ci := 9) (k := 0) hW hZ1 rfl).2
  refine ok_getR (ci := 9) (k := 0) dX2_fitting_1 flRX2_91 rfl hW hZ1 (by decide) ?_
  refine ok_iload_n dX2_fitting_4 2 rfl ?_
  refine ok_aload_n dX2_fitting_5 0 rfl ?_
  have hT2 : Z[(rO O a0 0)]? = some (13, 16) := (wt_f (ci := 2) (k := 0) hW hZ0 rfl).2
  refine ok_getR (ci := 2) (k := 0) dX2_fitting_6 flRX2_9 rfl hW hZ0 (by decide) ?_
  obtain ⟨r3, hr4, h⟩ := bd h
  refine ok_callS (d := ((d + 0) + 4)) (mt := m2_lay) (mc := 0) (ms := 0) (As := [.ref (rO O a1 0), .int x2, .ref (rO O a0 0)]) (r := []) dX2_fitting_9 mo2_lay mv2_lay lkRX2_55 rfl rfl (Nat.le_of_ble_eq_true rfl) (by show _ + 1 ≤ d + _; omega) (Nat.le_refl _) (Nat.le_refl _) (pRt_mono ?_)
  refine k2_lay (d + 0) hW hT1 hT2 hr4 ?_
  intro _
  show Ok g _ Qx 12 [(0, .ref a0), (1, .ref a1), (2, .int x2), (3, .int x3)] [.int r3.1] (Z, r3.2, L, O)
  refine ok_istore (l' := [(4, .int r3.1), (0, .ref a0), (1, .ref a1), (2, .int x2), (3, .int x3)]) dX2_fitting_12 (Nat.le_of_ble_eq_true rfl) rfl ?_
  refine ok_iconst (v := 0) dX2_fitting_14 (by decide) ?_
  refine ok_istore (l' := [(5, .int 0), (4, .int r3.1), (0, .ref a0), (1, .ref a1), (2, .int x2), (3, .int x3)]) dX2_fitting_15 (Nat.le_of_ble_eq_true rfl) rfl ?_
  refine ok_iconst (v := 0) dX2_fitting_17 (by decide) ?_
  refine ok_istore (l' := [(6, .int 0), (5, .int 0), (4, .int r3.1), (0, .ref a0), (1, .ref a1), (2, .int x2), (3, .int x3)]) dX2_fitting_18 (Nat.le_of_ble_eq_true rfl) rfl ?_
  refine ok_sub [3, 4, 6, 2, 1, 0] rfl ?_
  exact o2_fitting_c20 d hW hQ  n r3.2 a0 a1 x3 r3.1 (0 : Int32) (0 : Int32) hZ0 hZ1 h
theorem k2_fitting {g : pG} {Q : Option Value → pW → Prop} {Z : pZ} {I : (Nat → Nat → Int32)} {L : (Nat → Nat → Int64)} {O : (Nat → Nat → Option Nat)} {n : Nat} {a0 : Nat} {a1 : Nat} {x2 : Int32} {x3 : Int32} {res : Int32 × (Nat → Nat → Int32)} (d : Nat) (hW : WT Z O) (hZ0 : Z[a0]? = some (2, 10)) (hZ1 : Z[a1]? = some (9, 10)) (h : f2_fitting n I O a0 a1 x2 x3 = some res) (hQ : Q (some (.int res.1)) (Z, res.2, L, O)) : CT g (d + 5) m2_fitting 0 0 [.ref a0, .ref a1, .int x2, .int x3] (Z, I, L, O) Q :=
  ct_of_ok (mt := m2_fitting) (ini := false) mo2_fitting.2.2.2.2 (fun h => by cases h) (Nat.le_of_ble_eq_true rfl) (o2_fitting d hW hZ0 hZ1 h ⟨trivial, hQ, rfl, rfl⟩)
theorem dX2_closest_0 : decode cX2_closest 0 = .ok (.aload_n 1, 1) := by decide +kernel
theorem dX2_closest_1 : decode cX2_closest 1 = .ok (.getfield 82, 3) := by decide +kernel
theorem dX2_closest_4 : decode cX2_closest 4 = .ok (.ifCond .gt 5, 3) := by decide +kernel
theorem dX2_closest_7 : decode cX2_closest 7 = .ok (.iconst (-1), 1) := by decide +kernel
theorem dX2_closest_8 : decode cX2_closest 8 = .ok (.ireturn, 1) := by decide +kernel
theorem dX2_closest_9 : decode cX2_closest 9 = .ok (.aload_n 1, 1) := by decide +kernel
theorem dX2_closest_10 : decode cX2_closest 10 = .ok (.getfield 91, 3) := by decide +kernel
theorem dX2_closest_13 : decode cX2_closest 13 = .ok (.iload_n 2, 1) := by decide +kernel
theorem dX2_closest_14 : decode cX2_closest 14 = .ok (.aload_n 0, 1) := by decide +kernel
theorem dX2_closest_15 : decode cX2_closest 15 = .ok (.getfield 9, 3) := by decide +kernel
theorem dX2_closest_18 : decode cX2_closest 18 = .ok (.invokestatic 55, 3) := by decide +kernel
theorem dX2_closest_21 : decode cX2_closest 21 = .ok (.istore_n 3, 1) := by decide +kernel
theorem dX2_closest_22 : decode cX2_closest 22 = .ok (.iconst (-1), 1) := by decide +kernel
theorem dX2_closest_23 : decode cX2_closest 23 = .ok (.istore 4, 2) := by decide +kernel
theorem dX2_closest_25 : decode cX2_closest 25 = .ok (.bipush 9, 2) := by decide +kernel
theorem dX2_closest_27 : decode cX2_closest 27 = .ok (.istore 5, 2) := by decide +kernel
theorem dX2_closest_29 : decode cX2_closest 29 = .ok (.iconst 0, 1) := by decide +kernel
theorem dX2_closest_30 : decode cX2_closest 30 = .ok (.istore 6, 2) := by decide +kernel
theorem dX2_closest_32 : decode cX2_closest 32 = .ok (.iload 6, 2) := by decide +kernel
theorem dX2_closest_34 : decode cX2_closest 34 = .ok (.aload_n 1, 1) := by decide +kernel
theorem dX2_closest_35 : decode cX2_closest 35 = .ok (.getfield 82, 3) := by decide +kernel
theorem dX2_closest_38 : decode cX2_closest 38 = .ok (.iadd, 1) := by decide +kernel
theorem dX2_closest_39 : decode cX2_closest 39 = .ok (.iload_n 3, 1) := by decide +kernel
theorem dX2_closest_40 : decode cX2_closest 40 = .ok (.if_icmp .gt 33, 3) := by decide +kernel
theorem dX2_closest_43 : decode cX2_closest 43 = .ok (.aload_n 0, 1) := by decide +kernel
theorem dX2_closest_44 : decode cX2_closest 44 = .ok (.aload_n 1, 1) := by decide +kernel
theorem dX2_closest_45 : decode cX2_closest 45 = .ok (.iload 6, 2) := by decide +kernel
theorem dX2_closest_47 : decode cX2_closest 47 = .ok (.invokevirtual 95, 3) := by decide +kernel
theorem dX2_closest_50 : decode cX2_closest 50 = .ok (.istore 7, 2) := by decide +kernel
theorem dX2_closest_52 : decode cX2_closest 52 = .ok (.iload 7, 2) := by decide +kernel
theorem dX2_closest_54 : decode cX2_closest 54 = .ok (.iload 5, 2) := by decide +kernel
theorem dX2_closest_56 : decode cX2_closest 56 = .ok (.if_icmp .ge 11, 3) := by decide +kernel
theorem dX2_closest_59 : decode cX2_closest 59 = .ok (.iload 7, 2) := by decide +kernel
theorem dX2_closest_61 : decode cX2_closest 61 = .ok (.istore 5, 2) := by decide +kernel
theorem dX2_closest_63 : decode cX2_closest 63 = .ok (.iload 6, 2) := by decide +kernel
theorem dX2_closest_65 : decode cX2_closest 65 = .ok (.istore 4, 2) := by decide +kernel
theorem dX2_closest_67 : decode cX2_closest 67 = .ok (.iinc 6 1, 3) := by decide +kernel
theorem dX2_closest_70 : decode cX2_closest 70 = .ok (.goto (-38), 3) := by decide +kernel
theorem dX2_closest_73 : decode cX2_closest 73 = .ok (.iload 4, 2) := by decide +kernel
theorem dX2_closest_75 : decode cX2_closest 75 = .ok (.ireturn, 1) := by decide +kernel
def m2_closest : pMT := (yX2_closest, cX2_closest, 8, some .int)
theorem mo2_closest : mOK m2_closest 2 := ⟨tb_i 1067 (by decide +kernel), wi_RX2, ⟨wn_RX2.1, wn_RX2.2, by decide +kernel⟩, by decide, plainFor_of_name wp_RX2⟩
theorem mv2_closest : mV m2_closest := ⟨tb_i 1065 (by decide +kernel), tb_i 1066 (by decide +kernel)⟩
def f2_closest_c32 (n : Nat) (O : (Nat → Nat → Option Nat)) : Nat → (Nat → Nat → Int32) → Nat → Nat → Int32 → Int32 → Int32 → Int32 → Option (Int32 × (Nat → Nat → Int32))
  | 0, _, _, _, _, _, _, _ => none
  | m + 1, I, b0, b1, y3, y4, y5, y6 => (if y3 < (y6 + (I b1 6)) then some (y4, I) else (f2_unlikeAt n I O b0 b1 y6).bind fun r2 => (if y5 ≤ r2 then f2_closest_c32 n O m I b0 b1 y3 y4 y5 (y6 + 1) else f2_closest_c32 n O m I b0 b1 y3 y6 r2 (y6 + 1)))
set_option maxHeartbeats 4000000 in
set_option maxRecDepth 20000 in
theorem o2_closest_c32 {g : pG} {Qx : Option Value → pW → Prop} {Z : pZ} {L : (Nat → Nat → Int64)} {O : (Nat → Nat → Option Nat)} {n : Nat} {res : Int32 × (Nat → Nat → Int32)} (d : Nat) (hW : WT Z O) (hQ : Qx (some (.int res.1)) (Z, res.2, L, O)) : ∀ (m : Nat) (I : (Nat → Nat → Int32)) (b0 : Nat) (b1 : Nat) (y3 : Int32) (y4 : Int32) (y5 : Int32) (y6 : Int32), (Z[b0]? = some (2, 10)) → (Z[b1]? = some (9, 10)) → f2_closest_c32 n O m I b0 b1 y3 y4 y5 y6 = some res → Ok g (d + 5, RX2, cX2_closest, 8, false, 0, 0, Z.length, pSl Z) Qx 32 [(0, .ref b0), (1, .ref b1), (3, .int y3), (4, .int y4), (5, .int y5), (6, .int y6)] [] (Z, I, L, O) := by
  intro m
  induction m with
  | zero => intro I b0 b1 y3 y4 y5 y6 hZ_b0 hZ_b1 h; rw [f2_closest_c32] at h; cases h
  | succ m ih =>
    intro I b0 b1 y3 y4 y5 y6 hZ_b0 hZ_b1 h
    rw [f2_closest_c32] at h
    refine ok_iload dX2_closest_32 5 rfl ?_
    refine ok_aload_n dX2_closest_34 1 rfl ?_
    refine ok_getI (ci := 9) (k := 6) dX2_closest_35 flRX2_82 rfl hZ_b1 (by decide) ?_
    refine ok_iadd dX2_closest_38 ?_
    refine ok_iload_n dX2_closest_39 2 rfl ?_
    refine ok_icmp_gt (t := 73) dX2_closest_40 (by decide) (fun hc1 => ?_) (fun hc1 => ?_)
    · have h := (if_pos hc1).symm.trans h
      refine ok_iload dX2_closest_73 3 rfl ?_
      cases h
      exact ok_iret dX2_closest_75 hQ
    · have h := (if_neg hc1).symm.trans h
      refine ok_aload_n dX2_closest_43 0 rfl ?_
      refine ok_aload_n dX2_closest_44 1 rfl ?_
      refine ok_iload dX2_closest_45 5 rfl ?_
      obtain ⟨r2, hr3, h⟩ := bd h
      refine ok_callV (d := ((d + 1) + 3)) (mt := m2_unlikeAt) (mc := 0) (ms := 0) (As := [.ref b1, .int y6]) (r := []) dX2_closest_47 mo2_unlikeAt mv2_unlikeAt lkRX2_95 rfl hZ_b0 (q := (RX2, TX2, 10)) rfl rfl rfl (Nat.le_of_ble_eq_true rfl) (by show _ + 1 ≤ d + _; omega) (Nat.le_refl _) (Nat.le_refl _) (pRt_mono ?_)
      refine k2_unlikeAt (d + 1) hW hZ_b0 hZ_b1 hr3 ?_
      intro _
      show Ok g _ Qx 50 [(0, .ref b0), (1, .ref b1), (3, .int y3), (4, .int y4), (5, .int y5), (6, .int y6)] [.int r2] (Z, I, L, O)
      refine ok_istore (l' := [(7, .int r2), (0, .ref b0), (1, .ref b1), (3, .int y3), (4, .int y4), (5, .int y5), (6, .int y6)]) dX2_closest_50 (Nat.le_of_ble_eq_true rfl) rfl ?_
      refine ok_iload dX2_closest_52 0 rfl ?_
      refine ok_iload dX2_closest_54 5 rfl ?_
      refine ok_icmp_ge (t := 67) dX2_closest_56 (by decide) (fun hc4 => ?_) (fun hc4 => ?_)
      · have h := (if_pos hc4).symm.trans h
        refine ok_iinc (u := (y6 + 1)) (l' := [(6, .int (y6 + 1)), (7, .int r2), (0, .ref b0), (1, .ref b1), (3, .int y3), (4, .int y4), (5, .int y5)]) dX2_closest_67 6 rfl rfl (Nat.le_of_ble_eq_true rfl) rfl ?_
        refine ok_goto (t := 32) dX2_closest_70 (by decide) ?_
        refine ok_sub [2, 3, 4, 5, 6, 0] rfl ?_
        exact ih I b0 b1 y3 y4 y5 (y6 + 1) hZ_b0 hZ_b1 h
      · have h := (if_neg hc4).symm.trans h
        refine ok_iload dX2_closest_59 0 rfl ?_
        refine ok_istore (l' := [(5, .int r2), (7, .int r2), (0, .ref b0), (1, .ref b1), (3, .int y3), (4, .int y4), (6, .int y6)]) dX2_closest_61 (Nat.le_of_ble_eq_true rfl) rfl ?_
        refine ok_iload dX2_closest_63 6 rfl ?_
        refine ok_istore (l' := [(4, .int y6), (5, .int r2), (7, .int r2), (0, .ref b0), (1, .ref b1), (3, .int y3), (6, .int y6)]) dX2_closest_65 (Nat.le_of_ble_eq_true rfl) rfl ?_
        refine ok_iinc (u := (y6 + 1)) (l' := [(6, .int (y6 + 1)), (4, .int y6), (5, .int r2), (7, .int r2), (0, .ref b0), (1, .ref b1), (3, .int y3)]) dX2_closest_67 6 rfl rfl (Nat.le_of_ble_eq_true rfl) rfl ?_
        refine ok_goto (t := 32) dX2_closest_70 (by decide) ?_
        refine ok_sub [4, 5, 6, 1, 2, 0] rfl ?_
        exact ih I b0 b1 y3 y6 r2 (y6 + 1) hZ_b0 hZ_b1 h
def f2_closest (n : Nat) (I : (Nat → Nat → Int32)) (O : (Nat → Nat → Option Nat)) (a0 : Nat) (a1 : Nat) (x2 : Int32) : Option (Int32 × (Nat → Nat → Int32)) := (if 0 < (I a1 6) then (f2_lay n I O (rO O a1 0) x2 (rO O a0 0)).bind fun r4 => f2_closest_c32 n O n r4.2 a0 a1 r4.1 (-1 : Int32) (9 : Int32) (0 : Int32) else some (((-1) : Int32), I))
set_option maxHeartbeats 4000000 in
set_option maxRecDepth 20000 in
theorem o2_closest {g : pG} {Qx : Option Value → pW → Prop} {Z : pZ} {I : (Nat → Nat → Int32)} {L : (Nat → Nat → Int64)} {O : (Nat → Nat → Option Nat)} {n : Nat} {a0 : Nat} {a1 : Nat} {x2 : Int32} {res : Int32 × (Nat → Nat → Int32)} (d : Nat) (hW : WT Z O) (hZ0 : Z[a0]? = some (2, 10)) (hZ1 : Z[a1]? = some (9, 10)) (h : f2_closest n I O a0 a1 x2 = some res) (hQ : Qx (some (.int res.1)) (Z, res.2, L, O)) : Ok g (d + 5, RX2, cX2_closest, 8, false, 0, 0, Z.length, pSl Z) Qx 0 [(0, .ref a0), (1, .ref a1), (2, .int x2)] [] (Z, I, L, O) := by
  unfold f2_closest at h
  refine ok_aload_n dX2_closest_0 1 rfl ?_
  refine ok_getI (ci := 9) (k := 6) dX2_closest_1 flRX2_82 rfl hZ1 (by decide) ?_
  refine ok_if_gt (t := 9) dX2_closest_4 (by decide) (fun hc1 => ?_) (fun hc1 => ?_)
  · have h := (if_pos hc1).symm.trans h
    refine ok_aload_n dX2_closest_9 1 rfl ?_
    have hT2 : Z[(rO O a1 0)]? = some (10, 5) := (wt_f (ci := 9) (k := 0) hW hZ1 rfl).2
    refine ok_getR (ci := 9) (k := 0) dX2_closest_10 flRX2_91 rfl hW hZ1 (by decide) ?_
    refine ok_iload_n dX2_closest_13 2 rfl ?_
    refine ok_aload_n dX2_closest_14 0 rfl ?_
    have hT3 : Z[(rO O a0 0)]? = some (13, 16) := (wt_f (ci := 2) (k := 0) hW hZ0 rfl).2
    refine ok_getR (ci := 2) (k := 0) dX2_closest_15 flRX2_9 rfl hW hZ0 (by decide) ?_
    obtain ⟨r4, hr5, h⟩ := bd h
    refine ok_callS (d := ((d + 0) + 4)) (mt := m2_lay) (mc := 0) (ms := 0) (As := [.ref (rO O a1 0), .int x2, .ref (rO O a0 0)]) (r := []) dX2_closest_18 mo2_lay mv2_lay lkRX2_55 rfl rfl (Nat.le_of_ble_eq_true rfl) (by show _ + 1 ≤ d + _; omega) (Nat.le_refl _) (Nat.le_refl _) (pRt_mono ?_)
    refine k2_lay (d + 0) hW hT2 hT3 hr5 ?_
    intro _
    show Ok g _ Qx 21 [(0, .ref a0), (1, .ref a1), (2, .int x2)] [.int r4.1] (Z, r4.2, L, O)
    refine ok_istore_n (l' := [(3, .int r4.1), (0, .ref a0), (1, .ref a1), (2, .int x2)]) dX2_closest_21 rfl (Nat.le_of_ble_eq_true rfl) rfl ?_
    refine ok_iconst (v := (-1)) dX2_closest_22 (by decide) ?_
    refine ok_istore (l' := [(4, .int (-1)), (3, .int r4.1), (0, .ref a0), (1, .ref a1), (2, .int x2)]) dX2_closest_23 (Nat.le_of_ble_eq_true rfl) rfl ?_
    refine ok_bipush (v := 9) dX2_closest_25 (by decide) ?_
    refine ok_istore (l' := [(5, .int 9), (4, .int (-1)), (3, .int r4.1), (0, .ref a0), (1, .ref a1), (2, .int x2)]) dX2_closest_27 (Nat.le_of_ble_eq_true rfl) rfl ?_
    refine ok_iconst (v := 0) dX2_closest_29 (by decide) ?_
    refine ok_istore (l' := [(6, .int 0), (5, .int 9), (4, .int (-1)), (3, .int r4.1), (0, .ref a0), (1, .ref a1), (2, .int x2)]) dX2_closest_30 (Nat.le_of_ble_eq_true rfl) rfl ?_
    refine ok_sub [4, 5, 3, 2, 1, 0] rfl ?_
    exact o2_closest_c32 d hW hQ  n r4.2 a0 a1 r4.1 (-1 : Int32) (9 : Int32) (0 : Int32) hZ0 hZ1 h
  · have h := (if_neg hc1).symm.trans h
    refine ok_iconst (v := (-1)) dX2_closest_7 (by decide) ?_
    cases h
    exact ok_iret dX2_closest_8 hQ
theorem k2_closest {g : pG} {Q : Option Value → pW → Prop} {Z : pZ} {I : (Nat → Nat → Int32)} {L : (Nat → Nat → Int64)} {O : (Nat → Nat → Option Nat)} {n : Nat} {a0 : Nat} {a1 : Nat} {x2 : Int32} {res : Int32 × (Nat → Nat → Int32)} (d : Nat) (hW : WT Z O) (hZ0 : Z[a0]? = some (2, 10)) (hZ1 : Z[a1]? = some (9, 10)) (h : f2_closest n I O a0 a1 x2 = some res) (hQ : Q (some (.int res.1)) (Z, res.2, L, O)) : CT g (d + 5) m2_closest 0 0 [.ref a0, .ref a1, .int x2] (Z, I, L, O) Q :=
  ct_of_ok (mt := m2_closest) (ini := false) mo2_closest.2.2.2.2 (fun h => by cases h) (Nat.le_of_ble_eq_true rfl) (o2_closest d hW hZ0 hZ1 h ⟨trivial, hQ, rfl, rfl⟩)
theorem dX2_fill_0 : decode cX2_fill 0 = .ok (.iload_n 2, 1) := by decide +kernel
theorem dX2_fill_1 : decode cX2_fill 1 = .ok (.istore_n 3, 1) := by decide +kernel
theorem dX2_fill_2 : decode cX2_fill 2 = .ok (.iconst 0, 1) := by decide +kernel
theorem dX2_fill_3 : decode cX2_fill 3 = .ok (.istore 4, 2) := by decide +kernel
theorem dX2_fill_5 : decode cX2_fill 5 = .ok (.iload 4, 2) := by decide +kernel
theorem dX2_fill_7 : decode cX2_fill 7 = .ok (.bipush 16, 2) := by decide +kernel
theorem dX2_fill_9 : decode cX2_fill 9 = .ok (.if_icmp .ge 34, 3) := by decide +kernel
theorem dX2_fill_12 : decode cX2_fill 12 = .ok (.iload_n 1, 1) := by decide +kernel
theorem dX2_fill_13 : decode cX2_fill 13 = .ok (.iload 4, 2) := by decide +kernel
theorem dX2_fill_15 : decode cX2_fill 15 = .ok (.ishr, 1) := by decide +kernel
theorem dX2_fill_16 : decode cX2_fill 16 = .ok (.iconst 1, 1) := by decide +kernel
theorem dX2_fill_17 : decode cX2_fill 17 = .ok (.iand, 1) := by decide +kernel
theorem dX2_fill_18 : decode cX2_fill 18 = .ok (.ifCond .eq 19, 3) := by decide +kernel
theorem dX2_fill_21 : decode cX2_fill 21 = .ok (.aload_n 0, 1) := by decide +kernel
theorem dX2_fill_22 : decode cX2_fill 22 = .ok (.getfield 9, 3) := by decide +kernel
theorem dX2_fill_25 : decode cX2_fill 25 = .ok (.iload 4, 2) := by decide +kernel
theorem dX2_fill_27 : decode cX2_fill 27 = .ok (.iload_n 3, 1) := by decide +kernel
theorem dX2_fill_28 : decode cX2_fill 28 = .ok (.bipush 6, 2) := by decide +kernel
theorem dX2_fill_30 : decode cX2_fill 30 = .ok (.irem, 1) := by decide +kernel
theorem dX2_fill_31 : decode cX2_fill 31 = .ok (.iastore, 1) := by decide +kernel
theorem dX2_fill_32 : decode cX2_fill 32 = .ok (.iload_n 3, 1) := by decide +kernel
theorem dX2_fill_33 : decode cX2_fill 33 = .ok (.bipush 6, 2) := by decide +kernel
theorem dX2_fill_35 : decode cX2_fill 35 = .ok (.idiv, 1) := by decide +kernel
theorem dX2_fill_36 : decode cX2_fill 36 = .ok (.istore_n 3, 1) := by decide +kernel
theorem dX2_fill_37 : decode cX2_fill 37 = .ok (.iinc 4 1, 3) := by decide +kernel
theorem dX2_fill_40 : decode cX2_fill 40 = .ok (.goto (-35), 3) := by decide +kernel
theorem dX2_fill_43 : decode cX2_fill 43 = .ok (.return_, 1) := by decide +kernel
def m2_fill : pMT := (yX2_fill, cX2_fill, 5, none)
theorem mo2_fill : mOK m2_fill 2 := ⟨tb_i 1153 (by decide +kernel), wi_RX2, ⟨wn_RX2.1, wn_RX2.2, by decide +kernel⟩, by decide, plainFor_of_name wp_RX2⟩
theorem mv2_fill : mV m2_fill := ⟨tb_i 1152 (by decide +kernel), tb_p 50 (by decide +kernel)⟩
def f2_fill_c5 (n : Nat) (O : (Nat → Nat → Option Nat)) : Nat → (Nat → Nat → Int32) → Nat → Int32 → Int32 → Int32 → Option ((Nat → Nat → Int32))
  | 0, _, _, _, _, _ => none
  | m + 1, I, b0, y1, y3, y4 => (if (16 : Int32) ≤ y4 then some (I) else (if ((y1 >>> (y4 &&& 31)) &&& 1) = 0 then f2_fill_c5 n O m I b0 y1 y3 (y4 + 1) else (if y4 < 0 ∨ 16 ≤ y4.toNatClampNeg then none else bl (sI I (rO O b0 0) y4.toNatClampNeg (y3 - y3 / 6 * 6)) fun I5 => f2_fill_c5 n O m I5 b0 y1 (y3 / 6) (y4 + 1))))
set_option maxHeartbeats 4000000 in
set_option maxRecDepth 20000 in
theorem o2_fill_c5 {g : pG} {Qx : Option Value → pW → Prop} {Z : pZ} {L : (Nat → Nat → Int64)} {O : (Nat → Nat → Option Nat)} {n : Nat} {res : (Nat → Nat → Int32)} (d : Nat) (hW : WT Z O) (hQ : Qx none (Z, res, L, O)) : ∀ (m : Nat) (I : (Nat → Nat → Int32)) (b0 : Nat) (y1 : Int32) (y3 : Int32) (y4 : Int32), (Z[b0]? = some (2, 10)) → f2_fill_c5 n O m I b0 y1 y3 y4 = some res → Ok g (d + 2, RX2, cX2_fill, 5, false, 0, 0, Z.length, pSl Z) Qx 5 [(0, .ref b0), (1, .int y1), (3, .int y3), (4, .int y4)] [] (Z, I, L, O) := by
  intro m
  induction m with
  | zero => intro I b0 y1 y3 y4 hZ_b0 h; rw [f2_fill_c5] at h; cases h
  | succ m ih =>
    intro I b0 y1 y3 y4 hZ_b0 h
    rw [f2_fill_c5] at h
    refine ok_iload dX2_fill_5 3 rfl ?_
    refine ok_bipush (v := 16) dX2_fill_7 (by decide) ?_
    refine ok_icmp_ge (t := 43) dX2_fill_9 (by decide) (fun hc1 => ?_) (fun hc1 => ?_)
    · have h := (if_pos hc1).symm.trans h
      cases h
      exact ok_vret dX2_fill_43 hQ
    · have h := (if_neg hc1).symm.trans h
      refine ok_iload_n dX2_fill_12 1 rfl ?_
      refine ok_iload dX2_fill_13 3 rfl ?_
      refine ok_ishr dX2_fill_15 ?_
      refine ok_iconst (v := 1) dX2_fill_16 (by decide) ?_
      refine ok_iand dX2_fill_17 ?_
      refine ok_if_eq (t := 37) dX2_fill_18 (by decide) (fun hc2 => ?_) (fun hc2 => ?_)
      · have h := (if_pos hc2).symm.trans h
        refine ok_iinc (u := (y4 + 1)) (l' := [(4, .int (y4 + 1)), (0, .ref b0), (1, .int y1), (3, .int y3)]) dX2_fill_37 3 rfl rfl (Nat.le_of_ble_eq_true rfl) rfl ?_
        refine ok_goto (t := 5) dX2_fill_40 (by decide) ?_
        refine ok_sub [1, 2, 3, 0] rfl ?_
        exact ih I b0 y1 y3 (y4 + 1) hZ_b0 h
      · have h := (if_neg hc2).symm.trans h
        refine ok_aload_n dX2_fill_21 0 rfl ?_
        have hT3 : Z[(rO O b0 0)]? = some (13, 16) := (wt_f (ci := 2) (k := 0) hW hZ_b0 rfl).2
        refine ok_getR (ci := 2) (k := 0) dX2_fill_22 flRX2_9 rfl hW hZ_b0 (by decide) ?_
        refine ok_iload dX2_fill_25 3 rfl ?_
        refine ok_iload_n dX2_fill_27 2 rfl ?_
        refine ok_bipush (v := 6) dX2_fill_28 (by decide) ?_
        refine ok_irem dX2_fill_30 (by decide) ?_
        obtain ⟨hg4, h⟩ := gd h
        obtain ⟨I5, eI5, h⟩ := blE h
        refine ok_iast3 dX2_fill_31 hT3 hg4 rfl eI5 ?_
        refine ok_iload_n dX2_fill_32 2 rfl ?_
        refine ok_bipush (v := 6) dX2_fill_33 (by decide) ?_
        refine ok_idiv dX2_fill_35 (by decide) ?_
        refine ok_istore_n (l' := [(3, .int (y3 / 6)), (0, .ref b0), (1, .int y1), (4, .int y4)]) dX2_fill_36 rfl (Nat.le_of_ble_eq_true rfl) rfl ?_
        refine ok_iinc (u := (y4 + 1)) (l' := [(4, .int (y4 + 1)), (3, .int (y3 / 6)), (0, .ref b0), (1, .int y1)]) dX2_fill_37 3 rfl rfl (Nat.le_of_ble_eq_true rfl) rfl ?_
        refine ok_goto (t := 5) dX2_fill_40 (by decide) ?_
        refine ok_sub [2, 3, 1, 0] rfl ?_
        exact ih I5 b0 y1 (y3 / 6) (y4 + 1) hZ_b0 h
def f2_fill (n : Nat) (I : (Nat → Nat → Int32)) (O : (Nat → Nat → Option Nat)) (a0 : Nat) (x1 : Int32) (x2 : Int32) : Option ((Nat → Nat → Int32)) := f2_fill_c5 n O n I a0 x1 x2 (0 : Int32)
set_option maxHeartbeats 4000000 in
set_option maxRecDepth 20000 in
theorem o2_fill {g : pG} {Qx : Option Value → pW → Prop} {Z : pZ} {I : (Nat → Nat → Int32)} {L : (Nat → Nat → Int64)} {O : (Nat → Nat → Option Nat)} {n : Nat} {a0 : Nat} {x1 : Int32} {x2 : Int32} {res : (Nat → Nat → Int32)} (d : Nat) (hW : WT Z O) (hZ0 : Z[a0]? = some (2, 10)) (h : f2_fill n I O a0 x1 x2 = some res) (hQ : Qx none (Z, res, L, O)) : Ok g (d + 2, RX2, cX2_fill, 5, false, 0, 0, Z.length, pSl Z) Qx 0 [(0, .ref a0), (1, .int x1), (2, .int x2)] [] (Z, I, L, O) := by
  unfold f2_fill at h
  refine ok_iload_n dX2_fill_0 2 rfl ?_
  refine ok_istore_n (l' := [(3, .int x2), (0, .ref a0), (1, .int x1), (2, .int x2)]) dX2_fill_1 rfl (Nat.le_of_ble_eq_true rfl) rfl ?_
  refine ok_iconst (v := 0) dX2_fill_2 (by decide) ?_
  refine ok_istore (l' := [(4, .int 0), (3, .int x2), (0, .ref a0), (1, .int x1), (2, .int x2)]) dX2_fill_3 (Nat.le_of_ble_eq_true rfl) rfl ?_
  refine ok_sub [2, 3, 1, 0] rfl ?_
  exact o2_fill_c5 d hW hQ  n I a0 x1 x2 (0 : Int32) hZ0 h
theorem k2_fill {g : pG} {Q : Option Value → pW → Prop} {Z : pZ} {I : (Nat → Nat → Int32)} {L : (Nat → Nat → Int64)} {O : (Nat → Nat → Option Nat)} {n : Nat} {a0 : Nat} {x1 : Int32} {x2 : Int32} {res : (Nat → Nat → Int32)} (d : Nat) (hW : WT Z O) (hZ0 : Z[a0]? = some (2, 10)) (h : f2_fill n I O a0 x1 x2 = some res) (hQ : Q none (Z, res, L, O)) : CT g (d + 2) m2_fill 0 0 [.ref a0, .int x1, .int x2] (Z, I, L, O) Q :=
  ct_of_ok (mt := m2_fill) (ini := false) mo2_fill.2.2.2.2 (fun h => by cases h) (Nat.le_of_ble_eq_true rfl) (o2_fill d hW hZ0 h ⟨trivial, hQ, rfl, rfl⟩)
theorem dX2_hasPhrase_0 : decode cX2_hasPhrase 0 = .ok (.iconst 0, 1) := by decide +kernel
theorem dX2_hasPhrase_1 : decode cX2_hasPhrase 1 = .ok (.istore_n 3, 1) := by decide +kernel
theorem dX2_hasPhrase_2 : decode cX2_hasPhrase 2 = .ok (.iload_n 3, 1) := by decide +kernel
theorem dX2_hasPhrase_3 : decode cX2_hasPhrase 3 = .ok (.aload_n 1, 1) := by decide +kernel
theorem dX2_hasPhrase_4 : decode cX2_hasPhrase 4 = .ok (.getfield 82, 3) := by decide +kernel
theorem dX2_hasPhrase_7 : decode cX2_hasPhrase 7 = .ok (.iadd, 1) := by decide +kernel
theorem dX2_hasPhrase_8 : decode cX2_hasPhrase 8 = .ok (.iload_n 2, 1) := by decide +kernel
theorem dX2_hasPhrase_9 : decode cX2_hasPhrase 9 = .ok (.if_icmp .gt 64, 3) := by decide +kernel
theorem dX2_hasPhrase_12 : decode cX2_hasPhrase 12 = .ok (.iconst 0, 1) := by decide +kernel
theorem dX2_hasPhrase_13 : decode cX2_hasPhrase 13 = .ok (.istore 4, 2) := by decide +kernel
theorem dX2_hasPhrase_15 : decode cX2_hasPhrase 15 = .ok (.iload 4, 2) := by decide +kernel
theorem dX2_hasPhrase_17 : decode cX2_hasPhrase 17 = .ok (.aload_n 1, 1) := by decide +kernel
theorem dX2_hasPhrase_18 : decode cX2_hasPhrase 18 = .ok (.getfield 82, 3) := by decide +kernel
theorem dX2_hasPhrase_21 : decode cX2_hasPhrase 21 = .ok (.if_icmp .ge 35, 3) := by decide +kernel
theorem dX2_hasPhrase_24 : decode cX2_hasPhrase 24 = .ok (.iload 4, 2) := by decide +kernel
theorem dX2_hasPhrase_26 : decode cX2_hasPhrase 26 = .ok (.bipush 8, 2) := by decide +kernel
theorem dX2_hasPhrase_28 : decode cX2_hasPhrase 28 = .ok (.if_icmp .ge 28, 3) := by decide +kernel
theorem dX2_hasPhrase_31 : decode cX2_hasPhrase 31 = .ok (.aload_n 0, 1) := by decide +kernel
theorem dX2_hasPhrase_32 : decode cX2_hasPhrase 32 = .ok (.getfield 9, 3) := by decide +kernel
theorem dX2_hasPhrase_35 : decode cX2_hasPhrase 35 = .ok (.iload_n 3, 1) := by decide +kernel
theorem dX2_hasPhrase_36 : decode cX2_hasPhrase 36 = .ok (.iload 4, 2) := by decide +kernel
theorem dX2_hasPhrase_38 : decode cX2_hasPhrase 38 = .ok (.iadd, 1) := by decide +kernel
theorem dX2_hasPhrase_39 : decode cX2_hasPhrase 39 = .ok (.iaload, 1) := by decide +kernel
theorem dX2_hasPhrase_40 : decode cX2_hasPhrase 40 = .ok (.aload_n 1, 1) := by decide +kernel
theorem dX2_hasPhrase_41 : decode cX2_hasPhrase 41 = .ok (.getfield 88, 3) := by decide +kernel
theorem dX2_hasPhrase_44 : decode cX2_hasPhrase 44 = .ok (.iload 4, 2) := by decide +kernel
theorem dX2_hasPhrase_46 : decode cX2_hasPhrase 46 = .ok (.iaload, 1) := by decide +kernel
theorem dX2_hasPhrase_47 : decode cX2_hasPhrase 47 = .ok (.if_icmp .ne 9, 3) := by decide +kernel
theorem dX2_hasPhrase_50 : decode cX2_hasPhrase 50 = .ok (.iinc 4 1, 3) := by decide +kernel
theorem dX2_hasPhrase_53 : decode cX2_hasPhrase 53 = .ok (.goto (-38), 3) := by decide +kernel
theorem dX2_hasPhrase_56 : decode cX2_hasPhrase 56 = .ok (.iload 4, 2) := by decide +kernel
theorem dX2_hasPhrase_58 : decode cX2_hasPhrase 58 = .ok (.aload_n 1, 1) := by decide +kernel
theorem dX2_hasPhrase_59 : decode cX2_hasPhrase 59 = .ok (.getfield 82, 3) := by decide +kernel
theorem dX2_hasPhrase_62 : decode cX2_hasPhrase 62 = .ok (.if_icmp .ne 5, 3) := by decide +kernel
theorem dX2_hasPhrase_65 : decode cX2_hasPhrase 65 = .ok (.iconst 1, 1) := by decide +kernel
theorem dX2_hasPhrase_66 : decode cX2_hasPhrase 66 = .ok (.ireturn, 1) := by decide +kernel
theorem dX2_hasPhrase_67 : decode cX2_hasPhrase 67 = .ok (.iinc 3 1, 3) := by decide +kernel
theorem dX2_hasPhrase_70 : decode cX2_hasPhrase 70 = .ok (.goto (-68), 3) := by decide +kernel
theorem dX2_hasPhrase_73 : decode cX2_hasPhrase 73 = .ok (.iconst 0, 1) := by decide +kernel
theorem dX2_hasPhrase_74 : decode cX2_hasPhrase 74 = .ok (.ireturn, 1) := by decide +kernel
def m2_hasPhrase : pMT := (yX2_hasPhrase, cX2_hasPhrase, 5, some .boolean)
theorem mo2_hasPhrase : mOK m2_hasPhrase 2 := ⟨tb_i 1157 (by decide +kernel), wi_RX2, ⟨wn_RX2.1, wn_RX2.2, by decide +kernel⟩, by decide, plainFor_of_name wp_RX2⟩
theorem mv2_hasPhrase : mV m2_hasPhrase := ⟨tb_i 1156 (by decide +kernel), tb_p 51 (by decide +kernel)⟩
def f2_hasPhrase_c15 (n : Nat) (I : (Nat → Nat → Int32)) (O : (Nat → Nat → Option Nat)) (k2 : (Nat → Nat → Int32 → Int32 → Option (Int32))) : Nat → Nat → Nat → Int32 → Int32 → Int32 → Option (Int32)
  | 0, _, _, _, _, _ => none
  | m + 1, b0, b1, y2, y3, y4 => (if (I b1 6) ≤ y4 then (if y4 = (I b1 6) then some ((1 : Int32)) else k2 b0 b1 y2 (y3 + 1)) else (if (8 : Int32) ≤ y4 then (if y4 = (I b1 6) then some ((1 : Int32)) else k2 b0 b1 y2 (y3 + 1)) else (if (y3 + y4) < 0 ∨ 16 ≤ (y3 + y4).toNatClampNeg then none else (if y4 < 0 ∨ 8 ≤ y4.toNatClampNeg then none else (if (I (rO O b0 0) (y3 + y4).toNatClampNeg) = (I (rO O b1 2) y4.toNatClampNeg) then f2_hasPhrase_c15 n I O k2 m b0 b1 y2 y3 (y4 + 1) else (if y4 = (I b1 6) then some ((1 : Int32)) else k2 b0 b1 y2 (y3 + 1)))))))
set_option maxHeartbeats 4000000 in
set_option maxRecDepth 20000 in
theorem o2_hasPhrase_c15 {g : pG} {Qx : Option Value → pW → Prop} {Z : pZ} {I : (Nat → Nat → Int32)} {L : (Nat → Nat → Int64)} {O : (Nat → Nat → Option Nat)} {n : Nat} {k2 : (Nat → Nat → Int32 → Int32 → Option (Int32))} {res : Int32} (d : Nat) (hW : WT Z O) (hQ : (res = 0 ∨ res = 1) → Qx (some (.int res)) (Z, I, L, O)) (hk2 : ∀ (b0 : Nat) (b1 : Nat) (y2 : Int32) (y3 : Int32), (Z[b0]? = some (2, 10)) → (Z[b1]? = some (9, 10)) → k2 b0 b1 y2 y3 = some res → Ok g (d + 2, RX2, cX2_hasPhrase, 5, false, 0, 0, Z.length, pSl Z) Qx 2 [(0, .ref b0), (1, .ref b1), (2, .int y2), (3, .int y3)] [] (Z, I, L, O)) : ∀ (m : Nat) (b0 : Nat) (b1 : Nat) (y2 : Int32) (y3 : Int32) (y4 : Int32), (Z[b0]? = some (2, 10)) → (Z[b1]? = some (9, 10)) → f2_hasPhrase_c15 n I O k2 m b0 b1 y2 y3 y4 = some res → Ok g (d + 2, RX2, cX2_hasPhrase, 5, false, 0, 0, Z.length, pSl Z) Qx 15 [(0, .ref b0), (1, .ref b1), (2, .int y2), (3, .int y3), (4, .int y4)] [] (Z, I, L, O) := by
  intro m
  induction m with
  | zero => intro b0 b1 y2 y3 y4 hZ_b0 hZ_b1 h; rw [f2_hasPhrase_c15] at h; cases h
  | succ m ih =>
    intro b0 b1 y2 y3 y4 hZ_b0 hZ_b1 h
    rw [f2_hasPhrase_c15] at h
    refine ok_iload dX2_hasPhrase_15 4 rfl ?_
    refine ok_aload_n dX2_hasPhrase_17 1 rfl ?_
    refine ok_getI (ci := 9) (k := 6) dX2_hasPhrase_18 flRX2_82 rfl hZ_b1 (by decide) ?_
    refine ok_icmp_ge (t := 56) dX2_hasPhrase_21 (by decide) (fun hc1 => ?_) (fun hc1 => ?_)
    · have h := (if_pos hc1).symm.trans h
      refine ok_iload dX2_hasPhrase_56 4 rfl ?_
      refine ok_aload_n dX2_hasPhrase_58 1 rfl ?_
      refine ok_getI (ci := 9) (k := 6) dX2_hasPhrase_59 flRX2_82 rfl hZ_b1 (by decide) ?_
      refine ok_icmp_ne (t := 67) dX2_hasPhrase_62 (by decide) (fun hc2 => ?_) (fun hc2 => ?_)
      · have h := (if_neg hc2).symm.trans h
        refine ok_iinc (u := (y3 + 1)) (l' := [(3, .int (y3 + 1)), (0, .ref b0), (1, .ref b1), (2, .int y2), (4, .int y4)]) dX2_hasPhrase_67 3 rfl rfl (Nat.le_of_ble_eq_true rfl) rfl ?_
        refine ok_goto (t := 2) dX2_hasPhrase_70 (by decide) ?_
        refine ok_sub [1, 2, 3, 0] rfl ?_
        exact hk2 b0 b1 y2 (y3 + 1) hZ_b0 hZ_b1 h
      · have h := (if_pos hc2).symm.trans h
        refine ok_iconst (v := 1) dX2_hasPhrase_65 (by decide) ?_
        cases h
        exact ok_iret dX2_hasPhrase_66 (hQ (Or.inr rfl))
    · have h := (if_neg hc1).symm.trans h
      refine ok_iload dX2_hasPhrase_24 4 rfl ?_
      refine ok_bipush (v := 8) dX2_hasPhrase_26 (by decide) ?_
      refine ok_icmp_ge (t := 56) dX2_hasPhrase_28 (by decide) (fun hc3 => ?_) (fun hc3 => ?_)
      · have h := (if_pos hc3).symm.trans h
        refine ok_iload dX2_hasPhrase_56 4 rfl ?_
        refine ok_aload_n dX2_hasPhrase_58 1 rfl ?_
        refine ok_getI (ci := 9) (k := 6) dX2_hasPhrase_59 flRX2_82 rfl hZ_b1 (by decide) ?_
        refine ok_icmp_ne (t := 67) dX2_hasPhrase_62 (by decide) (fun hc4 => ?_) (fun hc4 => ?_)
        · have h := (if_neg hc4).symm.trans h
          refine ok_iinc (u := (y3 + 1)) (l' := [(3, .int (y3 + 1)), (0, .ref b0), (1, .ref b1), (2, .int y2), (4, .int y4)]) dX2_hasPhrase_67 3 rfl rfl (Nat.le_of_ble_eq_true rfl) rfl ?_
          refine ok_goto (t := 2) dX2_hasPhrase_70 (by decide) ?_
          refine ok_sub [1, 2, 3, 0] rfl ?_
          exact hk2 b0 b1 y2 (y3 + 1) hZ_b0 hZ_b1 h
        · have h := (if_pos hc4).symm.trans h
          refine ok_iconst (v := 1) dX2_hasPhrase_65 (by decide) ?_
          cases h
          exact ok_iret dX2_hasPhrase_66 (hQ (Or.inr rfl))
      · have h := (if_neg hc3).symm.trans h
        refine ok_aload_n dX2_hasPhrase_31 0 rfl ?_
        have hT5 : Z[(rO O b0 0)]? = some (13, 16) := (wt_f (ci := 2) (k := 0) hW hZ_b0 rfl).2
        refine ok_getR (ci := 2) (k := 0) dX2_hasPhrase_32 flRX2_9 rfl hW hZ_b0 (by decide) ?_
        refine ok_iload_n dX2_hasPhrase_35 3 rfl ?_
        refine ok_iload dX2_hasPhrase_36 4 rfl ?_
        refine ok_iadd dX2_hasPhrase_38 ?_
        obtain ⟨hg6, h⟩ := gd h
        refine ok_iald2 (N := (y3 + y4).toNatClampNeg) dX2_hasPhrase_39 hT5 hg6 rfl ?_
        refine ok_aload_n dX2_hasPhrase_40 1 rfl ?_
        have hT7 : Z[(rO O b1 2)]? = some (13, 8) := (wt_f (ci := 9) (k := 2) hW hZ_b1 rfl).2
        refine ok_getR (ci := 9) (k := 2) dX2_hasPhrase_41 flRX2_88 rfl hW hZ_b1 (by decide) ?_
        refine ok_iload dX2_hasPhrase_44 4 rfl ?_
        obtain ⟨hg8, h⟩ := gd h
        refine ok_iald2 (N := y4.toNatClampNeg) dX2_hasPhrase_46 hT7 hg8 rfl ?_
        refine ok_icmp_ne (t := 56) dX2_hasPhrase_47 (by decide) (fun hc9 => ?_) (fun hc9 => ?_)
        · have h := (if_neg hc9).symm.trans h
          refine ok_iload dX2_hasPhrase_56 4 rfl ?_
          refine ok_aload_n dX2_hasPhrase_58 1 rfl ?_
          refine ok_getI (ci := 9) (k := 6) dX2_hasPhrase_59 flRX2_82 rfl hZ_b1 (by decide) ?_
          refine ok_icmp_ne (t := 67) dX2_hasPhrase_62 (by decide) (fun hc10 => ?_) (fun hc10 => ?_)
          · have h := (if_neg hc10).symm.trans h
            refine ok_iinc (u := (y3 + 1)) (l' := [(3, .int (y3 + 1)), (0, .ref b0), (1, .ref b1), (2, .int y2), (4, .int y4)]) dX2_hasPhrase_67 3 rfl rfl (Nat.le_of_ble_eq_true rfl) rfl ?_
            refine ok_goto (t := 2) dX2_hasPhrase_70 (by decide) ?_
            refine ok_sub [1, 2, 3, 0] rfl ?_
            exact hk2 b0 b1 y2 (y3 + 1) hZ_b0 hZ_b1 h
          · have h := (if_pos hc10).symm.trans h
            refine ok_iconst (v := 1) dX2_hasPhrase_65 (by decide) ?_
            cases h
            exact ok_iret dX2_hasPhrase_66 (hQ (Or.inr rfl))
        · have h := (if_pos hc9).symm.trans h
          refine ok_iinc (u := (y4 + 1)) (l' := [(4, .int (y4 + 1)), (0, .ref b0), (1, .ref b1), (2, .int y2), (3, .int y3)]) dX2_hasPhrase_50 4 rfl rfl (Nat.le_of_ble_eq_true rfl) rfl ?_
          refine ok_goto (t := 15) dX2_hasPhrase_53 (by decide) ?_
          refine ok_sub [1, 2, 3, 4, 0] rfl ?_
          exact ih b0 b1 y2 y3 (y4 + 1) hZ_b0 hZ_b1 h
def f2_hasPhrase_c2 (n : Nat) (I : (Nat → Nat → Int32)) (O : (Nat → Nat → Option Nat)) : Nat → Nat → Nat → Int32 → Int32 → Option (Int32)
  | 0, _, _, _, _ => none
  | m + 1, b0, b1, y2, y3 => (if y2 < (y3 + (I b1 6)) then some ((0 : Int32)) else f2_hasPhrase_c15 n I O (f2_hasPhrase_c2 n I O m) n b0 b1 y2 y3 (0 : Int32))
set_option maxHeartbeats 4000000 in
set_option maxRecDepth 20000 in
theorem o2_hasPhrase_c2 {g : pG} {Qx : Option Value → pW → Prop} {Z : pZ} {I : (Nat → Nat → Int32)} {L : (Nat → Nat → Int64)} {O : (Nat → Nat → Option Nat)} {n : Nat} {res : Int32} (d : Nat) (hW : WT Z O) (hQ : (res = 0 ∨ res = 1) → Qx (some (.int res)) (Z, I, L, O)) : ∀ (m : Nat) (b0 : Nat) (b1 : Nat) (y2 : Int32) (y3 : Int32), (Z[b0]? = some (2, 10)) → (Z[b1]? = some (9, 10)) → f2_hasPhrase_c2 n I O m b0 b1 y2 y3 = some res → Ok g (d + 2, RX2, cX2_hasPhrase, 5, false, 0, 0, Z.length, pSl Z) Qx 2 [(0, .ref b0), (1, .ref b1), (2, .int y2), (3, .int y3)] [] (Z, I, L, O) := by
  intro m
  induction m with
  | zero => intro b0 b1 y2 y3 hZ_b0 hZ_b1 h; rw [f2_hasPhrase_c2] at h; cases h
  | succ m ih =>
    intro b0 b1 y2 y3 hZ_b0 hZ_b1 h
    rw [f2_hasPhrase_c2] at h
    refine ok_iload_n dX2_hasPhrase_2 3 rfl ?_
    refine ok_aload_n dX2_hasPhrase_3 1 rfl ?_
    refine ok_getI (ci := 9) (k := 6) dX2_hasPhrase_4 flRX2_82 rfl hZ_b1 (by decide) ?_
    refine ok_iadd dX2_hasPhrase_7 ?_
    refine ok_iload_n dX2_hasPhrase_8 2 rfl ?_
    refine ok_icmp_gt (t := 73) dX2_hasPhrase_9 (by decide) (fun hc1 => ?_) (fun hc1 => ?_)
    · have h := (if_pos hc1).symm.trans h
      refine ok_iconst (v := 0) dX2_hasPhrase_73 (by decide) ?_
      cases h
      exact ok_iret dX2_hasPhrase_74 (hQ (Or.inl rfl))
    · have h := (if_neg hc1).symm.trans h
      refine ok_iconst (v := 0) dX2_hasPhrase_12 (by decide) ?_
      refine ok_istore (l' := [(4, .int 0), (0, .ref b0), (1, .ref b1), (2, .int y2), (3, .int y3)]) dX2_hasPhrase_13 (Nat.le_of_ble_eq_true rfl) rfl ?_
      refine ok_sub [1, 2, 3, 4, 0] rfl ?_
      exact o2_hasPhrase_c15 d hW hQ ih n b0 b1 y2 y3 (0 : Int32) hZ_b0 hZ_b1 h
def f2_hasPhrase (n : Nat) (I : (Nat → Nat → Int32)) (O : (Nat → Nat → Option Nat)) (a0 : Nat) (a1 : Nat) (x2 : Int32) : Option (Int32) := f2_hasPhrase_c2 n I O n a0 a1 x2 (0 : Int32)
set_option maxHeartbeats 4000000 in
set_option maxRecDepth 20000 in
theorem o2_hasPhrase {g : pG} {Qx : Option Value → pW → Prop} {Z : pZ} {I : (Nat → Nat → Int32)} {L : (Nat → Nat → Int64)} {O : (Nat → Nat → Option Nat)} {n : Nat} {a0 : Nat} {a1 : Nat} {x2 : Int32} {res : Int32} (d : Nat) (hW : WT Z O) (hZ0 : Z[a0]? = some (2, 10)) (hZ1 : Z[a1]? = some (9, 10)) (h : f2_hasPhrase n I O a0 a1 x2 = some res) (hQ : (res = 0 ∨ res = 1) → Qx (some (.int res)) (Z, I, L, O)) : Ok g (d + 2, RX2, cX2_hasPhrase, 5, false, 0, 0, Z.length, pSl Z) Qx 0 [(0, .ref a0), (1, .ref a1), (2, .int x2)] [] (Z, I, L, O) := by
  unfold f2_hasPhrase at h
  refine ok_iconst (v := 0) dX2_hasPhrase_0 (by decide) ?_
  refine ok_istore_n (l' := [(3, .int 0), (0, .ref a0), (1, .ref a1), (2, .int x2)]) dX2_hasPhrase_1 rfl (Nat.le_of_ble_eq_true rfl) rfl ?_
  refine ok_sub [1, 2, 3, 0] rfl ?_
  exact o2_hasPhrase_c2 d hW hQ  n a0 a1 x2 (0 : Int32) hZ0 hZ1 h
theorem k2_hasPhrase {g : pG} {Q : Option Value → pW → Prop} {Z : pZ} {I : (Nat → Nat → Int32)} {L : (Nat → Nat → Int64)} {O : (Nat → Nat → Option Nat)} {n : Nat} {a0 : Nat} {a1 : Nat} {x2 : Int32} {res : Int32} (d : Nat) (hW : WT Z O) (hZ0 : Z[a0]? = some (2, 10)) (hZ1 : Z[a1]? = some (9, 10)) (h : f2_hasPhrase n I O a0 a1 x2 = some res) (hQ : Q (some (.int res)) (Z, I, L, O)) : CT g (d + 2) m2_hasPhrase 0 0 [.ref a0, .ref a1, .int x2] (Z, I, L, O) Q :=
  ct_of_ok (mt := m2_hasPhrase) (ini := false) mo2_hasPhrase.2.2.2.2 (fun h => by cases h) (Nat.le_of_ble_eq_true rfl) (o2_hasPhrase d hW hZ0 hZ1 h (fun hb => ⟨hb, hQ, rfl, rfl⟩))
theorem dX2_waysToFill_0 : decode cX2_waysToFill 0 = .ok (.aload_n 1, 1) := by decide +kernel
theorem dX2_waysToFill_1 : decode cX2_waysToFill 1 = .ok (.getfield 91, 3) := by decide +kernel
theorem dX2_waysToFill_4 : decode cX2_waysToFill 4 = .ok (.iload_n 2, 1) := by decide +kernel
theorem dX2_waysToFill_5 : decode cX2_waysToFill 5 = .ok (.aload_n 0, 1) := by decide +kernel
theorem dX2_waysToFill_6 : decode cX2_waysToFill 6 = .ok (.getfield 9, 3) := by decide +kernel
theorem dX2_waysToFill_9 : decode cX2_waysToFill 9 = .ok (.invokestatic 55, 3) := by decide +kernel
theorem dX2_waysToFill_12 : decode cX2_waysToFill 12 = .ok (.istore_n 3, 1) := by decide +kernel
theorem dX2_waysToFill_13 : decode cX2_waysToFill 13 = .ok (.aload_n 1, 1) := by decide +kernel
theorem dX2_waysToFill_14 : decode cX2_waysToFill 14 = .ok (.getfield 91, 3) := by decide +kernel
theorem dX2_waysToFill_17 : decode cX2_waysToFill 17 = .ok (.iload_n 2, 1) := by decide +kernel
theorem dX2_waysToFill_18 : decode cX2_waysToFill 18 = .ok (.invokevirtual 99, 3) := by decide +kernel
theorem dX2_waysToFill_21 : decode cX2_waysToFill 21 = .ok (.istore 4, 2) := by decide +kernel
theorem dX2_waysToFill_23 : decode cX2_waysToFill 23 = .ok (.iconst 1, 1) := by decide +kernel
theorem dX2_waysToFill_24 : decode cX2_waysToFill 24 = .ok (.istore 5, 2) := by decide +kernel
theorem dX2_waysToFill_26 : decode cX2_waysToFill 26 = .ok (.iconst 0, 1) := by decide +kernel
theorem dX2_waysToFill_27 : decode cX2_waysToFill 27 = .ok (.istore 6, 2) := by decide +kernel
theorem dX2_waysToFill_29 : decode cX2_waysToFill 29 = .ok (.iload 6, 2) := by decide +kernel
theorem dX2_waysToFill_31 : decode cX2_waysToFill 31 = .ok (.iload 4, 2) := by decide +kernel
theorem dX2_waysToFill_33 : decode cX2_waysToFill 33 = .ok (.invokestatic 102, 3) := by decide +kernel
theorem dX2_waysToFill_36 : decode cX2_waysToFill 36 = .ok (.if_icmp .ge 22, 3) := by decide +kernel
theorem dX2_waysToFill_39 : decode cX2_waysToFill 39 = .ok (.iload 6, 2) := by decide +kernel
theorem dX2_waysToFill_41 : decode cX2_waysToFill 41 = .ok (.iconst 4, 1) := by decide +kernel
theorem dX2_waysToFill_42 : decode cX2_waysToFill 42 = .ok (.if_icmp .ge 16, 3) := by decide +kernel
theorem dX2_waysToFill_45 : decode cX2_waysToFill 45 = .ok (.iload 5, 2) := by decide +kernel
theorem dX2_waysToFill_47 : decode cX2_waysToFill 47 = .ok (.bipush 6, 2) := by decide +kernel
theorem dX2_waysToFill_49 : decode cX2_waysToFill 49 = .ok (.imul, 1) := by decide +kernel
theorem dX2_waysToFill_50 : decode cX2_waysToFill 50 = .ok (.istore 5, 2) := by decide +kernel
theorem dX2_waysToFill_52 : decode cX2_waysToFill 52 = .ok (.iinc 6 1, 3) := by decide +kernel
theorem dX2_waysToFill_55 : decode cX2_waysToFill 55 = .ok (.goto (-26), 3) := by decide +kernel
theorem dX2_waysToFill_58 : decode cX2_waysToFill 58 = .ok (.lconst 0, 1) := by decide +kernel
theorem dX2_waysToFill_59 : decode cX2_waysToFill 59 = .ok (.lstore 6, 2) := by decide +kernel
theorem dX2_waysToFill_61 : decode cX2_waysToFill 61 = .ok (.iconst 0, 1) := by decide +kernel
theorem dX2_waysToFill_62 : decode cX2_waysToFill 62 = .ok (.istore 8, 2) := by decide +kernel
theorem dX2_waysToFill_64 : decode cX2_waysToFill 64 = .ok (.iload 8, 2) := by decide +kernel
theorem dX2_waysToFill_66 : decode cX2_waysToFill 66 = .ok (.iload 5, 2) := by decide +kernel
theorem dX2_waysToFill_68 : decode cX2_waysToFill 68 = .ok (.if_icmp .ge 32, 3) := by decide +kernel
theorem dX2_waysToFill_71 : decode cX2_waysToFill 71 = .ok (.aload_n 0, 1) := by decide +kernel
theorem dX2_waysToFill_72 : decode cX2_waysToFill 72 = .ok (.iload 4, 2) := by decide +kernel
theorem dX2_waysToFill_74 : decode cX2_waysToFill 74 = .ok (.iload 8, 2) := by decide +kernel
theorem dX2_waysToFill_76 : decode cX2_waysToFill 76 = .ok (.invokevirtual 107, 3) := by decide +kernel
theorem dX2_waysToFill_79 : decode cX2_waysToFill 79 = .ok (.aload_n 0, 1) := by decide +kernel
theorem dX2_waysToFill_80 : decode cX2_waysToFill 80 = .ok (.aload_n 1, 1) := by decide +kernel
theorem dX2_waysToFill_81 : decode cX2_waysToFill 81 = .ok (.iload_n 3, 1) := by decide +kernel
theorem dX2_waysToFill_82 : decode cX2_waysToFill 82 = .ok (.invokevirtual 110, 3) := by decide +kernel
theorem dX2_waysToFill_85 : decode cX2_waysToFill 85 = .ok (.ifCond .eq 9, 3) := by decide +kernel
theorem dX2_waysToFill_88 : decode cX2_waysToFill 88 = .ok (.lload 6, 2) := by decide +kernel
theorem dX2_waysToFill_90 : decode cX2_waysToFill 90 = .ok (.lconst 1, 1) := by decide +kernel
theorem dX2_waysToFill_91 : decode cX2_waysToFill 91 = .ok (.ladd, 1) := by decide +kernel
theorem dX2_waysToFill_92 : decode cX2_waysToFill 92 = .ok (.lstore 6, 2) := by decide +kernel
theorem dX2_waysToFill_94 : decode cX2_waysToFill 94 = .ok (.iinc 8 1, 3) := by decide +kernel
theorem dX2_waysToFill_97 : decode cX2_waysToFill 97 = .ok (.goto (-33), 3) := by decide +kernel
theorem dX2_waysToFill_100 : decode cX2_waysToFill 100 = .ok (.lload 6, 2) := by decide +kernel
theorem dX2_waysToFill_102 : decode cX2_waysToFill 102 = .ok (.lreturn, 1) := by decide +kernel
def m2_waysToFill : pMT := (yX2_waysToFill, cX2_waysToFill, 9, some .long)
theorem mo2_waysToFill : mOK m2_waysToFill 2 := ⟨tb_i 1147 (by decide +kernel), wi_RX2, ⟨wn_RX2.1, wn_RX2.2, by decide +kernel⟩, by decide, plainFor_of_name wp_RX2⟩
theorem mv2_waysToFill : mV m2_waysToFill := ⟨tb_i 1145 (by decide +kernel), tb_i 1146 (by decide +kernel)⟩
def f2_waysToFill_c64 (n : Nat) (O : (Nat → Nat → Option Nat)) : Nat → (Nat → Nat → Int32) → Nat → Nat → Int32 → Int32 → Int32 → Int64 → Int32 → Option (Int64 × (Nat → Nat → Int32))
  | 0, _, _, _, _, _, _, _, _ => none
  | m + 1, I, b0, b1, y3, y4, y5, y6, y8 => (if y5 ≤ y8 then some (y6, I) else (f2_fill n I O b0 y4 y8).bind fun r2 => (f2_hasPhrase n r2 O b0 b1 y3).bind fun r4 => (if r4 = 0 then f2_waysToFill_c64 n O m r2 b0 b1 y3 y4 y5 y6 (y8 + 1) else f2_waysToFill_c64 n O m r2 b0 b1 y3 y4 y5 (y6 + 1) (y8 + 1)))
set_option maxHeartbeats 4000000 in
set_option maxRecDepth 20000 in
theorem o2_waysToFill_c64 {g : pG} {Qx : Option Value → pW → Prop} {Z : pZ} {L : (Nat → Nat → Int64)} {O : (Nat → Nat → Option Nat)} {n : Nat} {res : Int64 × (Nat → Nat → Int32)} (d : Nat) (hW : WT Z O) (hQ : Qx (some (.long res.1)) (Z, res.2, L, O)) : ∀ (m : Nat) (I : (Nat → Nat → Int32)) (b0 : Nat) (b1 : Nat) (y3 : Int32) (y4 : Int32) (y5 : Int32) (y6 : Int64) (y8 : Int32), (Z[b0]? = some (2, 10)) → (Z[b1]? = some (9, 10)) → f2_waysToFill_c64 n O m I b0 b1 y3 y4 y5 y6 y8 = some res → Ok g (d + 5, RX2, cX2_waysToFill, 9, false, 0, 0, Z.length, pSl Z) Qx 64 [(0, .ref b0), (1, .ref b1), (3, .int y3), (4, .int y4), (5, .int y5), (6, .long y6), (8, .int y8)] [] (Z, I, L, O) := by
  intro m
  induction m with
  | zero => intro I b0 b1 y3 y4 y5 y6 y8 hZ_b0 hZ_b1 h; rw [f2_waysToFill_c64] at h; cases h
  | succ m ih =>
    intro I b0 b1 y3 y4 y5 y6 y8 hZ_b0 hZ_b1 h
    rw [f2_waysToFill_c64] at h
    refine ok_iload dX2_waysToFill_64 6 rfl ?_
    refine ok_iload dX2_waysToFill_66 4 rfl ?_
    refine ok_icmp_ge (t := 100) dX2_waysToFill_68 (by decide) (fun hc1 => ?_) (fun hc1 => ?_)
    · have h := (if_pos hc1).symm.trans h
      refine ok_lload dX2_waysToFill_100 5 rfl ?_
      cases h
      exact ok_lret dX2_waysToFill_102 hQ
    · have h := (if_neg hc1).symm.trans h
      refine ok_aload_n dX2_waysToFill_71 0 rfl ?_
      refine ok_iload dX2_waysToFill_72 3 rfl ?_
      refine ok_iload dX2_waysToFill_74 6 rfl ?_
      obtain ⟨r2, hr3, h⟩ := bd h
      refine ok_callV (d := ((d + 2) + 2)) (mt := m2_fill) (mc := 0) (ms := 0) (As := [.int y4, .int y8]) (r := []) dX2_waysToFill_76 mo2_fill mv2_fill lkRX2_107 rfl hZ_b0 (q := (RX2, TX2, 10)) rfl rfl rfl (Nat.le_of_ble_eq_true rfl) (by show _ + 1 ≤ d + _; omega) (Nat.le_refl _) (Nat.le_refl _) (pRt_mono ?_)
      refine k2_fill (d + 2) hW hZ_b0 hr3 ?_
      intro _
      show Ok g _ Qx 79 [(0, .ref b0), (1, .ref b1), (3, .int y3), (4, .int y4), (5, .int y5), (6, .long y6), (8, .int y8)] [] (Z, r2, L, O)
      refine ok_aload_n dX2_waysToFill_79 0 rfl ?_
      refine ok_aload_n dX2_waysToFill_80 1 rfl ?_
      refine ok_iload_n dX2_waysToFill_81 2 rfl ?_
      obtain ⟨r4, hr5, h⟩ := bd h
      refine ok_callV (d := ((d + 2) + 2)) (mt := m2_hasPhrase) (mc := 0) (ms := 0) (As := [.ref b1, .int y3]) (r := []) dX2_waysToFill_82 mo2_hasPhrase mv2_hasPhrase lkRX2_110 rfl hZ_b0 (q := (RX2, TX2, 10)) rfl rfl rfl (Nat.le_of_ble_eq_true rfl) (by show _ + 1 ≤ d + _; omega) (Nat.le_refl _) (Nat.le_refl _) (pRt_mono ?_)
      refine k2_hasPhrase (d + 2) hW hZ_b0 hZ_b1 hr5 ?_
      intro hbr4
      show Ok g _ Qx 85 [(0, .ref b0), (1, .ref b1), (3, .int y3), (4, .int y4), (5, .int y5), (6, .long y6), (8, .int y8)] [.int r4] (Z, r2, L, O)
      refine ok_if_eq (t := 94) dX2_waysToFill_85 (by decide) (fun hc6 => ?_) (fun hc6 => ?_)
      · have h := (if_pos hc6).symm.trans h
        refine ok_iinc (u := (y8 + 1)) (l' := [(8, .int (y8 + 1)), (0, .ref b0), (1, .ref b1), (3, .int y3), (4, .int y4), (5, .int y5), (6, .long y6)]) dX2_waysToFill_94 6 rfl rfl (Nat.le_of_ble_eq_true rfl) rfl ?_
        refine ok_goto (t := 64) dX2_waysToFill_97 (by decide) ?_
        refine ok_sub [1, 2, 3, 4, 5, 6, 0] rfl ?_
        exact ih r2 b0 b1 y3 y4 y5 y6 (y8 + 1) hZ_b0 hZ_b1 h
      · have h := (if_neg hc6).symm.trans h
        refine ok_lload dX2_waysToFill_88 5 rfl ?_
        refine ok_lconst (v := 1) dX2_waysToFill_90 (by decide) ?_
        refine ok_ladd dX2_waysToFill_91 ?_
        refine ok_lstore (l' := [(6, .long (y6 + 1)), (0, .ref b0), (1, .ref b1), (3, .int y3), (4, .int y4), (5, .int y5), (8, .int y8)]) dX2_waysToFill_92 (Nat.le_of_ble_eq_true rfl) rfl ?_
        refine ok_iinc (u := (y8 + 1)) (l' := [(8, .int (y8 + 1)), (6, .long (y6 + 1)), (0, .ref b0), (1, .ref b1), (3, .int y3), (4, .int y4), (5, .int y5)]) dX2_waysToFill_94 6 rfl rfl (Nat.le_of_ble_eq_true rfl) rfl ?_
        refine ok_goto (t := 64) dX2_waysToFill_97 (by decide) ?_
        refine ok_sub [2, 3, 4, 5, 6, 1, 0] rfl ?_
        exact ih r2 b0 b1 y3 y4 y5 (y6 + 1) (y8 + 1) hZ_b0 hZ_b1 h
def f2_waysToFill_c29 (n : Nat) (O : (Nat → Nat → Option Nat)) : Nat → (Nat → Nat → Int32) → Nat → Nat → Int32 → Int32 → Int32 → Int32 → Option (Int64 × (Nat → Nat → Int32))
  | 0, _, _, _, _, _, _, _ => none
  | m + 1, I, b0, b1, y3, y4, y5, y6 => (fJ6_bitCount_0f7a4 y4).bind fun r1 => (if r1 ≤ y6 then f2_waysToFill_c64 n O n I b0 b1 y3 y4 y5 (0 : Int64) (0 : Int32) else (if (4 : Int32) ≤ y6 then f2_waysToFill_c64 n O n I b0 b1 y3 y4 y5 (0 : Int64) (0 : Int32) else f2_waysToFill_c29 n O m I b0 b1 y3 y4 (y5 * 6) (y6 + 1)))
set_option maxHeartbeats 4000000 in
set_option maxRecDepth 20000 in
theorem o2_waysToFill_c29 {g : pG} {Qx : Option Value → pW → Prop} {Z : pZ} {L : (Nat → Nat → Int64)} {O : (Nat → Nat → Option Nat)} {n : Nat} {res : Int64 × (Nat → Nat → Int32)} (d : Nat) (hW : WT Z O) (hQ : Qx (some (.long res.1)) (Z, res.2, L, O)) : ∀ (m : Nat) (I : (Nat → Nat → Int32)) (b0 : Nat) (b1 : Nat) (y3 : Int32) (y4 : Int32) (y5 : Int32) (y6 : Int32), (Z[b0]? = some (2, 10)) → (Z[b1]? = some (9, 10)) → f2_waysToFill_c29 n O m I b0 b1 y3 y4 y5 y6 = some res → Ok g (d + 5, RX2, cX2_waysToFill, 9, false, 0, 0, Z.length, pSl Z) Qx 29 [(0, .ref b0), (1, .ref b1), (3, .int y3), (4, .int y4), (5, .int y5), (6, .int y6)] [] (Z, I, L, O) := by
  intro m
  induction m with
  | zero => intro I b0 b1 y3 y4 y5 y6 hZ_b0 hZ_b1 h; rw [f2_waysToFill_c29] at h; cases h
  | succ m ih =>
    intro I b0 b1 y3 y4 y5 y6 hZ_b0 hZ_b1 h
    rw [f2_waysToFill_c29] at h
    refine ok_iload dX2_waysToFill_29 5 rfl ?_
    refine ok_iload dX2_waysToFill_31 3 rfl ?_
    obtain ⟨r1, hr2, h⟩ := bd h
    refine ok_callS (d := ((d + 2) + 2)) (mt := mJ6_bitCount_0f7a4) (mc := 0) (ms := 0) (As := [.int y4]) (r := [.int y6]) dX2_waysToFill_33 moJ6_bitCount_0f7a4 mvJ6_bitCount_0f7a4 lkRX2_102 rfl rfl (Nat.le_of_ble_eq_true rfl) (by show _ + 1 ≤ d + _; omega) (Nat.le_refl _) (Nat.le_refl _) (pRt_mono ?_)
    refine kJ6_bitCount_0f7a4 (d + 2) hW  hr2 ?_
    intro _
    show Ok g _ Qx 36 [(0, .ref b0), (1, .ref b1), (3, .int y3), (4, .int y4), (5, .int y5), (6, .int y6)] [.int r1, .int y6] (Z, I, L, O)
    refine ok_icmp_ge (t := 58) dX2_waysToFill_36 (by decide) (fun hc3 => ?_) (fun hc3 => ?_)
    · have h := (if_pos hc3).symm.trans h
      refine ok_lconst (v := 0) dX2_waysToFill_58 (by decide) ?_
      refine ok_lstore (l' := [(6, .long 0), (0, .ref b0), (1, .ref b1), (3, .int y3), (4, .int y4), (5, .int y5)]) dX2_waysToFill_59 (Nat.le_of_ble_eq_true rfl) rfl ?_
      refine ok_iconst (v := 0) dX2_waysToFill_61 (by decide) ?_
      refine ok_istore (l' := [(8, .int 0), (6, .long 0), (0, .ref b0), (1, .ref b1), (3, .int y3), (4, .int y4), (5, .int y5)]) dX2_waysToFill_62 (Nat.le_of_ble_eq_true rfl) rfl ?_
      refine ok_sub [2, 3, 4, 5, 6, 1, 0] rfl ?_
      exact o2_waysToFill_c64 d hW hQ  n I b0 b1 y3 y4 y5 (0 : Int64) (0 : Int32) hZ_b0 hZ_b1 h
    · have h := (if_neg hc3).symm.trans h
      refine ok_iload dX2_waysToFill_39 5 rfl ?_
      refine ok_iconst (v := 4) dX2_waysToFill_41 (by decide) ?_
      refine ok_icmp_ge (t := 58) dX2_waysToFill_42 (by decide) (fun hc4 => ?_) (fun hc4 => ?_)
      · have h := (if_pos hc4).symm.trans h
        refine ok_lconst (v := 0) dX2_waysToFill_58 (by decide) ?_
        refine ok_lstore (l' := [(6, .long 0), (0, .ref b0), (1, .ref b1), (3, .int y3), (4, .int y4), (5, .int y5)]) dX2_waysToFill_59 (Nat.le_of_ble_eq_true rfl) rfl ?_
        refine ok_iconst (v := 0) dX2_waysToFill_61 (by decide) ?_
        refine ok_istore (l' := [(8, .int 0), (6, .long 0), (0, .ref b0), (1, .ref b1), (3, .int y3), (4, .int y4), (5, .int y5)]) dX2_waysToFill_62 (Nat.le_of_ble_eq_true rfl) rfl ?_
        refine ok_sub [2, 3, 4, 5, 6, 1, 0] rfl ?_
        exact o2_waysToFill_c64 d hW hQ  n I b0 b1 y3 y4 y5 (0 : Int64) (0 : Int32) hZ_b0 hZ_b1 h
      · have h := (if_neg hc4).symm.trans h
        refine ok_iload dX2_waysToFill_45 4 rfl ?_
        refine ok_bipush (v := 6) dX2_waysToFill_47 (by decide) ?_
        refine ok_imul dX2_waysToFill_49 ?_
        refine ok_istore (l' := [(5, .int (y5 * 6)), (0, .ref b0), (1, .ref b1), (3, .int y3), (4, .int y4), (6, .int y6)]) dX2_waysToFill_50 (Nat.le_of_ble_eq_true rfl) rfl ?_
        refine ok_iinc (u := (y6 + 1)) (l' := [(6, .int (y6 + 1)), (5, .int (y5 * 6)), (0, .ref b0), (1, .ref b1), (3, .int y3), (4, .int y4)]) dX2_waysToFill_52 5 rfl rfl (Nat.le_of_ble_eq_true rfl) rfl ?_
        refine ok_goto (t := 29) dX2_waysToFill_55 (by decide) ?_
        refine ok_sub [2, 3, 4, 5, 1, 0] rfl ?_
        exact ih I b0 b1 y3 y4 (y5 * 6) (y6 + 1) hZ_b0 hZ_b1 h
def f2_waysToFill (n : Nat) (I : (Nat → Nat → Int32)) (O : (Nat → Nat → Option Nat)) (a0 : Nat) (a1 : Nat) (x2 : Int32) : Option (Int64 × (Nat → Nat → Int32)) := (f2_lay n I O (rO O a1 0) x2 (rO O a0 0)).bind fun r3 => (f10_tornPlaces n r3.2 O (rO O a1 0) x2).bind fun r5 => f2_waysToFill_c29 n O n r3.2 a0 a1 r3.1 r5 (1 : Int32) (0 : Int32)
set_option maxHeartbeats 4000000 in
set_option maxRecDepth 20000 in
theorem o2_waysToFill {g : pG} {Qx : Option Value → pW → Prop} {Z : pZ} {I : (Nat → Nat → Int32)} {L : (Nat → Nat → Int64)} {O : (Nat → Nat → Option Nat)} {n : Nat} {a0 : Nat} {a1 : Nat} {x2 : Int32} {res : Int64 × (Nat → Nat → Int32)} (d : Nat) (hW : WT Z O) (hZ0 : Z[a0]? = some (2, 10)) (hZ1 : Z[a1]? = some (9, 10)) (h : f2_waysToFill n I O a0 a1 x2 = some res) (hQ : Qx (some (.long res.1)) (Z, res.2, L, O)) : Ok g (d + 5, RX2, cX2_waysToFill, 9, false, 0, 0, Z.length, pSl Z) Qx 0 [(0, .ref a0), (1, .ref a1), (2, .int x2)] [] (Z, I, L, O) := by
  unfold f2_waysToFill at h
  refine ok_aload_n dX2_waysToFill_0 1 rfl ?_
  have hT1 : Z[(rO O a1 0)]? = some (10, 5) := (wt_f (ci := 9) (k := 0) hW hZ1 rfl).2
  refine ok_getR (ci := 9) (k := 0) dX2_waysToFill_1 flRX2_91 rfl hW hZ1 (by decide) ?_
  refine ok_iload_n dX2_waysToFill_4 2 rfl ?_
  refine ok_aload_n dX2_waysToFill_5 0 rfl ?_
  have hT2 : Z[(rO O a0 0)]? = some (13, 16) := (wt_f (ci := 2) (k := 0) hW hZ0 rfl).2
  refine ok_getR (ci := 2) (k := 0) dX2_waysToFill_6 flRX2_9 rfl hW hZ0 (by decide) ?_
  obtain ⟨r3, hr4, h⟩ := bd h
  refine ok_callS (d := ((d + 0) + 4)) (mt := m2_lay) (mc := 0) (ms := 0) (As := [.ref (rO O a1 0), .int x2, .ref (rO O a0 0)]) (r := []) dX2_waysToFill_9 mo2_lay mv2_lay lkRX2_55 rfl rfl (Nat.le_of_ble_eq_true rfl) (by show _ + 1 ≤ d + _; omega) (Nat.le_refl _) (Nat.le_refl _) (pRt_mono ?_)
  refine k2_lay (d + 0) hW hT1 hT2 hr4 ?_
  intro _
  show Ok g _ Qx 12 [(0, .ref a0), (1, .ref a1), (2, .int x2)] [.int r3.1] (Z, r3.2, L, O)
  refine ok_istore_n (l' := [(3, .int r3.1), (0, .ref a0), (1, .ref a1), (2, .int x2)]) dX2_waysToFill_12 rfl (Nat.le_of_ble_eq_true rfl) rfl ?_
  refine ok_aload_n dX2_waysToFill_13 2 rfl ?_
  refine ok_getR (ci := 9) (k := 0) dX2_waysToFill_14 flRX2_91 rfl hW hZ1 (by decide) ?_
  refine ok_iload_n dX2_waysToFill_17 3 rfl ?_
  obtain ⟨r5, hr6, h⟩ := bd h
  refine ok_callV (d := ((d + 0) + 4)) (mt := m10_tornPlaces) (mc := 0) (ms := 0) (As := [.int x2]) (r := []) dX2_waysToFill_18 mo10_tornPlaces mv10_tornPlaces lkRX2_99 rfl hT1 (q := (RX10, TX10, 5)) rfl rfl rfl (Nat.le_of_ble_eq_true rfl) (by show _ + 1 ≤ d + _; omega) (Nat.le_refl _) (Nat.le_refl _) (pRt_mono ?_)
  refine k10_tornPlaces (d + 0) hW hT1 hr6 ?_
  intro _
  show Ok g _ Qx 21 [(3, .int r3.1), (0, .ref a0), (1, .ref a1), (2, .int x2)] [.int r5] (Z, r3.2, L, O)
  refine ok_istore (l' := [(4, .int r5), (3, .int r3.1), (0, .ref a0), (1, .ref a1), (2, .int x2)]) dX2_waysToFill_21 (Nat.le_of_ble_eq_true rfl) rfl ?_
  refine ok_iconst (v := 1) dX2_waysToFill_23 (by decide) ?_
  refine ok_istore (l' := [(5, .int 1), (4, .int r5), (3, .int r3.1), (0, .ref a0), (1, .ref a1), (2, .int x2)]) dX2_waysToFill_24 (Nat.le_of_ble_eq_true rfl) rfl ?_
  refine ok_iconst (v := 0) dX2_waysToFill_26 (by decide) ?_
  refine ok_istore (l' := [(6, .int 0), (5, .int 1), (4, .int r5), (3, .int r3.1), (0, .ref a0), (1, .ref a1), (2, .int x2)]) dX2_waysToFill_27 (Nat.le_of_ble_eq_true rfl) rfl ?_
  refine ok_sub [4, 5, 3, 2, 1, 0] rfl ?_
  exact o2_waysToFill_c29 d hW hQ  n r3.2 a0 a1 r3.1 r5 (1 : Int32) (0 : Int32) hZ0 hZ1 h
theorem k2_waysToFill {g : pG} {Q : Option Value → pW → Prop} {Z : pZ} {I : (Nat → Nat → Int32)} {L : (Nat → Nat → Int64)} {O : (Nat → Nat → Option Nat)} {n : Nat} {a0 : Nat} {a1 : Nat} {x2 : Int32} {res : Int64 × (Nat → Nat → Int32)} (d : Nat) (hW : WT Z O) (hZ0 : Z[a0]? = some (2, 10)) (hZ1 : Z[a1]? = some (9, 10)) (h : f2_waysToFill n I O a0 a1 x2 = some res) (hQ : Q (some (.long res.1)) (Z, res.2, L, O)) : CT g (d + 5) m2_waysToFill 0 0 [.ref a0, .ref a1, .int x2] (Z, I, L, O) Q :=
  ct_of_ok (mt := m2_waysToFill) (ini := false) mo2_waysToFill.2.2.2.2 (fun h => by cases h) (Nat.le_of_ble_eq_true rfl) (o2_waysToFill d hW hZ0 hZ1 h ⟨trivial, hQ, rfl, rfl⟩)
theorem dX2_sameFrom_0 : decode cX2_sameFrom 0 = .ok (.iconst 0, 1) := by decide +kernel
theorem dX2_sameFrom_1 : decode cX2_sameFrom 1 = .ok (.istore 4, 2) := by decide +kernel
theorem dX2_sameFrom_3 : decode cX2_sameFrom 3 = .ok (.iload_n 2, 1) := by decide +kernel
theorem dX2_sameFrom_4 : decode cX2_sameFrom 4 = .ok (.iload 4, 2) := by decide +kernel
theorem dX2_sameFrom_6 : decode cX2_sameFrom 6 = .ok (.iadd, 1) := by decide +kernel
theorem dX2_sameFrom_7 : decode cX2_sameFrom 7 = .ok (.iload_n 3, 1) := by decide +kernel
theorem dX2_sameFrom_8 : decode cX2_sameFrom 8 = .ok (.if_icmp .ge 42, 3) := by decide +kernel
theorem dX2_sameFrom_11 : decode cX2_sameFrom 11 = .ok (.iload_n 2, 1) := by decide +kernel
theorem dX2_sameFrom_12 : decode cX2_sameFrom 12 = .ok (.iload 4, 2) := by decide +kernel
theorem dX2_sameFrom_14 : decode cX2_sameFrom 14 = .ok (.iadd, 1) := by decide +kernel
theorem dX2_sameFrom_15 : decode cX2_sameFrom 15 = .ok (.bipush 16, 2) := by decide +kernel
theorem dX2_sameFrom_17 : decode cX2_sameFrom 17 = .ok (.if_icmp .ge 33, 3) := by decide +kernel
theorem dX2_sameFrom_20 : decode cX2_sameFrom 20 = .ok (.aload_n 0, 1) := by decide +kernel
theorem dX2_sameFrom_21 : decode cX2_sameFrom 21 = .ok (.getfield 9, 3) := by decide +kernel
theorem dX2_sameFrom_24 : decode cX2_sameFrom 24 = .ok (.iload_n 1, 1) := by decide +kernel
theorem dX2_sameFrom_25 : decode cX2_sameFrom 25 = .ok (.iload 4, 2) := by decide +kernel
theorem dX2_sameFrom_27 : decode cX2_sameFrom 27 = .ok (.iadd, 1) := by decide +kernel
theorem dX2_sameFrom_28 : decode cX2_sameFrom 28 = .ok (.iaload, 1) := by decide +kernel
theorem dX2_sameFrom_29 : decode cX2_sameFrom 29 = .ok (.aload_n 0, 1) := by decide +kernel
theorem dX2_sameFrom_30 : decode cX2_sameFrom 30 = .ok (.getfield 9, 3) := by decide +kernel
theorem dX2_sameFrom_33 : decode cX2_sameFrom 33 = .ok (.iload_n 2, 1) := by decide +kernel
theorem dX2_sameFrom_34 : decode cX2_sameFrom 34 = .ok (.iload 4, 2) := by decide +kernel
theorem dX2_sameFrom_36 : decode cX2_sameFrom 36 = .ok (.iadd, 1) := by decide +kernel
theorem dX2_sameFrom_37 : decode cX2_sameFrom 37 = .ok (.iaload, 1) := by decide +kernel
theorem dX2_sameFrom_38 : decode cX2_sameFrom 38 = .ok (.invokestatic 52, 3) := by decide +kernel
theorem dX2_sameFrom_41 : decode cX2_sameFrom 41 = .ok (.ifCond .eq 9, 3) := by decide +kernel
theorem dX2_sameFrom_44 : decode cX2_sameFrom 44 = .ok (.iinc 4 1, 3) := by decide +kernel
theorem dX2_sameFrom_47 : decode cX2_sameFrom 47 = .ok (.goto (-44), 3) := by decide +kernel
theorem dX2_sameFrom_50 : decode cX2_sameFrom 50 = .ok (.iload 4, 2) := by decide +kernel
theorem dX2_sameFrom_52 : decode cX2_sameFrom 52 = .ok (.ireturn, 1) := by decide +kernel
def m2_sameFrom : pMT := (yX2_sameFrom, cX2_sameFrom, 5, some .int)
theorem mo2_sameFrom : mOK m2_sameFrom 3 := ⟨tb_i 1079 (by decide +kernel), wi_RX2, ⟨wn_RX2.1, wn_RX2.2, by decide +kernel⟩, by decide, plainFor_of_name wp_RX2⟩
theorem mv2_sameFrom : mV m2_sameFrom := ⟨tb_i 1078 (by decide +kernel), tb_p 44 (by decide +kernel)⟩
def f2_sameFrom_c3 (n : Nat) (I : (Nat → Nat → Int32)) (O : (Nat → Nat → Option Nat)) : Nat → Nat → Int32 → Int32 → Int32 → Int32 → Option (Int32)
  | 0, _, _, _, _, _ => none
  | m + 1, b0, y1, y2, y3, y4 => (if y3 ≤ (y2 + y4) then some (y4) else (if (16 : Int32) ≤ (y2 + y4) then some (y4) else (if (y1 + y4) < 0 ∨ 16 ≤ (y1 + y4).toNatClampNeg then none else (if (y2 + y4) < 0 ∨ 16 ≤ (y2 + y4).toNatClampNeg then none else (f2_isSame (I (rO O b0 0) (y1 + y4).toNatClampNeg) (I (rO O b0 0) (y2 + y4).toNatClampNeg)).bind fun r6 => (if r6 = 0 then some (y4) else f2_sameFrom_c3 n I O m b0 y1 y2 y3 (y4 + 1))))))
set_option maxHeartbeats 4000000 in
set_option maxRecDepth 20000 in
theorem o2_sameFrom_c3 {g : pG} {Qx : Option Value → pW → Prop} {Z : pZ} {I : (Nat → Nat → Int32)} {L : (Nat → Nat → Int64)} {O : (Nat → Nat → Option Nat)} {n : Nat} {res : Int32} (d : Nat) (hW : WT Z O) (hQ : Qx (some (.int res)) (Z, I, L, O)) : ∀ (m : Nat) (b0 : Nat) (y1 : Int32) (y2 : Int32) (y3 : Int32) (y4 : Int32), (Z[b0]? = some (2, 10)) → f2_sameFrom_c3 n I O m b0 y1 y2 y3 y4 = some res → Ok g (d + 3, RX2, cX2_sameFrom, 5, false, 0, 0, Z.length, pSl Z) Qx 3 [(0, .ref b0), (1, .int y1), (2, .int y2), (3, .int y3), (4, .int y4)] [] (Z, I, L, O) := by
  intro m
  induction m with
  | zero => intro b0 y1 y2 y3 y4 hZ_b0 h; rw [f2_sameFrom_c3] at h; cases h
  | succ m ih =>
    intro b0 y1 y2 y3 y4 hZ_b0 h
    rw [f2_sameFrom_c3] at h
    refine ok_iload_n dX2_sameFrom_3 2 rfl ?_
    refine ok_iload dX2_sameFrom_4 4 rfl ?_
    refine ok_iadd dX2_sameFrom_6 ?_
    refine ok_iload_n dX2_sameFrom_7 3 rfl ?_
    refine ok_icmp_ge (t := 50) dX2_sameFrom_8 (by decide) (fun hc1 => ?_) (fun hc1 => ?_)
    · have h := (if_pos hc1).symm.trans h
      refine ok_iload dX2_sameFrom_50 4 rfl ?_
      cases h
      exact ok_iret dX2_sameFrom_52 hQ
    · have h := (if_neg hc1).symm.trans h
      refine ok_iload_n dX2_sameFrom_11 2 rfl ?_
      refine ok_iload dX2_sameFrom_12 4 rfl ?_
      refine ok_iadd dX2_sameFrom_14 ?_
      refine ok_bipush (v := 16) dX2_sameFrom_15 (by decide) ?_
      refine ok_icmp_ge (t := 50) dX2_sameFrom_17 (by decide) (fun hc2 => ?_) (fun hc2 => ?_)
      · have h := (if_pos hc2).symm.trans h
        refine ok_iload dX2_sameFrom_50 4 rfl ?_
        cases h
        exact ok_iret dX2_sameFrom_52 hQ
      · have h := (if_neg hc2).symm.trans h
        refine ok_aload_n dX2_sameFrom_20 0 rfl ?_
        have hT3 : Z[(rO O b0 0)]? = some (13, 16) := (wt_f (ci := 2) (k := 0) hW hZ_b0 rfl).2
        refine ok_getR (ci := 2) (k := 0) dX2_sameFrom_21 flRX2_9 rfl hW hZ_b0 (by decide) ?_
        refine ok_iload_n dX2_sameFrom_24 1 rfl ?_
        refine ok_iload dX2_sameFrom_25 4 rfl ?_
        refine ok_iadd dX2_sameFrom_27 ?_
        obtain ⟨hg4, h⟩ := gd h
        refine ok_iald2 (N := (y1 + y4).toNatClampNeg) dX2_sameFrom_28 hT3 hg4 rfl ?_
        refine ok_aload_n dX2_sameFrom_29 0 rfl ?_
        refine ok_getR (ci := 2) (k := 0) dX2_sameFrom_30 flRX2_9 rfl hW hZ_b0 (by decide) ?_
        refine ok_iload_n dX2_sameFrom_33 2 rfl ?_
        refine ok_iload dX2_sameFrom_34 4 rfl ?_
        refine ok_iadd dX2_sameFrom_36 ?_
        obtain ⟨hg5, h⟩ := gd h
        refine ok_iald2 (N := (y2 + y4).toNatClampNeg) dX2_sameFrom_37 hT3 hg5 rfl ?_
        obtain ⟨r6, hr7, h⟩ := bd h
        refine ok_callS (d := ((d + 0) + 2)) (mt := m2_isSame) (mc := 0) (ms := 0) (As := [.int (I (rO O b0 0) (y1 + y4).toNatClampNeg), .int (I (rO O b0 0) (y2 + y4).toNatClampNeg)]) (r := []) dX2_sameFrom_38 mo2_isSame mv2_isSame lkRX2_52 rfl rfl (Nat.le_of_ble_eq_true rfl) (by show _ + 1 ≤ d + _; omega) (Nat.le_refl _) (Nat.le_refl _) (pRt_mono ?_)
        refine k2_isSame (d + 0) hW  hr7 ?_
        intro hbr6
        show Ok g _ Qx 41 [(0, .ref b0), (1, .int y1), (2, .int y2), (3, .int y3), (4, .int y4)] [.int r6] (Z, I, L, O)
        refine ok_if_eq (t := 50) dX2_sameFrom_41 (by decide) (fun hc8 => ?_) (fun hc8 => ?_)
        · have h := (if_pos hc8).symm.trans h
          refine ok_iload dX2_sameFrom_50 4 rfl ?_
          cases h
          exact ok_iret dX2_sameFrom_52 hQ
        · have h := (if_neg hc8).symm.trans h
          refine ok_iinc (u := (y4 + 1)) (l' := [(4, .int (y4 + 1)), (0, .ref b0), (1, .int y1), (2, .int y2), (3, .int y3)]) dX2_sameFrom_44 4 rfl rfl (Nat.le_of_ble_eq_true rfl) rfl ?_
          refine ok_goto (t := 3) dX2_sameFrom_47 (by decide) ?_
          refine ok_sub [1, 2, 3, 4, 0] rfl ?_
          exact ih b0 y1 y2 y3 (y4 + 1) hZ_b0 h
def f2_sameFrom (n : Nat) (I : (Nat → Nat → Int32)) (O : (Nat → Nat → Option Nat)) (a0 : Nat) (x1 : Int32) (x2 : Int32) (x3 : Int32) : Option (Int32) := f2_sameFrom_c3 n I O n a0 x1 x2 x3 (0 : Int32)
set_option maxHeartbeats 4000000 in
set_option maxRecDepth 20000 in
theorem o2_sameFrom {g : pG} {Qx : Option Value → pW → Prop} {Z : pZ} {I : (Nat → Nat → Int32)} {L : (Nat → Nat → Int64)} {O : (Nat → Nat → Option Nat)} {n : Nat} {a0 : Nat} {x1 : Int32} {x2 : Int32} {x3 : Int32} {res : Int32} (d : Nat) (hW : WT Z O) (hZ0 : Z[a0]? = some (2, 10)) (h : f2_sameFrom n I O a0 x1 x2 x3 = some res) (hQ : Qx (some (.int res)) (Z, I, L, O)) : Ok g (d + 3, RX2, cX2_sameFrom, 5, false, 0, 0, Z.length, pSl Z) Qx 0 [(0, .ref a0), (1, .int x1), (2, .int x2), (3, .int x3)] [] (Z, I, L, O) := by
  unfold f2_sameFrom at h
  refine ok_iconst (v := 0) dX2_sameFrom_0 (by decide) ?_
  refine ok_istore (l' := [(4, .int 0), (0, .ref a0), (1, .int x1), (2, .int x2), (3, .int x3)]) dX2_sameFrom_1 (Nat.le_of_ble_eq_true rfl) rfl ?_
  refine ok_sub [1, 2, 3, 4, 0] rfl ?_
  exact o2_sameFrom_c3 d hW hQ  n a0 x1 x2 x3 (0 : Int32) hZ0 h
theorem k2_sameFrom {g : pG} {Q : Option Value → pW → Prop} {Z : pZ} {I : (Nat → Nat → Int32)} {L : (Nat → Nat → Int64)} {O : (Nat → Nat → Option Nat)} {n : Nat} {a0 : Nat} {x1 : Int32} {x2 : Int32} {x3 : Int32} {res : Int32} (d : Nat) (hW : WT Z O) (hZ0 : Z[a0]? = some (2, 10)) (h : f2_sameFrom n I O a0 x1 x2 x3 = some res) (hQ : Q (some (.int res)) (Z, I, L, O)) : CT g (d + 3) m2_sameFrom 0 0 [.ref a0, .int x1, .int x2, .int x3] (Z, I, L, O) Q :=
  ct_of_ok (mt := m2_sameFrom) (ini := false) mo2_sameFrom.2.2.2.2 (fun h => by cases h) (Nat.le_of_ble_eq_true rfl) (o2_sameFrom d hW hZ0 h ⟨trivial, hQ, rfl, rfl⟩)
theorem dX2_findMotif_0 : decode cX2_findMotif 0 = .ok (.aload_n 1, 1) := by decide +kernel
theorem dX2_findMotif_1 : decode cX2_findMotif 1 = .ok (.iload_n 2, 1) := by decide +kernel
theorem dX2_findMotif_2 : decode cX2_findMotif 2 = .ok (.aload_n 0, 1) := by decide +kernel
theorem dX2_findMotif_3 : decode cX2_findMotif 3 = .ok (.getfield 9, 3) := by decide +kernel
theorem dX2_findMotif_6 : decode cX2_findMotif 6 = .ok (.invokestatic 55, 3) := by decide +kernel
theorem dX2_findMotif_9 : decode cX2_findMotif 9 = .ok (.istore_n 3, 1) := by decide +kernel
theorem dX2_findMotif_10 : decode cX2_findMotif 10 = .ok (.aload_n 0, 1) := by decide +kernel
theorem dX2_findMotif_11 : decode cX2_findMotif 11 = .ok (.iconst (-1), 1) := by decide +kernel
theorem dX2_findMotif_12 : decode cX2_findMotif 12 = .ok (.putfield 114, 3) := by decide +kernel
theorem dX2_findMotif_15 : decode cX2_findMotif 15 = .ok (.aload_n 0, 1) := by decide +kernel
theorem dX2_findMotif_16 : decode cX2_findMotif 16 = .ok (.iconst 0, 1) := by decide +kernel
theorem dX2_findMotif_17 : decode cX2_findMotif 17 = .ok (.putfield 117, 3) := by decide +kernel
theorem dX2_findMotif_20 : decode cX2_findMotif 20 = .ok (.iconst 0, 1) := by decide +kernel
theorem dX2_findMotif_21 : decode cX2_findMotif 21 = .ok (.istore 4, 2) := by decide +kernel
theorem dX2_findMotif_23 : decode cX2_findMotif 23 = .ok (.iload 4, 2) := by decide +kernel
theorem dX2_findMotif_25 : decode cX2_findMotif 25 = .ok (.iload_n 3, 1) := by decide +kernel
theorem dX2_findMotif_26 : decode cX2_findMotif 26 = .ok (.if_icmp .ge 59, 3) := by decide +kernel
theorem dX2_findMotif_29 : decode cX2_findMotif 29 = .ok (.iload 4, 2) := by decide +kernel
theorem dX2_findMotif_31 : decode cX2_findMotif 31 = .ok (.iconst 1, 1) := by decide +kernel
theorem dX2_findMotif_32 : decode cX2_findMotif 32 = .ok (.iadd, 1) := by decide +kernel
theorem dX2_findMotif_33 : decode cX2_findMotif 33 = .ok (.istore 5, 2) := by decide +kernel
theorem dX2_findMotif_35 : decode cX2_findMotif 35 = .ok (.iload 5, 2) := by decide +kernel
theorem dX2_findMotif_37 : decode cX2_findMotif 37 = .ok (.iload_n 3, 1) := by decide +kernel
theorem dX2_findMotif_38 : decode cX2_findMotif 38 = .ok (.if_icmp .ge 41, 3) := by decide +kernel
theorem dX2_findMotif_41 : decode cX2_findMotif 41 = .ok (.aload_n 0, 1) := by decide +kernel
theorem dX2_findMotif_42 : decode cX2_findMotif 42 = .ok (.iload 4, 2) := by decide +kernel
theorem dX2_findMotif_44 : decode cX2_findMotif 44 = .ok (.iload 5, 2) := by decide +kernel
theorem dX2_findMotif_46 : decode cX2_findMotif 46 = .ok (.iload_n 3, 1) := by decide +kernel
theorem dX2_findMotif_47 : decode cX2_findMotif 47 = .ok (.invokevirtual 120, 3) := by decide +kernel
theorem dX2_findMotif_50 : decode cX2_findMotif 50 = .ok (.istore 6, 2) := by decide +kernel
theorem dX2_findMotif_52 : decode cX2_findMotif 52 = .ok (.iload 6, 2) := by decide +kernel
theorem dX2_findMotif_54 : decode cX2_findMotif 54 = .ok (.aload_n 0, 1) := by decide +kernel
theorem dX2_findMotif_55 : decode cX2_findMotif 55 = .ok (.getfield 117, 3) := by decide +kernel
theorem dX2_findMotif_58 : decode cX2_findMotif 58 = .ok (.if_icmp .le 15, 3) := by decide +kernel
theorem dX2_findMotif_61 : decode cX2_findMotif 61 = .ok (.aload_n 0, 1) := by decide +kernel
theorem dX2_findMotif_62 : decode cX2_findMotif 62 = .ok (.iload 6, 2) := by decide +kernel
theorem dX2_findMotif_64 : decode cX2_findMotif 64 = .ok (.putfield 117, 3) := by decide +kernel
theorem dX2_findMotif_67 : decode cX2_findMotif 67 = .ok (.aload_n 0, 1) := by decide +kernel
theorem dX2_findMotif_68 : decode cX2_findMotif 68 = .ok (.iload 4, 2) := by decide +kernel
theorem dX2_findMotif_70 : decode cX2_findMotif 70 = .ok (.putfield 114, 3) := by decide +kernel
theorem dX2_findMotif_73 : decode cX2_findMotif 73 = .ok (.iinc 5 1, 3) := by decide +kernel
theorem dX2_findMotif_76 : decode cX2_findMotif 76 = .ok (.goto (-41), 3) := by decide +kernel
theorem dX2_findMotif_79 : decode cX2_findMotif 79 = .ok (.iinc 4 1, 3) := by decide +kernel
theorem dX2_findMotif_82 : decode cX2_findMotif 82 = .ok (.goto (-59), 3) := by decide +kernel
theorem dX2_findMotif_85 : decode cX2_findMotif 85 = .ok (.return_, 1) := by decide +kernel
def m2_findMotif : pMT := (yX2_findMotif, cX2_findMotif, 7, none)
theorem mo2_findMotif : mOK m2_findMotif 2 := ⟨tb_i 1075 (by decide +kernel), wi_RX2, ⟨wn_RX2.1, wn_RX2.2, by decide +kernel⟩, by decide, plainFor_of_name wp_RX2⟩
theorem mv2_findMotif : mV m2_findMotif := ⟨tb_i 1073 (by decide +kernel), tb_i 1074 (by decide +kernel)⟩
def f2_findMotif_c35 (n : Nat) (O : (Nat → Nat → Option Nat)) (k23 : ((Nat → Nat → Int32) → Nat → Int32 → Int32 → Option ((Nat → Nat → Int32)))) : Nat → (Nat → Nat → Int32) → Nat → Int32 → Int32 → Int32 → Option ((Nat → Nat → Int32))
  | 0, _, _, _, _, _ => none
  | m + 1, I, b0, y3, y4, y5 => (if y3 ≤ y5 then k23 I b0 y3 (y4 + 1) else (f2_sameFrom n I O b0 y4 y5 y3).bind fun r2 => (if r2 ≤ (I b0 9) then f2_findMotif_c35 n O k23 m I b0 y3 y4 (y5 + 1) else bl (sI I b0 9 r2) fun I5 => bl (sI I5 b0 8 y4) fun I6 => f2_findMotif_c35 n O k23 m I6 b0 y3 y4 (y5 + 1)))
set_option maxHeartbeats 4000000 in
set_option maxRecDepth 20000 in
theorem o2_findMotif_c35 {g : pG} {Qx : Option Value → pW → Prop} {Z : pZ} {L : (Nat → Nat → Int64)} {O : (Nat → Nat → Option Nat)} {n : Nat} {k23 : ((Nat → Nat → Int32) → Nat → Int32 → Int32 → Option ((Nat → Nat → Int32)))} {res : (Nat → Nat → Int32)} (d : Nat) (hW : WT Z O) (hQ : Qx none (Z, res, L, O)) (hk23 : ∀ (I : (Nat → Nat → Int32)) (b0 : Nat) (y3 : Int32) (y4 : Int32), (Z[b0]? = some (2, 10)) → k23 I b0 y3 y4 = some res → Ok g (d + 5, RX2, cX2_findMotif, 7, false, 0, 0, Z.length, pSl Z) Qx 23 [(0, .ref b0), (3, .int y3), (4, .int y4)] [] (Z, I, L, O)) : ∀ (m : Nat) (I : (Nat → Nat → Int32)) (b0 : Nat) (y3 : Int32) (y4 : Int32) (y5 : Int32), (Z[b0]? = some (2, 10)) → f2_findMotif_c35 n O k23 m I b0 y3 y4 y5 = some res → Ok g (d + 5, RX2, cX2_findMotif, 7, false, 0, 0, Z.length, pSl Z) Qx 35 [(0, .ref b0), (3, .int y3), (4, .int y4), (5, .int y5)] [] (Z, I, L, O) := by
  intro m
  induction m with
  | zero => intro I b0 y3 y4 y5 hZ_b0 h; rw [f2_findMotif_c35] at h; cases h
  | succ m ih =>
    intro I b0 y3 y4 y5 hZ_b0 h
    rw [f2_findMotif_c35] at h
    refine ok_iload dX2_findMotif_35 3 rfl ?_
    refine ok_iload_n dX2_findMotif_37 1 rfl ?_
    refine ok_icmp_ge (t := 79) dX2_findMotif_38 (by decide) (fun hc1 => ?_) (fun hc1 => ?_)
    · have h := (if_pos hc1).symm.trans h
      refine ok_iinc (u := (y4 + 1)) (l' := [(4, .int (y4 + 1)), (0, .ref b0), (3, .int y3), (5, .int y5)]) dX2_findMotif_79 2 rfl rfl (Nat.le_of_ble_eq_true rfl) rfl ?_
      refine ok_goto (t := 23) dX2_findMotif_82 (by decide) ?_
      refine ok_sub [1, 2, 0] rfl ?_
      exact hk23 I b0 y3 (y4 + 1) hZ_b0 h
    · have h := (if_neg hc1).symm.trans h
      refine ok_aload_n dX2_findMotif_41 0 rfl ?_
      refine ok_iload dX2_findMotif_42 2 rfl ?_
      refine ok_iload dX2_findMotif_44 3 rfl ?_
      refine ok_iload_n dX2_findMotif_46 1 rfl ?_
      obtain ⟨r2, hr3, h⟩ := bd h
      refine ok_callV (d := ((d + 1) + 3)) (mt := m2_sameFrom) (mc := 0) (ms := 0) (As := [.int y4, .int y5, .int y3]) (r := []) dX2_findMotif_47 mo2_sameFrom mv2_sameFrom lkRX2_120 rfl hZ_b0 (q := (RX2, TX2, 10)) rfl rfl rfl (Nat.le_of_ble_eq_true rfl) (by show _ + 1 ≤ d + _; omega) (Nat.le_refl _) (Nat.le_refl _) (pRt_mono ?_)
      refine k2_sameFrom (d + 1) hW hZ_b0 hr3 ?_
      intro _
      show Ok g _ Qx 50 [(0, .ref b0), (3, .int y3), (4, .int y4), (5, .int y5)] [.int r2] (Z, I, L, O)
      refine ok_istore (l' := [(6, .int r2), (0, .ref b0), (3, .int y3), (4, .int y4), (5, .int y5)]) dX2_findMotif_50 (Nat.le_of_ble_eq_true rfl) rfl ?_
      refine ok_iload dX2_findMotif_52 0 rfl ?_
      refine ok_aload_n dX2_findMotif_54 1 rfl ?_
      refine ok_getI (ci := 2) (k := 9) dX2_findMotif_55 flRX2_117 rfl hZ_b0 (by decide) ?_
      refine ok_icmp_le (t := 73) dX2_findMotif_58 (by decide) (fun hc4 => ?_) (fun hc4 => ?_)
      · have h := (if_pos hc4).symm.trans h
        refine ok_iinc (u := (y5 + 1)) (l' := [(5, .int (y5 + 1)), (6, .int r2), (0, .ref b0), (3, .int y3), (4, .int y4)]) dX2_findMotif_73 4 rfl rfl (Nat.le_of_ble_eq_true rfl) rfl ?_
        refine ok_goto (t := 35) dX2_findMotif_76 (by decide) ?_
        refine ok_sub [2, 3, 4, 0] rfl ?_
        exact ih I b0 y3 y4 (y5 + 1) hZ_b0 h
      · have h := (if_neg hc4).symm.trans h
        refine ok_aload_n dX2_findMotif_61 1 rfl ?_
        refine ok_iload dX2_findMotif_62 0 rfl ?_
        obtain ⟨I5, eI5, h⟩ := blE h
        refine ok_putI2 (ci := 2) (k := 9) dX2_findMotif_64 flRX2_117 rfl (Or.inl rfl) hZ_b0 (by decide) eI5 ?_
        refine ok_aload_n dX2_findMotif_67 1 rfl ?_
        refine ok_iload dX2_findMotif_68 3 rfl ?_
        obtain ⟨I6, eI6, h⟩ := blE h
        refine ok_putI2 (ci := 2) (k := 8) dX2_findMotif_70 flRX2_114 rfl (Or.inl rfl) hZ_b0 (by decide) eI6 ?_
        refine ok_iinc (u := (y5 + 1)) (l' := [(5, .int (y5 + 1)), (6, .int r2), (0, .ref b0), (3, .int y3), (4, .int y4)]) dX2_findMotif_73 4 rfl rfl (Nat.le_of_ble_eq_true rfl) rfl ?_
        refine ok_goto (t := 35) dX2_findMotif_76 (by decide) ?_
        refine ok_sub [2, 3, 4, 0] rfl ?_
        exact ih I6 b0 y3 y4 (y5 + 1) hZ_b0 h
def f2_findMotif_c23 (n : Nat) (O : (Nat → Nat → Option Nat)) : Nat → (Nat → Nat → Int32) → Nat → Int32 → Int32 → Option ((Nat → Nat → Int32))
  | 0, _, _, _, _ => none
  | m + 1, I, b0, y3, y4 => (if y3 ≤ y4 then some (I) else f2_findMotif_c35 n O (f2_findMotif_c23 n O m) n I b0 y3 y4 (y4 + 1))
set_option maxHeartbeats 4000000 in
set_option maxRecDepth 20000 in
theorem o2_findMotif_c23 {g : pG} {Qx : Option Value → pW → Prop} {Z : pZ} {L : (Nat → Nat → Int64)} {O : (Nat → Nat → Option Nat)} {n : Nat} {res : (Nat → Nat → Int32)} (d : Nat) (hW : WT Z O) (hQ : Qx none (Z, res, L, O)) : ∀ (m : Nat) (I : (Nat → Nat → Int32)) (b0 : Nat) (y3 : Int32) (y4 : Int32), (Z[b0]? = some (2, 10)) → f2_findMotif_c23 n O m I b0 y3 y4 = some res → Ok g (d + 5, RX2, cX2_findMotif, 7, false, 0, 0, Z.length, pSl Z) Qx 23 [(0, .ref b0), (3, .int y3), (4, .int y4)] [] (Z, I, L, O) := by
  intro m
  induction m with
  | zero => intro I b0 y3 y4 hZ_b0 h; rw [f2_findMotif_c23] at h; cases h
  | succ m ih =>
    intro I b0 y3 y4 hZ_b0 h
    rw [f2_findMotif_c23] at h
    refine ok_iload dX2_findMotif_23 2 rfl ?_
    refine ok_iload_n dX2_findMotif_25 1 rfl ?_
    refine ok_icmp_ge (t := 85) dX2_findMotif_26 (by decide) (fun hc1 => ?_) (fun hc1 => ?_)
    · have h := (if_pos hc1).symm.trans h
      cases h
      exact ok_vret dX2_findMotif_85 hQ
    · have h := (if_neg hc1).symm.trans h
      refine ok_iload dX2_findMotif_29 2 rfl ?_
      refine ok_iconst (v := 1) dX2_findMotif_31 (by decide) ?_
      refine ok_iadd dX2_findMotif_32 ?_
      refine ok_istore (l' := [(5, .int (y4 + 1)), (0, .ref b0), (3, .int y3), (4, .int y4)]) dX2_findMotif_33 (Nat.le_of_ble_eq_true rfl) rfl ?_
      refine ok_sub [1, 2, 3, 0] rfl ?_
      exact o2_findMotif_c35 d hW hQ ih n I b0 y3 y4 (y4 + 1) hZ_b0 h
def f2_findMotif (n : Nat) (I : (Nat → Nat → Int32)) (O : (Nat → Nat → Option Nat)) (a0 : Nat) (a1 : Nat) (x2 : Int32) : Option ((Nat → Nat → Int32)) := (f2_lay n I O a1 x2 (rO O a0 0)).bind fun r2 => bl (sI r2.2 a0 8 (-1 : Int32)) fun I4 => bl (sI I4 a0 9 (0 : Int32)) fun I5 => f2_findMotif_c23 n O n I5 a0 r2.1 (0 : Int32)
set_option maxHeartbeats 4000000 in
set_option maxRecDepth 20000 in
theorem o2_findMotif {g : pG} {Qx : Option Value → pW → Prop} {Z : pZ} {I : (Nat → Nat → Int32)} {L : (Nat → Nat → Int64)} {O : (Nat → Nat → Option Nat)} {n : Nat} {a0 : Nat} {a1 : Nat} {x2 : Int32} {res : (Nat → Nat → Int32)} (d : Nat) (hW : WT Z O) (hZ0 : Z[a0]? = some (2, 10)) (hZ1 : Z[a1]? = some (10, 5)) (h : f2_findMotif n I O a0 a1 x2 = some res) (hQ : Qx none (Z, res, L, O)) : Ok g (d + 5, RX2, cX2_findMotif, 7, false, 0, 0, Z.length, pSl Z) Qx 0 [(0, .ref a0), (1, .ref a1), (2, .int x2)] [] (Z, I, L, O) := by
  unfold f2_findMotif at h
  refine ok_aload_n dX2_findMotif_0 1 rfl ?_
  refine ok_iload_n dX2_findMotif_1 2 rfl ?_
  refine ok_aload_n dX2_findMotif_2 0 rfl ?_
  have hT1 : Z[(rO O a0 0)]? = some (13, 16) := (wt_f (ci := 2) (k := 0) hW hZ0 rfl).2
  refine ok_getR (ci := 2) (k := 0) dX2_findMotif_3 flRX2_9 rfl hW hZ0 (by decide) ?_
  obtain ⟨r2, hr3, h⟩ := bd h
  refine ok_callS (d := ((d + 0) + 4)) (mt := m2_lay) (mc := 0) (ms := 0) (As := [.ref a1, .int x2, .ref (rO O a0 0)]) (r := []) dX2_findMotif_6 mo2_lay mv2_lay lkRX2_55 rfl rfl (Nat.le_of_ble_eq_true rfl) (by show _ + 1 ≤ d + _; omega) (Nat.le_refl _) (Nat.le_refl _) (pRt_mono ?_)
  refine k2_lay (d + 0) hW hZ1 hT1 hr3 ?_
  intro _
  show Ok g _ Qx 9 [(0, .ref a0), (1, .ref a1), (2, .int x2)] [.int r2.1] (Z, r2.2, L, O)
  refine ok_istore_n (l' := [(3, .int r2.1), (0, .ref a0), (1, .ref a1), (2, .int x2)]) dX2_findMotif_9 rfl (Nat.le_of_ble_eq_true rfl) rfl ?_
  refine ok_aload_n dX2_findMotif_10 1 rfl ?_
  refine ok_iconst (v := (-1)) dX2_findMotif_11 (by decide) ?_
  obtain ⟨I4, eI4, h⟩ := blE h
  refine ok_putI2 (ci := 2) (k := 8) dX2_findMotif_12 flRX2_114 rfl (Or.inl rfl) hZ0 (by decide) eI4 ?_
  refine ok_aload_n dX2_findMotif_15 1 rfl ?_
  refine ok_iconst (v := 0) dX2_findMotif_16 (by decide) ?_
  obtain ⟨I5, eI5, h⟩ := blE h
  refine ok_putI2 (ci := 2) (k := 9) dX2_findMotif_17 flRX2_117 rfl (Or.inl rfl) hZ0 (by decide) eI5 ?_
  refine ok_iconst (v := 0) dX2_findMotif_20 (by decide) ?_
  refine ok_istore (l' := [(4, .int 0), (3, .int r2.1), (0, .ref a0), (1, .ref a1), (2, .int x2)]) dX2_findMotif_21 (Nat.le_of_ble_eq_true rfl) rfl ?_
  refine ok_sub [2, 1, 0] rfl ?_
  exact o2_findMotif_c23 d hW hQ  n I5 a0 r2.1 (0 : Int32) hZ0 h
theorem k2_findMotif {g : pG} {Q : Option Value → pW → Prop} {Z : pZ} {I : (Nat → Nat → Int32)} {L : (Nat → Nat → Int64)} {O : (Nat → Nat → Option Nat)} {n : Nat} {a0 : Nat} {a1 : Nat} {x2 : Int32} {res : (Nat → Nat → Int32)} (d : Nat) (hW : WT Z O) (hZ0 : Z[a0]? = some (2, 10)) (hZ1 : Z[a1]? = some (10, 5)) (h : f2_findMotif n I O a0 a1 x2 = some res) (hQ : Q none (Z, res, L, O)) : CT g (d + 5) m2_findMotif 0 0 [.ref a0, .ref a1, .int x2] (Z, I, L, O) Q :=
  ct_of_ok (mt := m2_findMotif) (ini := false) mo2_findMotif.2.2.2.2 (fun h => by cases h) (Nat.le_of_ble_eq_true rfl) (o2_findMotif d hW hZ0 hZ1 h ⟨trivial, hQ, rfl, rfl⟩)
theorem dX2_isMirrored_0 : decode cX2_isMirrored 0 = .ok (.iconst 0, 1) := by decide +kernel
theorem dX2_isMirrored_1 : decode cX2_isMirrored 1 = .ok (.istore_n 3, 1) := by decide +kernel
theorem dX2_isMirrored_2 : decode cX2_isMirrored 2 = .ok (.iload_n 1, 1) := by decide +kernel
theorem dX2_isMirrored_3 : decode cX2_isMirrored 3 = .ok (.iload_n 3, 1) := by decide +kernel
theorem dX2_isMirrored_4 : decode cX2_isMirrored 4 = .ok (.iadd, 1) := by decide +kernel
theorem dX2_isMirrored_5 : decode cX2_isMirrored 5 = .ok (.iload_n 2, 1) := by decide +kernel
theorem dX2_isMirrored_6 : decode cX2_isMirrored 6 = .ok (.iload_n 3, 1) := by decide +kernel
theorem dX2_isMirrored_7 : decode cX2_isMirrored 7 = .ok (.isub, 1) := by decide +kernel
theorem dX2_isMirrored_8 : decode cX2_isMirrored 8 = .ok (.if_icmp .ge 33, 3) := by decide +kernel
theorem dX2_isMirrored_11 : decode cX2_isMirrored 11 = .ok (.aload_n 0, 1) := by decide +kernel
theorem dX2_isMirrored_12 : decode cX2_isMirrored 12 = .ok (.getfield 9, 3) := by decide +kernel
theorem dX2_isMirrored_15 : decode cX2_isMirrored 15 = .ok (.iload_n 1, 1) := by decide +kernel
theorem dX2_isMirrored_16 : decode cX2_isMirrored 16 = .ok (.iload_n 3, 1) := by decide +kernel
theorem dX2_isMirrored_17 : decode cX2_isMirrored 17 = .ok (.iadd, 1) := by decide +kernel
theorem dX2_isMirrored_18 : decode cX2_isMirrored 18 = .ok (.iaload, 1) := by decide +kernel
theorem dX2_isMirrored_19 : decode cX2_isMirrored 19 = .ok (.aload_n 0, 1) := by decide +kernel
theorem dX2_isMirrored_20 : decode cX2_isMirrored 20 = .ok (.getfield 9, 3) := by decide +kernel
theorem dX2_isMirrored_23 : decode cX2_isMirrored 23 = .ok (.iload_n 2, 1) := by decide +kernel
theorem dX2_isMirrored_24 : decode cX2_isMirrored 24 = .ok (.iload_n 3, 1) := by decide +kernel
theorem dX2_isMirrored_25 : decode cX2_isMirrored 25 = .ok (.isub, 1) := by decide +kernel
theorem dX2_isMirrored_26 : decode cX2_isMirrored 26 = .ok (.iaload, 1) := by decide +kernel
theorem dX2_isMirrored_27 : decode cX2_isMirrored 27 = .ok (.invokestatic 62, 3) := by decide +kernel
theorem dX2_isMirrored_30 : decode cX2_isMirrored 30 = .ok (.ifCond .ne 5, 3) := by decide +kernel
theorem dX2_isMirrored_33 : decode cX2_isMirrored 33 = .ok (.iconst 0, 1) := by decide +kernel
theorem dX2_isMirrored_34 : decode cX2_isMirrored 34 = .ok (.ireturn, 1) := by decide +kernel
theorem dX2_isMirrored_35 : decode cX2_isMirrored 35 = .ok (.iinc 3 1, 3) := by decide +kernel
theorem dX2_isMirrored_38 : decode cX2_isMirrored 38 = .ok (.goto (-36), 3) := by decide +kernel
theorem dX2_isMirrored_41 : decode cX2_isMirrored 41 = .ok (.iconst 1, 1) := by decide +kernel
theorem dX2_isMirrored_42 : decode cX2_isMirrored 42 = .ok (.ireturn, 1) := by decide +kernel
def m2_isMirrored : pMT := (yX2_isMirrored, cX2_isMirrored, 4, some .boolean)
theorem mo2_isMirrored : mOK m2_isMirrored 2 := ⟨tb_i 1091 (by decide +kernel), wi_RX2, ⟨wn_RX2.1, wn_RX2.2, by decide +kernel⟩, by decide, plainFor_of_name wp_RX2⟩
theorem mv2_isMirrored : mV m2_isMirrored := ⟨tb_i 1090 (by decide +kernel), tb_p 45 (by decide +kernel)⟩
def f2_isMirrored_c2 (n : Nat) (I : (Nat → Nat → Int32)) (O : (Nat → Nat → Option Nat)) : Nat → Nat → Int32 → Int32 → Int32 → Option (Int32)
  | 0, _, _, _, _ => none
  | m + 1, b0, y1, y2, y3 => (if (y2 - y3) ≤ (y1 + y3) then some ((1 : Int32)) else (if (y1 + y3) < 0 ∨ 16 ≤ (y1 + y3).toNatClampNeg then none else (if (y2 - y3) < 0 ∨ 16 ≤ (y2 - y3).toNatClampNeg then none else (f2_matches (I (rO O b0 0) (y1 + y3).toNatClampNeg) (I (rO O b0 0) (y2 - y3).toNatClampNeg)).bind fun r5 => (if r5 = 0 then some ((0 : Int32)) else f2_isMirrored_c2 n I O m b0 y1 y2 (y3 + 1)))))
set_option maxHeartbeats 4000000 in
set_option maxRecDepth 20000 in
theorem o2_isMirrored_c2 {g : pG} {Qx : Option Value → pW → Prop} {Z : pZ} {I : (Nat → Nat → Int32)} {L : (Nat → Nat → Int64)} {O : (Nat → Nat → Option Nat)} {n : Nat} {res : Int32} (d : Nat) (hW : WT Z O) (hQ : (res = 0 ∨ res = 1) → Qx (some (.int res)) (Z, I, L, O)) : ∀ (m : Nat) (b0 : Nat) (y1 : Int32) (y2 : Int32) (y3 : Int32), (Z[b0]? = some (2, 10)) → f2_isMirrored_c2 n I O m b0 y1 y2 y3 = some res → Ok g (d + 3, RX2, cX2_isMirrored, 4, false, 0, 0, Z.length, pSl Z) Qx 2 [(0, .ref b0), (1, .int y1), (2, .int y2), (3, .int y3)] [] (Z, I, L, O) := by
  intro m
  induction m with
  | zero => intro b0 y1 y2 y3 hZ_b0 h; rw [f2_isMirrored_c2] at h; cases h
  | succ m ih =>
    intro b0 y1 y2 y3 hZ_b0 h
    rw [f2_isMirrored_c2] at h
    refine ok_iload_n dX2_isMirrored_2 1 rfl ?_
    refine ok_iload_n dX2_isMirrored_3 3 rfl ?_
    refine ok_iadd dX2_isMirrored_4 ?_
    refine ok_iload_n dX2_isMirrored_5 2 rfl ?_
    refine ok_iload_n dX2_isMirrored_6 3 rfl ?_
    refine ok_isub dX2_isMirrored_7 ?_
    refine ok_icmp_ge (t := 41) dX2_isMirrored_8 (by decide) (fun hc1 => ?_) (fun hc1 => ?_)
    · have h := (if_pos hc1).symm.trans h
      refine ok_iconst (v := 1) dX2_isMirrored_41 (by decide) ?_
      cases h
      exact ok_iret dX2_isMirrored_42 (hQ (Or.inr rfl))
    · have h := (if_neg hc1).symm.trans h
      refine ok_aload_n dX2_isMirrored_11 0 rfl ?_
      have hT2 : Z[(rO O b0 0)]? = some (13, 16) := (wt_f (ci := 2) (k := 0) hW hZ_b0 rfl).2
      refine ok_getR (ci := 2) (k := 0) dX2_isMirrored_12 flRX2_9 rfl hW hZ_b0 (by decide) ?_
      refine ok_iload_n dX2_isMirrored_15 1 rfl ?_
      refine ok_iload_n dX2_isMirrored_16 3 rfl ?_
      refine ok_iadd dX2_isMirrored_17 ?_
      obtain ⟨hg3, h⟩ := gd h
      refine ok_iald2 (N := (y1 + y3).toNatClampNeg) dX2_isMirrored_18 hT2 hg3 rfl ?_
      refine ok_aload_n dX2_isMirrored_19 0 rfl ?_
      refine ok_getR (ci := 2) (k := 0) dX2_isMirrored_20 flRX2_9 rfl hW hZ_b0 (by decide) ?_
      refine ok_iload_n dX2_isMirrored_23 2 rfl ?_
      refine ok_iload_n dX2_isMirrored_24 3 rfl ?_
      refine ok_isub dX2_isMirrored_25 ?_
      obtain ⟨hg4, h⟩ := gd h
      refine ok_iald2 (N := (y2 - y3).toNatClampNeg) dX2_isMirrored_26 hT2 hg4 rfl ?_
      obtain ⟨r5, hr6, h⟩ := bd h
      refine ok_callS (d := ((d + 0) + 2)) (mt := m2_matches) (mc := 0) (ms := 0) (As := [.int (I (rO O b0 0) (y1 + y3).toNatClampNeg), .int (I (rO O b0 0) (y2 - y3).toNatClampNeg)]) (r := []) dX2_isMirrored_27 mo2_matches mv2_matches lkRX2_62 rfl rfl (Nat.le_of_ble_eq_true rfl) (by show _ + 1 ≤ d + _; omega) (Nat.le_refl _) (Nat.le_refl _) (pRt_mono ?_)
      refine k2_matches (d + 0) hW  hr6 ?_
      intro hbr5
      show Ok g _ Qx 30 [(0, .ref b0), (1, .int y1), (2, .int y2), (3, .int y3)] [.int r5] (Z, I, L, O)
      refine ok_if_ne (t := 35) dX2_isMirrored_30 (by decide) (fun hc7 => ?_) (fun hc7 => ?_)
      · have h := (if_neg hc7).symm.trans h
        refine ok_iinc (u := (y3 + 1)) (l' := [(3, .int (y3 + 1)), (0, .ref b0), (1, .int y1), (2, .int y2)]) dX2_isMirrored_35 3 rfl rfl (Nat.le_of_ble_eq_true rfl) rfl ?_
        refine ok_goto (t := 2) dX2_isMirrored_38 (by decide) ?_
        refine ok_sub [1, 2, 3, 0] rfl ?_
        exact ih b0 y1 y2 (y3 + 1) hZ_b0 h
      · have h := (if_pos hc7).symm.trans h
        refine ok_iconst (v := 0) dX2_isMirrored_33 (by decide) ?_
        cases h
        exact ok_iret dX2_isMirrored_34 (hQ (Or.inl rfl))
def f2_isMirrored (n : Nat) (I : (Nat → Nat → Int32)) (O : (Nat → Nat → Option Nat)) (a0 : Nat) (x1 : Int32) (x2 : Int32) : Option (Int32) := f2_isMirrored_c2 n I O n a0 x1 x2 (0 : Int32)
set_option maxHeartbeats 4000000 in
set_option maxRecDepth 20000 in
theorem o2_isMirrored {g : pG} {Qx : Option Value → pW → Prop} {Z : pZ} {I : (Nat → Nat → Int32)} {L : (Nat → Nat → Int64)} {O : (Nat → Nat → Option Nat)} {n : Nat} {a0 : Nat} {x1 : Int32} {x2 : Int32} {res : Int32} (d : Nat) (hW : WT Z O) (hZ0 : Z[a0]? = some (2, 10)) (h : f2_isMirrored n I O a0 x1 x2 = some res) (hQ : (res = 0 ∨ res = 1) → Qx (some (.int res)) (Z, I, L, O)) : Ok g (d + 3, RX2, cX2_isMirrored, 4, false, 0, 0, Z.length, pSl Z) Qx 0 [(0, .ref a0), (1, .int x1), (2, .int x2)] [] (Z, I, L, O) := by
  unfold f2_isMirrored at h
  refine ok_iconst (v := 0) dX2_isMirrored_0 (by decide) ?_
  refine ok_istore_n (l' := [(3, .int 0), (0, .ref a0), (1, .int x1), (2, .int x2)]) dX2_isMirrored_1 rfl (Nat.le_of_ble_eq_true rfl) rfl ?_
  refine ok_sub [1, 2, 3, 0] rfl ?_
  exact o2_isMirrored_c2 d hW hQ  n a0 x1 x2 (0 : Int32) hZ0 h
theorem k2_isMirrored {g : pG} {Q : Option Value → pW → Prop} {Z : pZ} {I : (Nat → Nat → Int32)} {L : (Nat → Nat → Int64)} {O : (Nat → Nat → Option Nat)} {n : Nat} {a0 : Nat} {x1 : Int32} {x2 : Int32} {res : Int32} (d : Nat) (hW : WT Z O) (hZ0 : Z[a0]? = some (2, 10)) (h : f2_isMirrored n I O a0 x1 x2 = some res) (hQ : Q (some (.int res)) (Z, I, L, O)) : CT g (d + 3) m2_isMirrored 0 0 [.ref a0, .int x1, .int x2] (Z, I, L, O) Q :=
  ct_of_ok (mt := m2_isMirrored) (ini := false) mo2_isMirrored.2.2.2.2 (fun h => by cases h) (Nat.le_of_ble_eq_true rfl) (o2_isMirrored d hW hZ0 h (fun hb => ⟨hb, hQ, rfl, rfl⟩))
theorem dX2_findMirror_0 : decode cX2_findMirror 0 = .ok (.aload_n 1, 1) := by decide +kernel
theorem dX2_findMirror_1 : decode cX2_findMirror 1 = .ok (.iload_n 2, 1) := by decide +kernel
theorem dX2_findMirror_2 : decode cX2_findMirror 2 = .ok (.aload_n 0, 1) := by decide +kernel
theorem dX2_findMirror_3 : decode cX2_findMirror 3 = .ok (.getfield 9, 3) := by decide +kernel
theorem dX2_findMirror_6 : decode cX2_findMirror 6 = .ok (.invokestatic 55, 3) := by decide +kernel
theorem dX2_findMirror_9 : decode cX2_findMirror 9 = .ok (.istore_n 3, 1) := by decide +kernel
theorem dX2_findMirror_10 : decode cX2_findMirror 10 = .ok (.aload_n 0, 1) := by decide +kernel
theorem dX2_findMirror_11 : decode cX2_findMirror 11 = .ok (.iconst (-1), 1) := by decide +kernel
theorem dX2_findMirror_12 : decode cX2_findMirror 12 = .ok (.putfield 114, 3) := by decide +kernel
theorem dX2_findMirror_15 : decode cX2_findMirror 15 = .ok (.aload_n 0, 1) := by decide +kernel
theorem dX2_findMirror_16 : decode cX2_findMirror 16 = .ok (.iconst 0, 1) := by decide +kernel
theorem dX2_findMirror_17 : decode cX2_findMirror 17 = .ok (.putfield 117, 3) := by decide +kernel
theorem dX2_findMirror_20 : decode cX2_findMirror 20 = .ok (.iconst 0, 1) := by decide +kernel
theorem dX2_findMirror_21 : decode cX2_findMirror 21 = .ok (.istore 4, 2) := by decide +kernel
theorem dX2_findMirror_23 : decode cX2_findMirror 23 = .ok (.iload 4, 2) := by decide +kernel
theorem dX2_findMirror_25 : decode cX2_findMirror 25 = .ok (.iload_n 3, 1) := by decide +kernel
theorem dX2_findMirror_26 : decode cX2_findMirror 26 = .ok (.if_icmp .ge 67, 3) := by decide +kernel
theorem dX2_findMirror_29 : decode cX2_findMirror 29 = .ok (.iload 4, 2) := by decide +kernel
theorem dX2_findMirror_31 : decode cX2_findMirror 31 = .ok (.istore 5, 2) := by decide +kernel
theorem dX2_findMirror_33 : decode cX2_findMirror 33 = .ok (.iload 5, 2) := by decide +kernel
theorem dX2_findMirror_35 : decode cX2_findMirror 35 = .ok (.iload_n 3, 1) := by decide +kernel
theorem dX2_findMirror_36 : decode cX2_findMirror 36 = .ok (.if_icmp .ge 51, 3) := by decide +kernel
theorem dX2_findMirror_39 : decode cX2_findMirror 39 = .ok (.iload 5, 2) := by decide +kernel
theorem dX2_findMirror_41 : decode cX2_findMirror 41 = .ok (.iload 4, 2) := by decide +kernel
theorem dX2_findMirror_43 : decode cX2_findMirror 43 = .ok (.isub, 1) := by decide +kernel
theorem dX2_findMirror_44 : decode cX2_findMirror 44 = .ok (.iconst 1, 1) := by decide +kernel
theorem dX2_findMirror_45 : decode cX2_findMirror 45 = .ok (.iadd, 1) := by decide +kernel
theorem dX2_findMirror_46 : decode cX2_findMirror 46 = .ok (.aload_n 0, 1) := by decide +kernel
theorem dX2_findMirror_47 : decode cX2_findMirror 47 = .ok (.getfield 117, 3) := by decide +kernel
theorem dX2_findMirror_50 : decode cX2_findMirror 50 = .ok (.if_icmp .le 31, 3) := by decide +kernel
theorem dX2_findMirror_53 : decode cX2_findMirror 53 = .ok (.aload_n 0, 1) := by decide +kernel
theorem dX2_findMirror_54 : decode cX2_findMirror 54 = .ok (.iload 4, 2) := by decide +kernel
theorem dX2_findMirror_56 : decode cX2_findMirror 56 = .ok (.iload 5, 2) := by decide +kernel
theorem dX2_findMirror_58 : decode cX2_findMirror 58 = .ok (.invokevirtual 123, 3) := by decide +kernel
theorem dX2_findMirror_61 : decode cX2_findMirror 61 = .ok (.ifCond .eq 20, 3) := by decide +kernel
theorem dX2_findMirror_64 : decode cX2_findMirror 64 = .ok (.aload_n 0, 1) := by decide +kernel
theorem dX2_findMirror_65 : decode cX2_findMirror 65 = .ok (.iload 5, 2) := by decide +kernel
theorem dX2_findMirror_67 : decode cX2_findMirror 67 = .ok (.iload 4, 2) := by decide +kernel
theorem dX2_findMirror_69 : decode cX2_findMirror 69 = .ok (.isub, 1) := by decide +kernel
theorem dX2_findMirror_70 : decode cX2_findMirror 70 = .ok (.iconst 1, 1) := by decide +kernel
theorem dX2_findMirror_71 : decode cX2_findMirror 71 = .ok (.iadd, 1) := by decide +kernel
theorem dX2_findMirror_72 : decode cX2_findMirror 72 = .ok (.putfield 117, 3) := by decide +kernel
theorem dX2_findMirror_75 : decode cX2_findMirror 75 = .ok (.aload_n 0, 1) := by decide +kernel
theorem dX2_findMirror_76 : decode cX2_findMirror 76 = .ok (.iload 4, 2) := by decide +kernel
theorem dX2_findMirror_78 : decode cX2_findMirror 78 = .ok (.putfield 114, 3) := by decide +kernel
theorem dX2_findMirror_81 : decode cX2_findMirror 81 = .ok (.iinc 5 1, 3) := by decide +kernel
theorem dX2_findMirror_84 : decode cX2_findMirror 84 = .ok (.goto (-51), 3) := by decide +kernel
theorem dX2_findMirror_87 : decode cX2_findMirror 87 = .ok (.iinc 4 1, 3) := by decide +kernel
theorem dX2_findMirror_90 : decode cX2_findMirror 90 = .ok (.goto (-67), 3) := by decide +kernel
theorem dX2_findMirror_93 : decode cX2_findMirror 93 = .ok (.return_, 1) := by decide +kernel
def m2_findMirror : pMT := (yX2_findMirror, cX2_findMirror, 6, none)
theorem mo2_findMirror : mOK m2_findMirror 2 := ⟨tb_i 1087 (by decide +kernel), wi_RX2, ⟨wn_RX2.1, wn_RX2.2, by decide +kernel⟩, by decide, plainFor_of_name wp_RX2⟩
theorem mv2_findMirror : mV m2_findMirror := ⟨tb_i 1085 (by decide +kernel), tb_i 1086 (by decide +kernel)⟩
def f2_findMirror_c33 (n : Nat) (O : (Nat → Nat → Option Nat)) (k23 : ((Nat → Nat → Int32) → Nat → Int32 → Int32 → Option ((Nat → Nat → Int32)))) : Nat → (Nat → Nat → Int32) → Nat → Int32 → Int32 → Int32 → Option ((Nat → Nat → Int32))
  | 0, _, _, _, _, _ => none
  | m + 1, I, b0, y3, y4, y5 => (if y3 ≤ y5 then k23 I b0 y3 (y4 + 1) else (if ((y5 - y4) + 1) ≤ (I b0 9) then f2_findMirror_c33 n O k23 m I b0 y3 y4 (y5 + 1) else (f2_isMirrored n I O b0 y4 y5).bind fun r3 => (if r3 = 0 then f2_findMirror_c33 n O k23 m I b0 y3 y4 (y5 + 1) else bl (sI I b0 9 ((y5 - y4) + 1)) fun I6 => bl (sI I6 b0 8 y4) fun I7 => f2_findMirror_c33 n O k23 m I7 b0 y3 y4 (y5 + 1))))
set_option maxHeartbeats 4000000 in
set_option maxRecDepth 20000 in
theorem o2_findMirror_c33 {g : pG} {Qx : Option Value → pW → Prop} {Z : pZ} {L : (Nat → Nat → Int64)} {O : (Nat → Nat → Option Nat)} {n : Nat} {k23 : ((Nat → Nat → Int32) → Nat → Int32 → Int32 → Option ((Nat → Nat → Int32)))} {res : (Nat → Nat → Int32)} (d : Nat) (hW : WT Z O) (hQ : Qx none (Z, res, L, O)) (hk23 : ∀ (I : (Nat → Nat → Int32)) (b0 : Nat) (y3 : Int32) (y4 : Int32), (Z[b0]? = some (2, 10)) → k23 I b0 y3 y4 = some res → Ok g (d + 5, RX2, cX2_findMirror, 6, false, 0, 0, Z.length, pSl Z) Qx 23 [(0, .ref b0), (3, .int y3), (4, .int y4)] [] (Z, I, L, O)) : ∀ (m : Nat) (I : (Nat → Nat → Int32)) (b0 : Nat) (y3 : Int32) (y4 : Int32) (y5 : Int32), (Z[b0]? = some (2, 10)) → f2_findMirror_c33 n O k23 m I b0 y3 y4 y5 = some res → Ok g (d + 5, RX2, cX2_findMirror, 6, false, 0, 0, Z.length, pSl Z) Qx 33 [(0, .ref b0), (3, .int y3), (4, .int y4), (5, .int y5)] [] (Z, I, L, O) := by
  intro m
  induction m with
  | zero => intro I b0 y3 y4 y5 hZ_b0 h; rw [f2_findMirror_c33] at h; cases h
  | succ m ih =>
    intro I b0 y3 y4 y5 hZ_b0 h
    rw [f2_findMirror_c33] at h
    refine ok_iload dX2_findMirror_33 3 rfl ?_
    refine ok_iload_n dX2_findMirror_35 1 rfl ?_
    refine ok_icmp_ge (t := 87) dX2_findMirror_36 (by decide) (fun hc1 => ?_) (fun hc1 => ?_)
    · have h := (if_pos hc1).symm.trans h
      refine ok_iinc (u := (y4 + 1)) (l' := [(4, .int (y4 + 1)), (0, .ref b0), (3, .int y3), (5, .int y5)]) dX2_findMirror_87 2 rfl rfl (Nat.le_of_ble_eq_true rfl) rfl ?_
      refine ok_goto (t := 23) dX2_findMirror_90 (by decide) ?_
      refine ok_sub [1, 2, 0] rfl ?_
      exact hk23 I b0 y3 (y4 + 1) hZ_b0 h
    · have h := (if_neg hc1).symm.trans h
      refine ok_iload dX2_findMirror_39 3 rfl ?_
      refine ok_iload dX2_findMirror_41 2 rfl ?_
      refine ok_isub dX2_findMirror_43 ?_
      refine ok_iconst (v := 1) dX2_findMirror_44 (by decide) ?_
      refine ok_iadd dX2_findMirror_45 ?_
      refine ok_aload_n dX2_findMirror_46 0 rfl ?_
      refine ok_getI (ci := 2) (k := 9) dX2_findMirror_47 flRX2_117 rfl hZ_b0 (by decide) ?_
      refine ok_icmp_le (t := 81) dX2_findMirror_50 (by decide) (fun hc2 => ?_) (fun hc2 => ?_)
      · have h := (if_pos hc2).symm.trans h
        refine ok_iinc (u := (y5 + 1)) (l' := [(5, .int (y5 + 1)), (0, .ref b0), (3, .int y3), (4, .int y4)]) dX2_findMirror_81 3 rfl rfl (Nat.le_of_ble_eq_true rfl) rfl ?_
        refine ok_goto (t := 33) dX2_findMirror_84 (by decide) ?_
        refine ok_sub [1, 2, 3, 0] rfl ?_
        exact ih I b0 y3 y4 (y5 + 1) hZ_b0 h
      · have h := (if_neg hc2).symm.trans h
        refine ok_aload_n dX2_findMirror_53 0 rfl ?_
        refine ok_iload dX2_findMirror_54 2 rfl ?_
        refine ok_iload dX2_findMirror_56 3 rfl ?_
        obtain ⟨r3, hr4, h⟩ := bd h
        refine ok_callV (d := ((d + 1) + 3)) (mt := m2_isMirrored) (mc := 0) (ms := 0) (As := [.int y4, .int y5]) (r := []) dX2_findMirror_58 mo2_isMirrored mv2_isMirrored lkRX2_123 rfl hZ_b0 (q := (RX2, TX2, 10)) rfl rfl rfl (Nat.le_of_ble_eq_true rfl) (by show _ + 1 ≤ d + _; omega) (Nat.le_refl _) (Nat.le_refl _) (pRt_mono ?_)
        refine k2_isMirrored (d + 1) hW hZ_b0 hr4 ?_
        intro hbr3
        show Ok g _ Qx 61 [(0, .ref b0), (3, .int y3), (4, .int y4), (5, .int y5)] [.int r3] (Z, I, L, O)
        refine ok_if_eq (t := 81) dX2_findMirror_61 (by decide) (fun hc5 => ?_) (fun hc5 => ?_)
        · have h := (if_pos hc5).symm.trans h
          refine ok_iinc (u := (y5 + 1)) (l' := [(5, .int (y5 + 1)), (0, .ref b0), (3, .int y3), (4, .int y4)]) dX2_findMirror_81 3 rfl rfl (Nat.le_of_ble_eq_true rfl) rfl ?_
          refine ok_goto (t := 33) dX2_findMirror_84 (by decide) ?_
          refine ok_sub [1, 2, 3, 0] rfl ?_
          exact ih I b0 y3 y4 (y5 + 1) hZ_b0 h
        · have h := (if_neg hc5).symm.trans h
          refine ok_aload_n dX2_findMirror_64 0 rfl ?_
          refine ok_iload dX2_findMirror_65 3 rfl ?_
          refine ok_iload dX2_findMirror_67 2 rfl ?_
          refine ok_isub dX2_findMirror_69 ?_
          refine ok_iconst (v := 1) dX2_findMirror_70 (by decide) ?_
          refine ok_iadd dX2_findMirror_71 ?_
          obtain ⟨I6, eI6, h⟩ := blE h
          refine ok_putI2 (ci := 2) (k := 9) dX2_findMirror_72 flRX2_117 rfl (Or.inl rfl) hZ_b0 (by decide) eI6 ?_
          refine ok_aload_n dX2_findMirror_75 0 rfl ?_
          refine ok_iload dX2_findMirror_76 2 rfl ?_
          obtain ⟨I7, eI7, h⟩ := blE h
          refine ok_putI2 (ci := 2) (k := 8) dX2_findMirror_78 flRX2_114 rfl (Or.inl rfl) hZ_b0 (by decide) eI7 ?_
          refine ok_iinc (u := (y5 + 1)) (l' := [(5, .int (y5 + 1)), (0, .ref b0), (3, .int y3), (4, .int y4)]) dX2_findMirror_81 3 rfl rfl (Nat.le_of_ble_eq_true rfl) rfl ?_
          refine ok_goto (t := 33) dX2_findMirror_84 (by decide) ?_
          refine ok_sub [1, 2, 3, 0] rfl ?_
          exact ih I7 b0 y3 y4 (y5 + 1) hZ_b0 h
def f2_findMirror_c23 (n : Nat) (O : (Nat → Nat → Option Nat)) : Nat → (Nat → Nat → Int32) → Nat → Int32 → Int32 → Option ((Nat → Nat → Int32))
  | 0, _, _, _, _ => none
  | m + 1, I, b0, y3, y4 => (if y3 ≤ y4 then some (I) else f2_findMirror_c33 n O (f2_findMirror_c23 n O m) n I b0 y3 y4 y4)
set_option maxHeartbeats 4000000 in
set_option maxRecDepth 20000 in
theorem o2_findMirror_c23 {g : pG} {Qx : Option Value → pW → Prop} {Z : pZ} {L : (Nat → Nat → Int64)} {O : (Nat → Nat → Option Nat)} {n : Nat} {res : (Nat → Nat → Int32)} (d : Nat) (hW : WT Z O) (hQ : Qx none (Z, res, L, O)) : ∀ (m : Nat) (I : (Nat → Nat → Int32)) (b0 : Nat) (y3 : Int32) (y4 : Int32), (Z[b0]? = some (2, 10)) → f2_findMirror_c23 n O m I b0 y3 y4 = some res → Ok g (d + 5, RX2, cX2_findMirror, 6, false, 0, 0, Z.length, pSl Z) Qx 23 [(0, .ref b0), (3, .int y3), (4, .int y4)] [] (Z, I, L, O) := by
  intro m
  induction m with
  | zero => intro I b0 y3 y4 hZ_b0 h; rw [f2_findMirror_c23] at h; cases h
  | succ m ih =>
    intro I b0 y3 y4 hZ_b0 h
    rw [f2_findMirror_c23] at h
    refine ok_iload dX2_findMirror_23 2 rfl ?_
    refine ok_iload_n dX2_findMirror_25 1 rfl ?_
    refine ok_icmp_ge (t := 93) dX2_findMirror_26 (by decide) (fun hc1 => ?_) (fun hc1 => ?_)
    · have h := (if_pos hc1).symm.trans h
      cases h
      exact ok_vret dX2_findMirror_93 hQ
    · have h := (if_neg hc1).symm.trans h
      refine ok_iload dX2_findMirror_29 2 rfl ?_
      refine ok_istore (l' := [(5, .int y4), (0, .ref b0), (3, .int y3), (4, .int y4)]) dX2_findMirror_31 (Nat.le_of_ble_eq_true rfl) rfl ?_
      refine ok_sub [1, 2, 3, 0] rfl ?_
      exact o2_findMirror_c33 d hW hQ ih n I b0 y3 y4 y4 hZ_b0 h
def f2_findMirror (n : Nat) (I : (Nat → Nat → Int32)) (O : (Nat → Nat → Option Nat)) (a0 : Nat) (a1 : Nat) (x2 : Int32) : Option ((Nat → Nat → Int32)) := (f2_lay n I O a1 x2 (rO O a0 0)).bind fun r2 => bl (sI r2.2 a0 8 (-1 : Int32)) fun I4 => bl (sI I4 a0 9 (0 : Int32)) fun I5 => f2_findMirror_c23 n O n I5 a0 r2.1 (0 : Int32)
set_option maxHeartbeats 4000000 in
set_option maxRecDepth 20000 in
theorem o2_findMirror {g : pG} {Qx : Option Value → pW → Prop} {Z : pZ} {I : (Nat → Nat → Int32)} {L : (Nat → Nat → Int64)} {O : (Nat → Nat → Option Nat)} {n : Nat} {a0 : Nat} {a1 : Nat} {x2 : Int32} {res : (Nat → Nat → Int32)} (d : Nat) (hW : WT Z O) (hZ0 : Z[a0]? = some (2, 10)) (hZ1 : Z[a1]? = some (10, 5)) (h : f2_findMirror n I O a0 a1 x2 = some res) (hQ : Qx none (Z, res, L, O)) : Ok g (d + 5, RX2, cX2_findMirror, 6, false, 0, 0, Z.length, pSl Z) Qx 0 [(0, .ref a0), (1, .ref a1), (2, .int x2)] [] (Z, I, L, O) := by
  unfold f2_findMirror at h
  refine ok_aload_n dX2_findMirror_0 1 rfl ?_
  refine ok_iload_n dX2_findMirror_1 2 rfl ?_
  refine ok_aload_n dX2_findMirror_2 0 rfl ?_
  have hT1 : Z[(rO O a0 0)]? = some (13, 16) := (wt_f (ci := 2) (k := 0) hW hZ0 rfl).2
  refine ok_getR (ci := 2) (k := 0) dX2_findMirror_3 flRX2_9 rfl hW hZ0 (by decide) ?_
  obtain ⟨r2, hr3, h⟩ := bd h
  refine ok_callS (d := ((d + 0) + 4)) (mt := m2_lay) (mc := 0) (ms := 0) (As := [.ref a1, .int x2, .ref (rO O a0 0)]) (r := []) dX2_findMirror_6 mo2_lay mv2_lay lkRX2_55 rfl rfl (Nat.le_of_ble_eq_true rfl) (by show _ + 1 ≤ d + _; omega) (Nat.le_refl _) (Nat.le_refl _) (pRt_mono ?_)
  refine k2_lay (d + 0) hW hZ1 hT1 hr3 ?_
  intro _
  show Ok g _ Qx 9 [(0, .ref a0), (1, .ref a1), (2, .int x2)] [.int r2.1] (Z, r2.2, L, O)
  refine ok_istore_n (l' := [(3, .int r2.1), (0, .ref a0), (1, .ref a1), (2, .int x2)]) dX2_findMirror_9 rfl (Nat.le_of_ble_eq_true rfl) rfl ?_
  refine ok_aload_n dX2_findMirror_10 1 rfl ?_
  refine ok_iconst (v := (-1)) dX2_findMirror_11 (by decide) ?_
  obtain ⟨I4, eI4, h⟩ := blE h
  refine ok_putI2 (ci := 2) (k := 8) dX2_findMirror_12 flRX2_114 rfl (Or.inl rfl) hZ0 (by decide) eI4 ?_
  refine ok_aload_n dX2_findMirror_15 1 rfl ?_
  refine ok_iconst (v := 0) dX2_findMirror_16 (by decide) ?_
  obtain ⟨I5, eI5, h⟩ := blE h
  refine ok_putI2 (ci := 2) (k := 9) dX2_findMirror_17 flRX2_117 rfl (Or.inl rfl) hZ0 (by decide) eI5 ?_
  refine ok_iconst (v := 0) dX2_findMirror_20 (by decide) ?_
  refine ok_istore (l' := [(4, .int 0), (3, .int r2.1), (0, .ref a0), (1, .ref a1), (2, .int x2)]) dX2_findMirror_21 (Nat.le_of_ble_eq_true rfl) rfl ?_
  refine ok_sub [2, 1, 0] rfl ?_
  exact o2_findMirror_c23 d hW hQ  n I5 a0 r2.1 (0 : Int32) hZ0 h
theorem k2_findMirror {g : pG} {Q : Option Value → pW → Prop} {Z : pZ} {I : (Nat → Nat → Int32)} {L : (Nat → Nat → Int64)} {O : (Nat → Nat → Option Nat)} {n : Nat} {a0 : Nat} {a1 : Nat} {x2 : Int32} {res : (Nat → Nat → Int32)} (d : Nat) (hW : WT Z O) (hZ0 : Z[a0]? = some (2, 10)) (hZ1 : Z[a1]? = some (10, 5)) (h : f2_findMirror n I O a0 a1 x2 = some res) (hQ : Q none (Z, res, L, O)) : CT g (d + 5) m2_findMirror 0 0 [.ref a0, .ref a1, .int x2] (Z, I, L, O) Q :=
  ct_of_ok (mt := m2_findMirror) (ini := false) mo2_findMirror.2.2.2.2 (fun h => by cases h) (Nat.le_of_ble_eq_true rfl) (o2_findMirror d hW hZ0 hZ1 h ⟨trivial, hQ, rfl, rfl⟩)
theorem dX2_clashes_0 : decode cX2_clashes 0 = .ok (.aload_n 1, 1) := by decide +kernel
theorem dX2_clashes_1 : decode cX2_clashes 1 = .ok (.iload_n 2, 1) := by decide +kernel
theorem dX2_clashes_2 : decode cX2_clashes 2 = .ok (.aload_n 0, 1) := by decide +kernel
theorem dX2_clashes_3 : decode cX2_clashes 3 = .ok (.getfield 9, 3) := by decide +kernel
theorem dX2_clashes_6 : decode cX2_clashes 6 = .ok (.invokestatic 55, 3) := by decide +kernel
theorem dX2_clashes_9 : decode cX2_clashes 9 = .ok (.istore 5, 2) := by decide +kernel
theorem dX2_clashes_11 : decode cX2_clashes 11 = .ok (.aload_n 1, 1) := by decide +kernel
theorem dX2_clashes_12 : decode cX2_clashes 12 = .ok (.iload_n 3, 1) := by decide +kernel
theorem dX2_clashes_13 : decode cX2_clashes 13 = .ok (.aload_n 0, 1) := by decide +kernel
theorem dX2_clashes_14 : decode cX2_clashes 14 = .ok (.getfield 15, 3) := by decide +kernel
theorem dX2_clashes_17 : decode cX2_clashes 17 = .ok (.invokestatic 55, 3) := by decide +kernel
theorem dX2_clashes_20 : decode cX2_clashes 20 = .ok (.istore 6, 2) := by decide +kernel
theorem dX2_clashes_22 : decode cX2_clashes 22 = .ok (.iconst 0, 1) := by decide +kernel
theorem dX2_clashes_23 : decode cX2_clashes 23 = .ok (.istore 7, 2) := by decide +kernel
theorem dX2_clashes_25 : decode cX2_clashes 25 = .ok (.iconst 0, 1) := by decide +kernel
theorem dX2_clashes_26 : decode cX2_clashes 26 = .ok (.istore 8, 2) := by decide +kernel
theorem dX2_clashes_28 : decode cX2_clashes 28 = .ok (.iload 8, 2) := by decide +kernel
theorem dX2_clashes_30 : decode cX2_clashes 30 = .ok (.iload 6, 2) := by decide +kernel
theorem dX2_clashes_32 : decode cX2_clashes 32 = .ok (.if_icmp .ge 45, 3) := by decide +kernel
theorem dX2_clashes_35 : decode cX2_clashes 35 = .ok (.iload 8, 2) := by decide +kernel
theorem dX2_clashes_37 : decode cX2_clashes 37 = .ok (.iload 4, 2) := by decide +kernel
theorem dX2_clashes_39 : decode cX2_clashes 39 = .ok (.iadd, 1) := by decide +kernel
theorem dX2_clashes_40 : decode cX2_clashes 40 = .ok (.iload 5, 2) := by decide +kernel
theorem dX2_clashes_42 : decode cX2_clashes 42 = .ok (.if_icmp .ge 35, 3) := by decide +kernel
theorem dX2_clashes_45 : decode cX2_clashes 45 = .ok (.aload_n 0, 1) := by decide +kernel
theorem dX2_clashes_46 : decode cX2_clashes 46 = .ok (.getfield 9, 3) := by decide +kernel
theorem dX2_clashes_49 : decode cX2_clashes 49 = .ok (.iload 8, 2) := by decide +kernel
theorem dX2_clashes_51 : decode cX2_clashes 51 = .ok (.iload 4, 2) := by decide +kernel
theorem dX2_clashes_53 : decode cX2_clashes 53 = .ok (.iadd, 1) := by decide +kernel
theorem dX2_clashes_54 : decode cX2_clashes 54 = .ok (.iaload, 1) := by decide +kernel
theorem dX2_clashes_55 : decode cX2_clashes 55 = .ok (.aload_n 0, 1) := by decide +kernel
theorem dX2_clashes_56 : decode cX2_clashes 56 = .ok (.getfield 15, 3) := by decide +kernel
theorem dX2_clashes_59 : decode cX2_clashes 59 = .ok (.iload 8, 2) := by decide +kernel
theorem dX2_clashes_61 : decode cX2_clashes 61 = .ok (.iaload, 1) := by decide +kernel
theorem dX2_clashes_62 : decode cX2_clashes 62 = .ok (.invokestatic 75, 3) := by decide +kernel
theorem dX2_clashes_65 : decode cX2_clashes 65 = .ok (.ifCond .eq 6, 3) := by decide +kernel
theorem dX2_clashes_68 : decode cX2_clashes 68 = .ok (.iinc 7 1, 3) := by decide +kernel
theorem dX2_clashes_71 : decode cX2_clashes 71 = .ok (.iinc 8 1, 3) := by decide +kernel
theorem dX2_clashes_74 : decode cX2_clashes 74 = .ok (.goto (-46), 3) := by decide +kernel
theorem dX2_clashes_77 : decode cX2_clashes 77 = .ok (.iload 7, 2) := by decide +kernel
theorem dX2_clashes_79 : decode cX2_clashes 79 = .ok (.ireturn, 1) := by decide +kernel
def m2_clashes : pMT := (yX2_clashes, cX2_clashes, 9, some .int)
theorem mo2_clashes : mOK m2_clashes 4 := ⟨tb_i 1099 (by decide +kernel), wi_RX2, ⟨wn_RX2.1, wn_RX2.2, by decide +kernel⟩, by decide, plainFor_of_name wp_RX2⟩
theorem mv2_clashes : mV m2_clashes := ⟨tb_i 1097 (by decide +kernel), tb_i 1098 (by decide +kernel)⟩
def f2_clashes_c28 (n : Nat) (O : (Nat → Nat → Option Nat)) : Nat → (Nat → Nat → Int32) → Nat → Int32 → Int32 → Int32 → Int32 → Int32 → Option (Int32 × (Nat → Nat → Int32))
  | 0, _, _, _, _, _, _, _ => none
  | m + 1, I, b0, y4, y5, y6, y7, y8 => (if y6 ≤ y8 then some (y7, I) else (if y5 ≤ (y8 + y4) then some (y7, I) else (if (y8 + y4) < 0 ∨ 16 ≤ (y8 + y4).toNatClampNeg then none else (if y8 < 0 ∨ 16 ≤ y8.toNatClampNeg then none else (f2_isSameHole (I (rO O b0 0) (y8 + y4).toNatClampNeg) (I (rO O b0 1) y8.toNatClampNeg)).bind fun r7 => (if r7 = 0 then f2_clashes_c28 n O m I b0 y4 y5 y6 y7 (y8 + 1) else f2_clashes_c28 n O m I b0 y4 y5 y6 (y7 + 1) (y8 + 1))))))
set_option maxHeartbeats 4000000 in
set_option maxRecDepth 20000 in
theorem o2_clashes_c28 {g : pG} {Qx : Option Value → pW → Prop} {Z : pZ} {L : (Nat → Nat → Int64)} {O : (Nat → Nat → Option Nat)} {n : Nat} {res : Int32 × (Nat → Nat → Int32)} (d : Nat) (hW : WT Z O) (hQ : Qx (some (.int res.1)) (Z, res.2, L, O)) : ∀ (m : Nat) (I : (Nat → Nat → Int32)) (b0 : Nat) (y4 : Int32) (y5 : Int32) (y6 : Int32) (y7 : Int32) (y8 : Int32), (Z[b0]? = some (2, 10)) → f2_clashes_c28 n O m I b0 y4 y5 y6 y7 y8 = some res → Ok g (d + 5, RX2, cX2_clashes, 9, false, 0, 0, Z.length, pSl Z) Qx 28 [(0, .ref b0), (4, .int y4), (5, .int y5), (6, .int y6), (7, .int y7), (8, .int y8)] [] (Z, I, L, O) := by
  intro m
  induction m with
  | zero => intro I b0 y4 y5 y6 y7 y8 hZ_b0 h; rw [f2_clashes_c28] at h; cases h
  | succ m ih =>
    intro I b0 y4 y5 y6 y7 y8 hZ_b0 h
    rw [f2_clashes_c28] at h
    refine ok_iload dX2_clashes_28 5 rfl ?_
    refine ok_iload dX2_clashes_30 3 rfl ?_
    refine ok_icmp_ge (t := 77) dX2_clashes_32 (by decide) (fun hc1 => ?_) (fun hc1 => ?_)
    · have h := (if_pos hc1).symm.trans h
      refine ok_iload dX2_clashes_77 4 rfl ?_
      cases h
      exact ok_iret dX2_clashes_79 hQ
    · have h := (if_neg hc1).symm.trans h
      refine ok_iload dX2_clashes_35 5 rfl ?_
      refine ok_iload dX2_clashes_37 1 rfl ?_
      refine ok_iadd dX2_clashes_39 ?_
      refine ok_iload dX2_clashes_40 2 rfl ?_
      refine ok_icmp_ge (t := 77) dX2_clashes_42 (by decide) (fun hc2 => ?_) (fun hc2 => ?_)
      · have h := (if_pos hc2).symm.trans h
        refine ok_iload dX2_clashes_77 4 rfl ?_
        cases h
        exact ok_iret dX2_clashes_79 hQ
      · have h := (if_neg hc2).symm.trans h
        refine ok_aload_n dX2_clashes_45 0 rfl ?_
        have hT3 : Z[(rO O b0 0)]? = some (13, 16) := (wt_f (ci := 2) (k := 0) hW hZ_b0 rfl).2
        refine ok_getR (ci := 2) (k := 0) dX2_clashes_46 flRX2_9 rfl hW hZ_b0 (by decide) ?_
        refine ok_iload dX2_clashes_49 5 rfl ?_
        refine ok_iload dX2_clashes_51 1 rfl ?_
        refine ok_iadd dX2_clashes_53 ?_
        obtain ⟨hg4, h⟩ := gd h
        refine ok_iald2 (N := (y8 + y4).toNatClampNeg) dX2_clashes_54 hT3 hg4 rfl ?_
        refine ok_aload_n dX2_clashes_55 0 rfl ?_
        have hT5 : Z[(rO O b0 1)]? = some (13, 16) := (wt_f (ci := 2) (k := 1) hW hZ_b0 rfl).2
        refine ok_getR (ci := 2) (k := 1) dX2_clashes_56 flRX2_15 rfl hW hZ_b0 (by decide) ?_
        refine ok_iload dX2_clashes_59 5 rfl ?_
        obtain ⟨hg6, h⟩ := gd h
        refine ok_iald2 (N := y8.toNatClampNeg) dX2_clashes_61 hT5 hg6 rfl ?_
        obtain ⟨r7, hr8, h⟩ := bd h
        refine ok_callS (d := ((d + 1) + 3)) (mt := m2_isSameHole) (mc := 0) (ms := 0) (As := [.int (I (rO O b0 0) (y8 + y4).toNatClampNeg), .int (I (rO O b0 1) y8.toNatClampNeg)]) (r := []) dX2_clashes_62 mo2_isSameHole mv2_isSameHole lkRX2_75 rfl rfl (Nat.le_of_ble_eq_true rfl) (by show _ + 1 ≤ d + _; omega) (Nat.le_refl _) (Nat.le_refl _) (pRt_mono ?_)
        refine k2_isSameHole (d + 1) hW  hr8 ?_
        intro hbr7
        show Ok g _ Qx 65 [(0, .ref b0), (4, .int y4), (5, .int y5), (6, .int y6), (7, .int y7), (8, .int y8)] [.int r7] (Z, I, L, O)
        refine ok_if_eq (t := 71) dX2_clashes_65 (by decide) (fun hc9 => ?_) (fun hc9 => ?_)
        · have h := (if_pos hc9).symm.trans h
          refine ok_iinc (u := (y8 + 1)) (l' := [(8, .int (y8 + 1)), (0, .ref b0), (4, .int y4), (5, .int y5), (6, .int y6), (7, .int y7)]) dX2_clashes_71 5 rfl rfl (Nat.le_of_ble_eq_true rfl) rfl ?_
          refine ok_goto (t := 28) dX2_clashes_74 (by decide) ?_
          refine ok_sub [1, 2, 3, 4, 5, 0] rfl ?_
          exact ih I b0 y4 y5 y6 y7 (y8 + 1) hZ_b0 h
        · have h := (if_neg hc9).symm.trans h
          refine ok_iinc (u := (y7 + 1)) (l' := [(7, .int (y7 + 1)), (0, .ref b0), (4, .int y4), (5, .int y5), (6, .int y6), (8, .int y8)]) dX2_clashes_68 4 rfl rfl (Nat.le_of_ble_eq_true rfl) rfl ?_
          refine ok_iinc (u := (y8 + 1)) (l' := [(8, .int (y8 + 1)), (7, .int (y7 + 1)), (0, .ref b0), (4, .int y4), (5, .int y5), (6, .int y6)]) dX2_clashes_71 5 rfl rfl (Nat.le_of_ble_eq_true rfl) rfl ?_
          refine ok_goto (t := 28) dX2_clashes_74 (by decide) ?_
          refine ok_sub [2, 3, 4, 5, 1, 0] rfl ?_
          exact ih I b0 y4 y5 y6 (y7 + 1) (y8 + 1) hZ_b0 h
def f2_clashes (n : Nat) (I : (Nat → Nat → Int32)) (O : (Nat → Nat → Option Nat)) (a0 : Nat) (a1 : Nat) (x2 : Int32) (x3 : Int32) (x4 : Int32) : Option (Int32 × (Nat → Nat → Int32)) := (f2_lay n I O a1 x2 (rO O a0 0)).bind fun r2 => (f2_lay n r2.2 O a1 x3 (rO O a0 1)).bind fun r5 => f2_clashes_c28 n O n r5.2 a0 x4 r2.1 r5.1 (0 : Int32) (0 : Int32)
set_option maxHeartbeats 4000000 in
set_option maxRecDepth 20000 in
theorem o2_clashes {g : pG} {Qx : Option Value → pW → Prop} {Z : pZ} {I : (Nat → Nat → Int32)} {L : (Nat → Nat → Int64)} {O : (Nat → Nat → Option Nat)} {n : Nat} {a0 : Nat} {a1 : Nat} {x2 : Int32} {x3 : Int32} {x4 : Int32} {res : Int32 × (Nat → Nat → Int32)} (d : Nat) (hW : WT Z O) (hZ0 : Z[a0]? = some (2, 10)) (hZ1 : Z[a1]? = some (10, 5)) (h : f2_clashes n I O a0 a1 x2 x3 x4 = some res) (hQ : Qx (some (.int res.1)) (Z, res.2, L, O)) : Ok g (d + 5, RX2, cX2_clashes, 9, false, 0, 0, Z.length, pSl Z) Qx 0 [(0, .ref a0), (1, .ref a1), (2, .int x2), (3, .int x3), (4, .int x4)] [] (Z, I, L, O) := by
  unfold f2_clashes at h
  refine ok_aload_n dX2_clashes_0 1 rfl ?_
  refine ok_iload_n dX2_clashes_1 2 rfl ?_
  refine ok_aload_n dX2_clashes_2 0 rfl ?_
  have hT1 : Z[(rO O a0 0)]? = some (13, 16) := (wt_f (ci := 2) (k := 0) hW hZ0 rfl).2
  refine ok_getR (ci := 2) (k := 0) dX2_clashes_3 flRX2_9 rfl hW hZ0 (by decide) ?_
  obtain ⟨r2, hr3, h⟩ := bd h
  refine ok_callS (d := ((d + 0) + 4)) (mt := m2_lay) (mc := 0) (ms := 0) (As := [.ref a1, .int x2, .ref (rO O a0 0)]) (r := []) dX2_clashes_6 mo2_lay mv2_lay lkRX2_55 rfl rfl (Nat.le_of_ble_eq_true rfl) (by show _ + 1 ≤ d + _; omega) (Nat.le_refl _) (Nat.le_refl _) (pRt_mono ?_)
  refine k2_lay (d + 0) hW hZ1 hT1 hr3 ?_
  intro _
  show Ok g _ Qx 9 [(0, .ref a0), (1, .ref a1), (2, .int x2), (3, .int x3), (4, .int x4)] [.int r2.1] (Z, r2.2, L, O)
  refine ok_istore (l' := [(5, .int r2.1), (0, .ref a0), (1, .ref a1), (2, .int x2), (3, .int x3), (4, .int x4)]) dX2_clashes_9 (Nat.le_of_ble_eq_true rfl) rfl ?_
  refine ok_aload_n dX2_clashes_11 2 rfl ?_
  refine ok_iload_n dX2_clashes_12 4 rfl ?_
  refine ok_aload_n dX2_clashes_13 1 rfl ?_
  have hT4 : Z[(rO O a0 1)]? = some (13, 16) := (wt_f (ci := 2) (k := 1) hW hZ0 rfl).2
  refine ok_getR (ci := 2) (k := 1) dX2_clashes_14 flRX2_15 rfl hW hZ0 (by decide) ?_
  obtain ⟨r5, hr6, h⟩ := bd h
  refine ok_callS (d := ((d + 0) + 4)) (mt := m2_lay) (mc := 0) (ms := 0) (As := [.ref a1, .int x3, .ref (rO O a0 1)]) (r := []) dX2_clashes_17 mo2_lay mv2_lay lkRX2_55 rfl rfl (Nat.le_of_ble_eq_true rfl) (by show _ + 1 ≤ d + _; omega) (Nat.le_refl _) (Nat.le_refl _) (pRt_mono ?_)
  refine k2_lay (d + 0) hW hZ1 hT4 hr6 ?_
  intro _
  show Ok g _ Qx 20 [(5, .int r2.1), (0, .ref a0), (1, .ref a1), (2, .int x2), (3, .int x3), (4, .int x4)] [.int r5.1] (Z, r5.2, L, O)
  refine ok_istore (l' := [(6, .int r5.1), (5, .int r2.1), (0, .ref a0), (1, .ref a1), (2, .int x2), (3, .int x3), (4, .int x4)]) dX2_clashes_20 (Nat.le_of_ble_eq_true rfl) rfl ?_
  refine ok_iconst (v := 0) dX2_clashes_22 (by decide) ?_
  refine ok_istore (l' := [(7, .int 0), (6, .int r5.1), (5, .int r2.1), (0, .ref a0), (1, .ref a1), (2, .int x2), (3, .int x3), (4, .int x4)]) dX2_clashes_23 (Nat.le_of_ble_eq_true rfl) rfl ?_
  refine ok_iconst (v := 0) dX2_clashes_25 (by decide) ?_
  refine ok_istore (l' := [(8, .int 0), (7, .int 0), (6, .int r5.1), (5, .int r2.1), (0, .ref a0), (1, .ref a1), (2, .int x2), (3, .int x3), (4, .int x4)]) dX2_clashes_26 (Nat.le_of_ble_eq_true rfl) rfl ?_
  refine ok_sub [4, 8, 3, 2, 1, 0] rfl ?_
  exact o2_clashes_c28 d hW hQ  n r5.2 a0 x4 r2.1 r5.1 (0 : Int32) (0 : Int32) hZ0 h
theorem k2_clashes {g : pG} {Q : Option Value → pW → Prop} {Z : pZ} {I : (Nat → Nat → Int32)} {L : (Nat → Nat → Int64)} {O : (Nat → Nat → Option Nat)} {n : Nat} {a0 : Nat} {a1 : Nat} {x2 : Int32} {x3 : Int32} {x4 : Int32} {res : Int32 × (Nat → Nat → Int32)} (d : Nat) (hW : WT Z O) (hZ0 : Z[a0]? = some (2, 10)) (hZ1 : Z[a1]? = some (10, 5)) (h : f2_clashes n I O a0 a1 x2 x3 x4 = some res) (hQ : Q (some (.int res.1)) (Z, res.2, L, O)) : CT g (d + 5) m2_clashes 0 0 [.ref a0, .ref a1, .int x2, .int x3, .int x4] (Z, I, L, O) Q :=
  ct_of_ok (mt := m2_clashes) (ini := false) mo2_clashes.2.2.2.2 (fun h => by cases h) (Nat.le_of_ble_eq_true rfl) (o2_clashes d hW hZ0 hZ1 h ⟨trivial, hQ, rfl, rfl⟩)
theorem dX2_longestAhead_0 : decode cX2_longestAhead 0 = .ok (.iconst 0, 1) := by decide +kernel
theorem dX2_longestAhead_1 : decode cX2_longestAhead 1 = .ok (.istore_n 3, 1) := by decide +kernel
theorem dX2_longestAhead_2 : decode cX2_longestAhead 2 = .ok (.iconst 0, 1) := by decide +kernel
theorem dX2_longestAhead_3 : decode cX2_longestAhead 3 = .ok (.istore 4, 2) := by decide +kernel
theorem dX2_longestAhead_5 : decode cX2_longestAhead 5 = .ok (.iload 4, 2) := by decide +kernel
theorem dX2_longestAhead_7 : decode cX2_longestAhead 7 = .ok (.iload_n 1, 1) := by decide +kernel
theorem dX2_longestAhead_8 : decode cX2_longestAhead 8 = .ok (.if_icmp .ge 22, 3) := by decide +kernel
theorem dX2_longestAhead_11 : decode cX2_longestAhead 11 = .ok (.iload_n 3, 1) := by decide +kernel
theorem dX2_longestAhead_12 : decode cX2_longestAhead 12 = .ok (.aload_n 0, 1) := by decide +kernel
theorem dX2_longestAhead_13 : decode cX2_longestAhead 13 = .ok (.iload 4, 2) := by decide +kernel
theorem dX2_longestAhead_15 : decode cX2_longestAhead 15 = .ok (.iload_n 1, 1) := by decide +kernel
theorem dX2_longestAhead_16 : decode cX2_longestAhead 16 = .ok (.iload_n 2, 1) := by decide +kernel
theorem dX2_longestAhead_17 : decode cX2_longestAhead 17 = .ok (.invokevirtual 120, 3) := by decide +kernel
theorem dX2_longestAhead_20 : decode cX2_longestAhead 20 = .ok (.invokestatic 72, 3) := by decide +kernel
theorem dX2_longestAhead_23 : decode cX2_longestAhead 23 = .ok (.istore_n 3, 1) := by decide +kernel
theorem dX2_longestAhead_24 : decode cX2_longestAhead 24 = .ok (.iinc 4 1, 3) := by decide +kernel
theorem dX2_longestAhead_27 : decode cX2_longestAhead 27 = .ok (.goto (-22), 3) := by decide +kernel
theorem dX2_longestAhead_30 : decode cX2_longestAhead 30 = .ok (.iload_n 3, 1) := by decide +kernel
theorem dX2_longestAhead_31 : decode cX2_longestAhead 31 = .ok (.ireturn, 1) := by decide +kernel
def m2_longestAhead : pMT := (yX2_longestAhead, cX2_longestAhead, 5, some .int)
theorem mo2_longestAhead : mOK m2_longestAhead 2 := ⟨tb_i 1227 (by decide +kernel), wi_RX2, ⟨wn_RX2.1, wn_RX2.2, by decide +kernel⟩, by decide, plainFor_of_name wp_RX2⟩
theorem mv2_longestAhead : mV m2_longestAhead := ⟨tb_i 1226 (by decide +kernel), tb_p 56 (by decide +kernel)⟩
def f2_longestAhead_c5 (n : Nat) (I : (Nat → Nat → Int32)) (O : (Nat → Nat → Option Nat)) : Nat → Nat → Int32 → Int32 → Int32 → Int32 → Option (Int32)
  | 0, _, _, _, _, _ => none
  | m + 1, b0, y1, y2, y3, y4 => (if y1 ≤ y4 then some (y3) else (f2_sameFrom n I O b0 y4 y1 y2).bind fun r2 => (fJ9_max_7cf53 y3 r2).bind fun r4 => f2_longestAhead_c5 n I O m b0 y1 y2 r4 (y4 + 1))
set_option maxHeartbeats 4000000 in
set_option maxRecDepth 20000 in
theorem o2_longestAhead_c5 {g : pG} {Qx : Option Value → pW → Prop} {Z : pZ} {I : (Nat → Nat → Int32)} {L : (Nat → Nat → Int64)} {O : (Nat → Nat → Option Nat)} {n : Nat} {res : Int32} (d : Nat) (hW : WT Z O) (hQ : Qx (some (.int res)) (Z, I, L, O)) : ∀ (m : Nat) (b0 : Nat) (y1 : Int32) (y2 : Int32) (y3 : Int32) (y4 : Int32), (Z[b0]? = some (2, 10)) → f2_longestAhead_c5 n I O m b0 y1 y2 y3 y4 = some res → Ok g (d + 4, RX2, cX2_longestAhead, 5, false, 0, 0, Z.length, pSl Z) Qx 5 [(0, .ref b0), (1, .int y1), (2, .int y2), (3, .int y3), (4, .int y4)] [] (Z, I, L, O) := by
  intro m
  induction m with
  | zero => intro b0 y1 y2 y3 y4 hZ_b0 h; rw [f2_longestAhead_c5] at h; cases h
  | succ m ih =>
    intro b0 y1 y2 y3 y4 hZ_b0 h
    rw [f2_longestAhead_c5] at h
    refine ok_iload dX2_longestAhead_5 4 rfl ?_
    refine ok_iload_n dX2_longestAhead_7 1 rfl ?_
    refine ok_icmp_ge (t := 30) dX2_longestAhead_8 (by decide) (fun hc1 => ?_) (fun hc1 => ?_)
    · have h := (if_pos hc1).symm.trans h
      refine ok_iload_n dX2_longestAhead_30 3 rfl ?_
      cases h
      exact ok_iret dX2_longestAhead_31 hQ
    · have h := (if_neg hc1).symm.trans h
      refine ok_iload_n dX2_longestAhead_11 3 rfl ?_
      refine ok_aload_n dX2_longestAhead_12 0 rfl ?_
      refine ok_iload dX2_longestAhead_13 4 rfl ?_
      refine ok_iload_n dX2_longestAhead_15 1 rfl ?_
      refine ok_iload_n dX2_longestAhead_16 2 rfl ?_
      obtain ⟨r2, hr3, h⟩ := bd h
      refine ok_callV (d := ((d + 0) + 3)) (mt := m2_sameFrom) (mc := 0) (ms := 0) (As := [.int y4, .int y1, .int y2]) (r := [.int y3]) dX2_longestAhead_17 mo2_sameFrom mv2_sameFrom lkRX2_120 rfl hZ_b0 (q := (RX2, TX2, 10)) rfl rfl rfl (Nat.le_of_ble_eq_true rfl) (by show _ + 1 ≤ d + _; omega) (Nat.le_refl _) (Nat.le_refl _) (pRt_mono ?_)
      refine k2_sameFrom (d + 0) hW hZ_b0 hr3 ?_
      intro _
      show Ok g _ Qx 20 [(0, .ref b0), (1, .int y1), (2, .int y2), (3, .int y3), (4, .int y4)] [.int r2, .int y3] (Z, I, L, O)
      obtain ⟨r4, hr5, h⟩ := bd h
      refine ok_callS (d := ((d + 1) + 2)) (mt := mJ9_max_7cf53) (mc := 0) (ms := 0) (As := [.int y3, .int r2]) (r := []) dX2_longestAhead_20 moJ9_max_7cf53 mvJ9_max_7cf53 lkRX2_72 rfl rfl (Nat.le_of_ble_eq_true rfl) (by show _ + 1 ≤ d + _; omega) (Nat.le_refl _) (Nat.le_refl _) (pRt_mono ?_)
      refine kJ9_max_7cf53 (d + 1) hW  hr5 ?_
      intro _
      show Ok g _ Qx 23 [(0, .ref b0), (1, .int y1), (2, .int y2), (3, .int y3), (4, .int y4)] [.int r4] (Z, I, L, O)
      refine ok_istore_n (l' := [(3, .int r4), (0, .ref b0), (1, .int y1), (2, .int y2), (4, .int y4)]) dX2_longestAhead_23 rfl (Nat.le_of_ble_eq_true rfl) rfl ?_
      refine ok_iinc (u := (y4 + 1)) (l' := [(4, .int (y4 + 1)), (3, .int r4), (0, .ref b0), (1, .int y1), (2, .int y2)]) dX2_longestAhead_24 4 rfl rfl (Nat.le_of_ble_eq_true rfl) rfl ?_
      refine ok_goto (t := 5) dX2_longestAhead_27 (by decide) ?_
      refine ok_sub [2, 3, 4, 1, 0] rfl ?_
      exact ih b0 y1 y2 r4 (y4 + 1) hZ_b0 h
def f2_longestAhead (n : Nat) (I : (Nat → Nat → Int32)) (O : (Nat → Nat → Option Nat)) (a0 : Nat) (x1 : Int32) (x2 : Int32) : Option (Int32) := f2_longestAhead_c5 n I O n a0 x1 x2 (0 : Int32) (0 : Int32)
set_option maxHeartbeats 4000000 in
set_option maxRecDepth 20000 in
theorem o2_longestAhead {g : pG} {Qx : Option Value → pW → Prop} {Z : pZ} {I : (Nat → Nat → Int32)} {L : (Nat → Nat → Int64)} {O : (Nat → Nat → Option Nat)} {n : Nat} {a0 : Nat} {x1 : Int32} {x2 : Int32} {res : Int32} (d : Nat) (hW : WT Z O) (hZ0 : Z[a0]? = some (2, 10)) (h : f2_longestAhead n I O a0 x1 x2 = some res) (hQ : Qx (some (.int res)) (Z, I, L, O)) : Ok g (d + 4, RX2, cX2_longestAhead, 5, false, 0, 0, Z.length, pSl Z) Qx 0 [(0, .ref a0), (1, .int x1), (2, .int x2)] [] (Z, I, L, O) := by
  unfold f2_longestAhead at h
  refine ok_iconst (v := 0) dX2_longestAhead_0 (by decide) ?_
  refine ok_istore_n (l' := [(3, .int 0), (0, .ref a0), (1, .int x1), (2, .int x2)]) dX2_longestAhead_1 rfl (Nat.le_of_ble_eq_true rfl) rfl ?_
  refine ok_iconst (v := 0) dX2_longestAhead_2 (by decide) ?_
  refine ok_istore (l' := [(4, .int 0), (3, .int 0), (0, .ref a0), (1, .int x1), (2, .int x2)]) dX2_longestAhead_3 (Nat.le_of_ble_eq_true rfl) rfl ?_
  refine ok_sub [2, 3, 4, 1, 0] rfl ?_
  exact o2_longestAhead_c5 d hW hQ  n a0 x1 x2 (0 : Int32) (0 : Int32) hZ0 h
theorem k2_longestAhead {g : pG} {Q : Option Value → pW → Prop} {Z : pZ} {I : (Nat → Nat → Int32)} {L : (Nat → Nat → Int64)} {O : (Nat → Nat → Option Nat)} {n : Nat} {a0 : Nat} {x1 : Int32} {x2 : Int32} {res : Int32} (d : Nat) (hW : WT Z O) (hZ0 : Z[a0]? = some (2, 10)) (h : f2_longestAhead n I O a0 x1 x2 = some res) (hQ : Q (some (.int res)) (Z, I, L, O)) : CT g (d + 4) m2_longestAhead 0 0 [.ref a0, .int x1, .int x2] (Z, I, L, O) Q :=
  ct_of_ok (mt := m2_longestAhead) (ini := false) mo2_longestAhead.2.2.2.2 (fun h => by cases h) (Nat.le_of_ble_eq_true rfl) (o2_longestAhead d hW hZ0 h ⟨trivial, hQ, rfl, rfl⟩)
theorem dX2_pieces_0 : decode cX2_pieces 0 = .ok (.aload_n 1, 1) := by decide +kernel
theorem dX2_pieces_1 : decode cX2_pieces 1 = .ok (.iload_n 2, 1) := by decide +kernel
theorem dX2_pieces_2 : decode cX2_pieces 2 = .ok (.invokevirtual 33, 3) := by decide +kernel
theorem dX2_pieces_5 : decode cX2_pieces 5 = .ok (.bipush 16, 2) := by decide +kernel
theorem dX2_pieces_7 : decode cX2_pieces 7 = .ok (.invokestatic 39, 3) := by decide +kernel
theorem dX2_pieces_10 : decode cX2_pieces 10 = .ok (.istore_n 3, 1) := by decide +kernel
theorem dX2_pieces_11 : decode cX2_pieces 11 = .ok (.iconst 0, 1) := by decide +kernel
theorem dX2_pieces_12 : decode cX2_pieces 12 = .ok (.istore 4, 2) := by decide +kernel
theorem dX2_pieces_14 : decode cX2_pieces 14 = .ok (.iload 4, 2) := by decide +kernel
theorem dX2_pieces_16 : decode cX2_pieces 16 = .ok (.iload_n 3, 1) := by decide +kernel
theorem dX2_pieces_17 : decode cX2_pieces 17 = .ok (.if_icmp .ge 23, 3) := by decide +kernel
theorem dX2_pieces_20 : decode cX2_pieces 20 = .ok (.aload_n 0, 1) := by decide +kernel
theorem dX2_pieces_21 : decode cX2_pieces 21 = .ok (.getfield 9, 3) := by decide +kernel
theorem dX2_pieces_24 : decode cX2_pieces 24 = .ok (.iload 4, 2) := by decide +kernel
theorem dX2_pieces_26 : decode cX2_pieces 26 = .ok (.aload_n 1, 1) := by decide +kernel
theorem dX2_pieces_27 : decode cX2_pieces 27 = .ok (.iload_n 2, 1) := by decide +kernel
theorem dX2_pieces_28 : decode cX2_pieces 28 = .ok (.iload 4, 2) := by decide +kernel
theorem dX2_pieces_30 : decode cX2_pieces 30 = .ok (.invokevirtual 49, 3) := by decide +kernel
theorem dX2_pieces_33 : decode cX2_pieces 33 = .ok (.iastore, 1) := by decide +kernel
theorem dX2_pieces_34 : decode cX2_pieces 34 = .ok (.iinc 4 1, 3) := by decide +kernel
theorem dX2_pieces_37 : decode cX2_pieces 37 = .ok (.goto (-23), 3) := by decide +kernel
theorem dX2_pieces_40 : decode cX2_pieces 40 = .ok (.iconst 0, 1) := by decide +kernel
theorem dX2_pieces_41 : decode cX2_pieces 41 = .ok (.istore 4, 2) := by decide +kernel
theorem dX2_pieces_43 : decode cX2_pieces 43 = .ok (.iconst 0, 1) := by decide +kernel
theorem dX2_pieces_44 : decode cX2_pieces 44 = .ok (.istore 5, 2) := by decide +kernel
theorem dX2_pieces_46 : decode cX2_pieces 46 = .ok (.iload 5, 2) := by decide +kernel
theorem dX2_pieces_48 : decode cX2_pieces 48 = .ok (.iload_n 3, 1) := by decide +kernel
theorem dX2_pieces_49 : decode cX2_pieces 49 = .ok (.if_icmp .ge 24, 3) := by decide +kernel
theorem dX2_pieces_52 : decode cX2_pieces 52 = .ok (.iload 5, 2) := by decide +kernel
theorem dX2_pieces_54 : decode cX2_pieces 54 = .ok (.aload_n 0, 1) := by decide +kernel
theorem dX2_pieces_55 : decode cX2_pieces 55 = .ok (.iload 5, 2) := by decide +kernel
theorem dX2_pieces_57 : decode cX2_pieces 57 = .ok (.iload_n 3, 1) := by decide +kernel
theorem dX2_pieces_58 : decode cX2_pieces 58 = .ok (.invokevirtual 126, 3) := by decide +kernel
theorem dX2_pieces_61 : decode cX2_pieces 61 = .ok (.iadd, 1) := by decide +kernel
theorem dX2_pieces_62 : decode cX2_pieces 62 = .ok (.istore 5, 2) := by decide +kernel
theorem dX2_pieces_64 : decode cX2_pieces 64 = .ok (.iinc 4 1, 3) := by decide +kernel
theorem dX2_pieces_67 : decode cX2_pieces 67 = .ok (.iinc 5 1, 3) := by decide +kernel
theorem dX2_pieces_70 : decode cX2_pieces 70 = .ok (.goto (-24), 3) := by decide +kernel
theorem dX2_pieces_73 : decode cX2_pieces 73 = .ok (.iload 4, 2) := by decide +kernel
theorem dX2_pieces_75 : decode cX2_pieces 75 = .ok (.ireturn, 1) := by decide +kernel
def m2_pieces : pMT := (yX2_pieces, cX2_pieces, 6, some .int)
theorem mo2_pieces : mOK m2_pieces 2 := ⟨tb_i 1223 (by decide +kernel), wi_RX2, ⟨wn_RX2.1, wn_RX2.2, by decide +kernel⟩, by decide, plainFor_of_name wp_RX2⟩
theorem mv2_pieces : mV m2_pieces := ⟨tb_i 1221 (by decide +kernel), tb_i 1222 (by decide +kernel)⟩
def f2_pieces_c46 (n : Nat) (O : (Nat → Nat → Option Nat)) : Nat → (Nat → Nat → Int32) → Nat → Int32 → Int32 → Int32 → Option (Int32 × (Nat → Nat → Int32))
  | 0, _, _, _, _, _ => none
  | m + 1, I, b0, y3, y4, y5 => (if y3 ≤ y5 then some (y4, I) else (f2_longestAhead n I O b0 y5 y3).bind fun r2 => f2_pieces_c46 n O m I b0 y3 (y4 + 1) ((y5 + r2) + 1))
set_option maxHeartbeats 4000000 in
set_option maxRecDepth 20000 in
theorem o2_pieces_c46 {g : pG} {Qx : Option Value → pW → Prop} {Z : pZ} {L : (Nat → Nat → Int64)} {O : (Nat → Nat → Option Nat)} {n : Nat} {res : Int32 × (Nat → Nat → Int32)} (d : Nat) (hW : WT Z O) (hQ : Qx (some (.int res.1)) (Z, res.2, L, O)) : ∀ (m : Nat) (I : (Nat → Nat → Int32)) (b0 : Nat) (y3 : Int32) (y4 : Int32) (y5 : Int32), (Z[b0]? = some (2, 10)) → f2_pieces_c46 n O m I b0 y3 y4 y5 = some res → Ok g (d + 5, RX2, cX2_pieces, 6, false, 0, 0, Z.length, pSl Z) Qx 46 [(0, .ref b0), (3, .int y3), (4, .int y4), (5, .int y5)] [] (Z, I, L, O) := by
  intro m
  induction m with
  | zero => intro I b0 y3 y4 y5 hZ_b0 h; rw [f2_pieces_c46] at h; cases h
  | succ m ih =>
    intro I b0 y3 y4 y5 hZ_b0 h
    rw [f2_pieces_c46] at h
    refine ok_iload dX2_pieces_46 3 rfl ?_
    refine ok_iload_n dX2_pieces_48 1 rfl ?_
    refine ok_icmp_ge (t := 73) dX2_pieces_49 (by decide) (fun hc1 => ?_) (fun hc1 => ?_)
    · have h := (if_pos hc1).symm.trans h
      refine ok_iload dX2_pieces_73 2 rfl ?_
      cases h
      exact ok_iret dX2_pieces_75 hQ
    · have h := (if_neg hc1).symm.trans h
      refine ok_iload dX2_pieces_52 3 rfl ?_
      refine ok_aload_n dX2_pieces_54 0 rfl ?_
      refine ok_iload dX2_pieces_55 3 rfl ?_
      refine ok_iload_n dX2_pieces_57 1 rfl ?_
      obtain ⟨r2, hr3, h⟩ := bd h
      refine ok_callV (d := ((d + 0) + 4)) (mt := m2_longestAhead) (mc := 0) (ms := 0) (As := [.int y5, .int y3]) (r := [.int y5]) dX2_pieces_58 mo2_longestAhead mv2_longestAhead lkRX2_126 rfl hZ_b0 (q := (RX2, TX2, 10)) rfl rfl rfl (Nat.le_of_ble_eq_true rfl) (by show _ + 1 ≤ d + _; omega) (Nat.le_refl _) (Nat.le_refl _) (pRt_mono ?_)
      refine k2_longestAhead (d + 0) hW hZ_b0 hr3 ?_
      intro _
      show Ok g _ Qx 61 [(0, .ref b0), (3, .int y3), (4, .int y4), (5, .int y5)] [.int r2, .int y5] (Z, I, L, O)
      refine ok_iadd dX2_pieces_61 ?_
      refine ok_istore (l' := [(5, .int (y5 + r2)), (0, .ref b0), (3, .int y3), (4, .int y4)]) dX2_pieces_62 (Nat.le_of_ble_eq_true rfl) rfl ?_
      refine ok_iinc (u := (y4 + 1)) (l' := [(4, .int (y4 + 1)), (5, .int (y5 + r2)), (0, .ref b0), (3, .int y3)]) dX2_pieces_64 3 rfl rfl (Nat.le_of_ble_eq_true rfl) rfl ?_
      refine ok_iinc (u := ((y5 + r2) + 1)) (l' := [(5, .int ((y5 + r2) + 1)), (4, .int (y4 + 1)), (0, .ref b0), (3, .int y3)]) dX2_pieces_67 1 rfl rfl (Nat.le_of_ble_eq_true rfl) rfl ?_
      refine ok_goto (t := 46) dX2_pieces_70 (by decide) ?_
      refine ok_sub [2, 3, 1, 0] rfl ?_
      exact ih I b0 y3 (y4 + 1) ((y5 + r2) + 1) hZ_b0 h
def f2_pieces_c14 (n : Nat) (O : (Nat → Nat → Option Nat)) : Nat → (Nat → Nat → Int32) → Nat → Nat → Int32 → Int32 → Int32 → Option (Int32 × (Nat → Nat → Int32))
  | 0, _, _, _, _, _, _ => none
  | m + 1, I, b0, b1, y2, y3, y4 => (if y3 ≤ y4 then f2_pieces_c46 n O n I b0 y3 (0 : Int32) (0 : Int32) else (f10_keyAt I O b1 y2 y4).bind fun r3 => (if y4 < 0 ∨ 16 ≤ y4.toNatClampNeg then none else bl (sI I (rO O b0 0) y4.toNatClampNeg r3) fun I6 => f2_pieces_c14 n O m I6 b0 b1 y2 y3 (y4 + 1)))
set_option maxHeartbeats 4000000 in
set_option maxRecDepth 20000 in
theorem o2_pieces_c14 {g : pG} {Qx : Option Value → pW → Prop} {Z : pZ} {L : (Nat → Nat → Int64)} {O : (Nat → Nat → Option Nat)} {n : Nat} {res : Int32 × (Nat → Nat → Int32)} (d : Nat) (hW : WT Z O) (hQ : Qx (some (.int res.1)) (Z, res.2, L, O)) : ∀ (m : Nat) (I : (Nat → Nat → Int32)) (b0 : Nat) (b1 : Nat) (y2 : Int32) (y3 : Int32) (y4 : Int32), (Z[b0]? = some (2, 10)) → (Z[b1]? = some (10, 5)) → f2_pieces_c14 n O m I b0 b1 y2 y3 y4 = some res → Ok g (d + 5, RX2, cX2_pieces, 6, false, 0, 0, Z.length, pSl Z) Qx 14 [(0, .ref b0), (1, .ref b1), (2, .int y2), (3, .int y3), (4, .int y4)] [] (Z, I, L, O) := by
  intro m
  induction m with
  | zero => intro I b0 b1 y2 y3 y4 hZ_b0 hZ_b1 h; rw [f2_pieces_c14] at h; cases h
  | succ m ih =>
    intro I b0 b1 y2 y3 y4 hZ_b0 hZ_b1 h
    rw [f2_pieces_c14] at h
    refine ok_iload dX2_pieces_14 4 rfl ?_
    refine ok_iload_n dX2_pieces_16 3 rfl ?_
    refine ok_icmp_ge (t := 40) dX2_pieces_17 (by decide) (fun hc1 => ?_) (fun hc1 => ?_)
    · have h := (if_pos hc1).symm.trans h
      refine ok_iconst (v := 0) dX2_pieces_40 (by decide) ?_
      refine ok_istore (l' := [(4, .int 0), (0, .ref b0), (1, .ref b1), (2, .int y2), (3, .int y3)]) dX2_pieces_41 (Nat.le_of_ble_eq_true rfl) rfl ?_
      refine ok_iconst (v := 0) dX2_pieces_43 (by decide) ?_
      refine ok_istore (l' := [(5, .int 0), (4, .int 0), (0, .ref b0), (1, .ref b1), (2, .int y2), (3, .int y3)]) dX2_pieces_44 (Nat.le_of_ble_eq_true rfl) rfl ?_
      refine ok_sub [2, 5, 1, 0] rfl ?_
      exact o2_pieces_c46 d hW hQ  n I b0 y3 (0 : Int32) (0 : Int32) hZ_b0 h
    · have h := (if_neg hc1).symm.trans h
      refine ok_aload_n dX2_pieces_20 0 rfl ?_
      have hT2 : Z[(rO O b0 0)]? = some (13, 16) := (wt_f (ci := 2) (k := 0) hW hZ_b0 rfl).2
      refine ok_getR (ci := 2) (k := 0) dX2_pieces_21 flRX2_9 rfl hW hZ_b0 (by decide) ?_
      refine ok_iload dX2_pieces_24 4 rfl ?_
      refine ok_aload_n dX2_pieces_26 1 rfl ?_
      refine ok_iload_n dX2_pieces_27 2 rfl ?_
      refine ok_iload dX2_pieces_28 4 rfl ?_
      obtain ⟨r3, hr4, h⟩ := bd h
      refine ok_callV (d := ((d + 1) + 3)) (mt := m10_keyAt) (mc := 0) (ms := 0) (As := [.int y2, .int y4]) (r := [.int y4, .ref (rO O b0 0)]) dX2_pieces_30 mo10_keyAt mv10_keyAt lkRX2_49 rfl hZ_b1 (q := (RX10, TX10, 5)) rfl rfl rfl (Nat.le_of_ble_eq_true rfl) (by show _ + 1 ≤ d + _; omega) (Nat.le_refl _) (Nat.le_refl _) (pRt_mono ?_)
      refine k10_keyAt (d + 1) hW hZ_b1 hr4 ?_
      intro _
      show Ok g _ Qx 33 [(0, .ref b0), (1, .ref b1), (2, .int y2), (3, .int y3), (4, .int y4)] [.int r3, .int y4, .ref (rO O b0 0)] (Z, I, L, O)
      obtain ⟨hg5, h⟩ := gd h
      obtain ⟨I6, eI6, h⟩ := blE h
      refine ok_iast3 dX2_pieces_33 hT2 hg5 rfl eI6 ?_
      refine ok_iinc (u := (y4 + 1)) (l' := [(4, .int (y4 + 1)), (0, .ref b0), (1, .ref b1), (2, .int y2), (3, .int y3)]) dX2_pieces_34 4 rfl rfl (Nat.le_of_ble_eq_true rfl) rfl ?_
      refine ok_goto (t := 14) dX2_pieces_37 (by decide) ?_
      refine ok_sub [1, 2, 3, 4, 0] rfl ?_
      exact ih I6 b0 b1 y2 y3 (y4 + 1) hZ_b0 hZ_b1 h
def f2_pieces (n : Nat) (I : (Nat → Nat → Int32)) (O : (Nat → Nat → Option Nat)) (a0 : Nat) (a1 : Nat) (x2 : Int32) : Option (Int32 × (Nat → Nat → Int32)) := (f10_size I O a1 x2).bind fun r1 => (fJ9_min_7cf53 r1 (16 : Int32)).bind fun r3 => f2_pieces_c14 n O n I a0 a1 x2 r3 (0 : Int32)
set_option maxHeartbeats 4000000 in
set_option maxRecDepth 20000 in
theorem o2_pieces {g : pG} {Qx : Option Value → pW → Prop} {Z : pZ} {I : (Nat → Nat → Int32)} {L : (Nat → Nat → Int64)} {O : (Nat → Nat → Option Nat)} {n : Nat} {a0 : Nat} {a1 : Nat} {x2 : Int32} {res : Int32 × (Nat → Nat → Int32)} (d : Nat) (hW : WT Z O) (hZ0 : Z[a0]? = some (2, 10)) (hZ1 : Z[a1]? = some (10, 5)) (h : f2_pieces n I O a0 a1 x2 = some res) (hQ : Qx (some (.int res.1)) (Z, res.2, L, O)) : Ok g (d + 5, RX2, cX2_pieces, 6, false, 0, 0, Z.length, pSl Z) Qx 0 [(0, .ref a0), (1, .ref a1), (2, .int x2)] [] (Z, I, L, O) := by
  unfold f2_pieces at h
  refine ok_aload_n dX2_pieces_0 1 rfl ?_
  refine ok_iload_n dX2_pieces_1 2 rfl ?_
  obtain ⟨r1, hr2, h⟩ := bd h
  refine ok_callV (d := ((d + 1) + 3)) (mt := m10_size) (mc := 0) (ms := 0) (As := [.int x2]) (r := []) dX2_pieces_2 mo10_size mv10_size lkRX2_33 rfl hZ1 (q := (RX10, TX10, 5)) rfl rfl rfl (Nat.le_of_ble_eq_true rfl) (by show _ + 1 ≤ d + _; omega) (Nat.le_refl _) (Nat.le_refl _) (pRt_mono ?_)
  refine k10_size (d + 1) hW hZ1 hr2 ?_
  intro _
  show Ok g _ Qx 5 [(0, .ref a0), (1, .ref a1), (2, .int x2)] [.int r1] (Z, I, L, O)
  refine ok_bipush (v := 16) dX2_pieces_5 (by decide) ?_
  obtain ⟨r3, hr4, h⟩ := bd h
  refine ok_callS (d := ((d + 2) + 2)) (mt := mJ9_min_7cf53) (mc := 0) (ms := 0) (As := [.int r1, .int 16]) (r := []) dX2_pieces_7 moJ9_min_7cf53 mvJ9_min_7cf53 lkRX2_39 rfl rfl (Nat.le_of_ble_eq_true rfl) (by show _ + 1 ≤ d + _; omega) (Nat.le_refl _) (Nat.le_refl _) (pRt_mono ?_)
  refine kJ9_min_7cf53 (d + 2) hW  hr4 ?_
  intro _
  show Ok g _ Qx 10 [(0, .ref a0), (1, .ref a1), (2, .int x2)] [.int r3] (Z, I, L, O)
  refine ok_istore_n (l' := [(3, .int r3), (0, .ref a0), (1, .ref a1), (2, .int x2)]) dX2_pieces_10 rfl (Nat.le_of_ble_eq_true rfl) rfl ?_
  refine ok_iconst (v := 0) dX2_pieces_11 (by decide) ?_
  refine ok_istore (l' := [(4, .int 0), (3, .int r3), (0, .ref a0), (1, .ref a1), (2, .int x2)]) dX2_pieces_12 (Nat.le_of_ble_eq_true rfl) rfl ?_
  refine ok_sub [2, 3, 4, 1, 0] rfl ?_
  exact o2_pieces_c14 d hW hQ  n I a0 a1 x2 r3 (0 : Int32) hZ0 hZ1 h
theorem k2_pieces {g : pG} {Q : Option Value → pW → Prop} {Z : pZ} {I : (Nat → Nat → Int32)} {L : (Nat → Nat → Int64)} {O : (Nat → Nat → Option Nat)} {n : Nat} {a0 : Nat} {a1 : Nat} {x2 : Int32} {res : Int32 × (Nat → Nat → Int32)} (d : Nat) (hW : WT Z O) (hZ0 : Z[a0]? = some (2, 10)) (hZ1 : Z[a1]? = some (10, 5)) (h : f2_pieces n I O a0 a1 x2 = some res) (hQ : Q (some (.int res.1)) (Z, res.2, L, O)) : CT g (d + 5) m2_pieces 0 0 [.ref a0, .ref a1, .int x2] (Z, I, L, O) Q :=
  ct_of_ok (mt := m2_pieces) (ini := false) mo2_pieces.2.2.2.2 (fun h => by cases h) (Nat.le_of_ble_eq_true rfl) (o2_pieces d hW hZ0 hZ1 h ⟨trivial, hQ, rfl, rfl⟩)
theorem dX2_stairRoll_0 : decode cX2_stairRoll 0 = .ok (.iload_n 1, 1) := by decide +kernel
theorem dX2_stairRoll_1 : decode cX2_stairRoll 1 = .ok (.ifCond .lt 17, 3) := by decide +kernel
theorem dX2_stairRoll_4 : decode cX2_stairRoll 4 = .ok (.iload_n 1, 1) := by decide +kernel
theorem dX2_stairRoll_5 : decode cX2_stairRoll 5 = .ok (.iconst 5, 1) := by decide +kernel
theorem dX2_stairRoll_6 : decode cX2_stairRoll 6 = .ok (.if_icmp .ge 12, 3) := by decide +kernel
theorem dX2_stairRoll_9 : decode cX2_stairRoll 9 = .ok (.aload_n 0, 1) := by decide +kernel
theorem dX2_stairRoll_10 : decode cX2_stairRoll 10 = .ok (.getfield 30, 3) := by decide +kernel
theorem dX2_stairRoll_13 : decode cX2_stairRoll 13 = .ok (.iload_n 1, 1) := by decide +kernel
theorem dX2_stairRoll_14 : decode cX2_stairRoll 14 = .ok (.iaload, 1) := by decide +kernel
theorem dX2_stairRoll_15 : decode cX2_stairRoll 15 = .ok (.goto 5, 3) := by decide +kernel
theorem dX2_stairRoll_18 : decode cX2_stairRoll 18 = .ok (.bipush (-2), 2) := by decide +kernel
theorem dX2_stairRoll_20 : decode cX2_stairRoll 20 = .ok (.ireturn, 1) := by decide +kernel
def m2_stairRoll : pMT := (yX2_stairRoll, cX2_stairRoll, 2, some .int)
theorem mo2_stairRoll : mOK m2_stairRoll 1 := ⟨tb_i 1138 (by decide +kernel), wi_RX2, ⟨wn_RX2.1, wn_RX2.2, by decide +kernel⟩, by decide, plainFor_of_name wp_RX2⟩
theorem mv2_stairRoll : mV m2_stairRoll := ⟨tb_i 1136 (by decide +kernel), tb_i 1137 (by decide +kernel)⟩
def f2_stairRoll (I : (Nat → Nat → Int32)) (O : (Nat → Nat → Option Nat)) (a0 : Nat) (x1 : Int32) : Option (Int32) := (if x1 < 0 then some (((-2) : Int32)) else (if (5 : Int32) ≤ x1 then some (((-2) : Int32)) else (if x1 < 0 ∨ 5 ≤ x1.toNatClampNeg then none else some ((I (rO O a0 6) x1.toNatClampNeg)))))
set_option maxHeartbeats 4000000 in
set_option maxRecDepth 20000 in
theorem o2_stairRoll {g : pG} {Qx : Option Value → pW → Prop} {Z : pZ} {I : (Nat → Nat → Int32)} {L : (Nat → Nat → Int64)} {O : (Nat → Nat → Option Nat)} {a0 : Nat} {x1 : Int32} {res : Int32} (d : Nat) (hW : WT Z O) (hZ0 : Z[a0]? = some (2, 10)) (h : f2_stairRoll I O a0 x1 = some res) (hQ : Qx (some (.int res)) (Z, I, L, O)) : Ok g (d + 2, RX2, cX2_stairRoll, 2, false, 0, 0, Z.length, pSl Z) Qx 0 [(0, .ref a0), (1, .int x1)] [] (Z, I, L, O) := by
  unfold f2_stairRoll at h
  refine ok_iload_n dX2_stairRoll_0 1 rfl ?_
  refine ok_if_lt (t := 18) dX2_stairRoll_1 (by decide) (fun hc1 => ?_) (fun hc1 => ?_)
  · have h := (if_pos hc1).symm.trans h
    refine ok_bipush (v := (-2)) dX2_stairRoll_18 (by decide) ?_
    cases h
    exact ok_iret dX2_stairRoll_20 hQ
  · have h := (if_neg hc1).symm.trans h
    refine ok_iload_n dX2_stairRoll_4 1 rfl ?_
    refine ok_iconst (v := 5) dX2_stairRoll_5 (by decide) ?_
    refine ok_icmp_ge (t := 18) dX2_stairRoll_6 (by decide) (fun hc2 => ?_) (fun hc2 => ?_)
    · have h := (if_pos hc2).symm.trans h
      refine ok_bipush (v := (-2)) dX2_stairRoll_18 (by decide) ?_
      cases h
      exact ok_iret dX2_stairRoll_20 hQ
    · have h := (if_neg hc2).symm.trans h
      refine ok_aload_n dX2_stairRoll_9 0 rfl ?_
      have hT3 : Z[(rO O a0 6)]? = some (13, 5) := (wt_f (ci := 2) (k := 6) hW hZ0 rfl).2
      refine ok_getR (ci := 2) (k := 6) dX2_stairRoll_10 flRX2_30 rfl hW hZ0 (by decide) ?_
      refine ok_iload_n dX2_stairRoll_13 1 rfl ?_
      obtain ⟨hg4, h⟩ := gd h
      refine ok_iald2 (N := x1.toNatClampNeg) dX2_stairRoll_14 hT3 hg4 rfl ?_
      refine ok_goto (t := 20) dX2_stairRoll_15 (by decide) ?_
      cases h
      exact ok_iret dX2_stairRoll_20 hQ
theorem k2_stairRoll {g : pG} {Q : Option Value → pW → Prop} {Z : pZ} {I : (Nat → Nat → Int32)} {L : (Nat → Nat → Int64)} {O : (Nat → Nat → Option Nat)} {a0 : Nat} {x1 : Int32} {res : Int32} (d : Nat) (hW : WT Z O) (hZ0 : Z[a0]? = some (2, 10)) (h : f2_stairRoll I O a0 x1 = some res) (hQ : Q (some (.int res)) (Z, I, L, O)) : CT g (d + 2) m2_stairRoll 0 0 [.ref a0, .int x1] (Z, I, L, O) Q :=
  ct_of_ok (mt := m2_stairRoll) (ini := false) mo2_stairRoll.2.2.2.2 (fun h => by cases h) (Nat.le_of_ble_eq_true rfl) (o2_stairRoll d hW hZ0 h ⟨trivial, hQ, rfl, rfl⟩)
theorem dX2_lies_0 : decode cX2_lies 0 = .ok (.iconst 0, 1) := by decide +kernel
theorem dX2_lies_1 : decode cX2_lies 1 = .ok (.istore_n 3, 1) := by decide +kernel
theorem dX2_lies_2 : decode cX2_lies 2 = .ok (.iload_n 3, 1) := by decide +kernel
theorem dX2_lies_3 : decode cX2_lies 3 = .ok (.iload_n 2, 1) := by decide +kernel
theorem dX2_lies_4 : decode cX2_lies 4 = .ok (.if_icmp .ge 42, 3) := by decide +kernel
theorem dX2_lies_7 : decode cX2_lies 7 = .ok (.iload_n 3, 1) := by decide +kernel
theorem dX2_lies_8 : decode cX2_lies 8 = .ok (.bipush 16, 2) := by decide +kernel
theorem dX2_lies_10 : decode cX2_lies 10 = .ok (.if_icmp .ge 36, 3) := by decide +kernel
theorem dX2_lies_13 : decode cX2_lies 13 = .ok (.iload_n 1, 1) := by decide +kernel
theorem dX2_lies_14 : decode cX2_lies 14 = .ok (.iload_n 3, 1) := by decide +kernel
theorem dX2_lies_15 : decode cX2_lies 15 = .ok (.iadd, 1) := by decide +kernel
theorem dX2_lies_16 : decode cX2_lies 16 = .ok (.bipush 80, 2) := by decide +kernel
theorem dX2_lies_18 : decode cX2_lies 18 = .ok (.if_icmp .ge 28, 3) := by decide +kernel
theorem dX2_lies_21 : decode cX2_lies 21 = .ok (.aload_n 0, 1) := by decide +kernel
theorem dX2_lies_22 : decode cX2_lies 22 = .ok (.getfield 24, 3) := by decide +kernel
theorem dX2_lies_25 : decode cX2_lies 25 = .ok (.iload_n 1, 1) := by decide +kernel
theorem dX2_lies_26 : decode cX2_lies 26 = .ok (.iload_n 3, 1) := by decide +kernel
theorem dX2_lies_27 : decode cX2_lies 27 = .ok (.iadd, 1) := by decide +kernel
theorem dX2_lies_28 : decode cX2_lies 28 = .ok (.iaload, 1) := by decide +kernel
theorem dX2_lies_29 : decode cX2_lies 29 = .ok (.aload_n 0, 1) := by decide +kernel
theorem dX2_lies_30 : decode cX2_lies 30 = .ok (.getfield 9, 3) := by decide +kernel
theorem dX2_lies_33 : decode cX2_lies 33 = .ok (.iload_n 3, 1) := by decide +kernel
theorem dX2_lies_34 : decode cX2_lies 34 = .ok (.iaload, 1) := by decide +kernel
theorem dX2_lies_35 : decode cX2_lies 35 = .ok (.if_icmp .eq 5, 3) := by decide +kernel
theorem dX2_lies_38 : decode cX2_lies 38 = .ok (.iconst 0, 1) := by decide +kernel
theorem dX2_lies_39 : decode cX2_lies 39 = .ok (.ireturn, 1) := by decide +kernel
theorem dX2_lies_40 : decode cX2_lies 40 = .ok (.iinc 3 1, 3) := by decide +kernel
theorem dX2_lies_43 : decode cX2_lies 43 = .ok (.goto (-41), 3) := by decide +kernel
theorem dX2_lies_46 : decode cX2_lies 46 = .ok (.iconst 1, 1) := by decide +kernel
theorem dX2_lies_47 : decode cX2_lies 47 = .ok (.ireturn, 1) := by decide +kernel
def m2_lies : pMT := (yX2_lies, cX2_lies, 4, some .boolean)
theorem mo2_lies : mOK m2_lies 2 := ⟨tb_i 1134 (by decide +kernel), wi_RX2, ⟨wn_RX2.1, wn_RX2.2, by decide +kernel⟩, by decide, plainFor_of_name wp_RX2⟩
theorem mv2_lies : mV m2_lies := ⟨tb_i 1133 (by decide +kernel), tb_p 49 (by decide +kernel)⟩
def f2_lies_c2 (n : Nat) (I : (Nat → Nat → Int32)) (O : (Nat → Nat → Option Nat)) : Nat → Nat → Int32 → Int32 → Int32 → Option (Int32)
  | 0, _, _, _, _ => none
  | m + 1, b0, y1, y2, y3 => (if y2 ≤ y3 then some ((1 : Int32)) else (if (16 : Int32) ≤ y3 then some ((1 : Int32)) else (if (80 : Int32) ≤ (y1 + y3) then some ((1 : Int32)) else (if (y1 + y3) < 0 ∨ 80 ≤ (y1 + y3).toNatClampNeg then none else (if y3 < 0 ∨ 16 ≤ y3.toNatClampNeg then none else (if (I (rO O b0 4) (y1 + y3).toNatClampNeg) = (I (rO O b0 0) y3.toNatClampNeg) then f2_lies_c2 n I O m b0 y1 y2 (y3 + 1) else some ((0 : Int32))))))))
set_option maxHeartbeats 4000000 in
set_option maxRecDepth 20000 in
theorem o2_lies_c2 {g : pG} {Qx : Option Value → pW → Prop} {Z : pZ} {I : (Nat → Nat → Int32)} {L : (Nat → Nat → Int64)} {O : (Nat → Nat → Option Nat)} {n : Nat} {res : Int32} (d : Nat) (hW : WT Z O) (hQ : (res = 0 ∨ res = 1) → Qx (some (.int res)) (Z, I, L, O)) : ∀ (m : Nat) (b0 : Nat) (y1 : Int32) (y2 : Int32) (y3 : Int32), (Z[b0]? = some (2, 10)) → f2_lies_c2 n I O m b0 y1 y2 y3 = some res → Ok g (d + 2, RX2, cX2_lies, 4, false, 0, 0, Z.length, pSl Z) Qx 2 [(0, .ref b0), (1, .int y1), (2, .int y2), (3, .int y3)] [] (Z, I, L, O) := by
  intro m
  induction m with
  | zero => intro b0 y1 y2 y3 hZ_b0 h; rw [f2_lies_c2] at h; cases h
  | succ m ih =>
    intro b0 y1 y2 y3 hZ_b0 h
    rw [f2_lies_c2] at h
    refine ok_iload_n dX2_lies_2 3 rfl ?_
    refine ok_iload_n dX2_lies_3 2 rfl ?_
    refine ok_icmp_ge (t := 46) dX2_lies_4 (by decide) (fun hc1 => ?_) (fun hc1 => ?_)
    · have h := (if_pos hc1).symm.trans h
      refine ok_iconst (v := 1) dX2_lies_46 (by decide) ?_
      cases h
      exact ok_iret dX2_lies_47 (hQ (Or.inr rfl))
    · have h := (if_neg hc1).symm.trans h
      refine ok_iload_n dX2_lies_7 3 rfl ?_
      refine ok_bipush (v := 16) dX2_lies_8 (by decide) ?_
      refine ok_icmp_ge (t := 46) dX2_lies_10 (by decide) (fun hc2 => ?_) (fun hc2 => ?_)
      · have h := (if_pos hc2).symm.trans h
        refine ok_iconst (v := 1) dX2_lies_46 (by decide) ?_
        cases h
        exact ok_iret dX2_lies_47 (hQ (Or.inr rfl))
      · have h := (if_neg hc2).symm.trans h
        refine ok_iload_n dX2_lies_13 1 rfl ?_
        refine ok_iload_n dX2_lies_14 3 rfl ?_
        refine ok_iadd dX2_lies_15 ?_
        refine ok_bipush (v := 80) dX2_lies_16 (by decide) ?_
        refine ok_icmp_ge (t := 46) dX2_lies_18 (by decide) (fun hc3 => ?_) (fun hc3 => ?_)
        · have h := (if_pos hc3).symm.trans h
          refine ok_iconst (v := 1) dX2_lies_46 (by decide) ?_
          cases h
          exact ok_iret dX2_lies_47 (hQ (Or.inr rfl))
        · have h := (if_neg hc3).symm.trans h
          refine ok_aload_n dX2_lies_21 0 rfl ?_
          have hT4 : Z[(rO O b0 4)]? = some (13, 80) := (wt_f (ci := 2) (k := 4) hW hZ_b0 rfl).2
          refine ok_getR (ci := 2) (k := 4) dX2_lies_22 flRX2_24 rfl hW hZ_b0 (by decide) ?_
          refine ok_iload_n dX2_lies_25 1 rfl ?_
          refine ok_iload_n dX2_lies_26 3 rfl ?_
          refine ok_iadd dX2_lies_27 ?_
          obtain ⟨hg5, h⟩ := gd h
          refine ok_iald2 (N := (y1 + y3).toNatClampNeg) dX2_lies_28 hT4 hg5 rfl ?_
          refine ok_aload_n dX2_lies_29 0 rfl ?_
          have hT6 : Z[(rO O b0 0)]? = some (13, 16) := (wt_f (ci := 2) (k := 0) hW hZ_b0 rfl).2
          refine ok_getR (ci := 2) (k := 0) dX2_lies_30 flRX2_9 rfl hW hZ_b0 (by decide) ?_
          refine ok_iload_n dX2_lies_33 3 rfl ?_
          obtain ⟨hg7, h⟩ := gd h
          refine ok_iald2 (N := y3.toNatClampNeg) dX2_lies_34 hT6 hg7 rfl ?_
          refine ok_icmp_eq (t := 40) dX2_lies_35 (by decide) (fun hc8 => ?_) (fun hc8 => ?_)
          · have h := (if_pos hc8).symm.trans h
            refine ok_iinc (u := (y3 + 1)) (l' := [(3, .int (y3 + 1)), (0, .ref b0), (1, .int y1), (2, .int y2)]) dX2_lies_40 3 rfl rfl (Nat.le_of_ble_eq_true rfl) rfl ?_
            refine ok_goto (t := 2) dX2_lies_43 (by decide) ?_
            refine ok_sub [1, 2, 3, 0] rfl ?_
            exact ih b0 y1 y2 (y3 + 1) hZ_b0 h
          · have h := (if_neg hc8).symm.trans h
            refine ok_iconst (v := 0) dX2_lies_38 (by decide) ?_
            cases h
            exact ok_iret dX2_lies_39 (hQ (Or.inl rfl))
def f2_lies (n : Nat) (I : (Nat → Nat → Int32)) (O : (Nat → Nat → Option Nat)) (a0 : Nat) (x1 : Int32) (x2 : Int32) : Option (Int32) := f2_lies_c2 n I O n a0 x1 x2 (0 : Int32)
set_option maxHeartbeats 4000000 in
set_option maxRecDepth 20000 in
theorem o2_lies {g : pG} {Qx : Option Value → pW → Prop} {Z : pZ} {I : (Nat → Nat → Int32)} {L : (Nat → Nat → Int64)} {O : (Nat → Nat → Option Nat)} {n : Nat} {a0 : Nat} {x1 : Int32} {x2 : Int32} {res : Int32} (d : Nat) (hW : WT Z O) (hZ0 : Z[a0]? = some (2, 10)) (h : f2_lies n I O a0 x1 x2 = some res) (hQ : (res = 0 ∨ res = 1) → Qx (some (.int res)) (Z, I, L, O)) : Ok g (d + 2, RX2, cX2_lies, 4, false, 0, 0, Z.length, pSl Z) Qx 0 [(0, .ref a0), (1, .int x1), (2, .int x2)] [] (Z, I, L, O) := by
  unfold f2_lies at h
  refine ok_iconst (v := 0) dX2_lies_0 (by decide) ?_
  refine ok_istore_n (l' := [(3, .int 0), (0, .ref a0), (1, .int x1), (2, .int x2)]) dX2_lies_1 rfl (Nat.le_of_ble_eq_true rfl) rfl ?_
  refine ok_sub [1, 2, 3, 0] rfl ?_
  exact o2_lies_c2 d hW hQ  n a0 x1 x2 (0 : Int32) hZ0 h
theorem k2_lies {g : pG} {Q : Option Value → pW → Prop} {Z : pZ} {I : (Nat → Nat → Int32)} {L : (Nat → Nat → Int64)} {O : (Nat → Nat → Option Nat)} {n : Nat} {a0 : Nat} {x1 : Int32} {x2 : Int32} {res : Int32} (d : Nat) (hW : WT Z O) (hZ0 : Z[a0]? = some (2, 10)) (h : f2_lies n I O a0 x1 x2 = some res) (hQ : Q (some (.int res)) (Z, I, L, O)) : CT g (d + 2) m2_lies 0 0 [.ref a0, .int x1, .int x2] (Z, I, L, O) Q :=
  ct_of_ok (mt := m2_lies) (ini := false) mo2_lies.2.2.2.2 (fun h => by cases h) (Nat.le_of_ble_eq_true rfl) (o2_lies d hW hZ0 h (fun hb => ⟨hb, hQ, rfl, rfl⟩))
theorem dX2_layOne_0 : decode cX2_layOne 0 = .ok (.aload_n 1, 1) := by decide +kernel
theorem dX2_layOne_1 : decode cX2_layOne 1 = .ok (.iload_n 2, 1) := by decide +kernel
theorem dX2_layOne_2 : decode cX2_layOne 2 = .ok (.aload_n 0, 1) := by decide +kernel
theorem dX2_layOne_3 : decode cX2_layOne 3 = .ok (.getfield 9, 3) := by decide +kernel
theorem dX2_layOne_6 : decode cX2_layOne 6 = .ok (.invokestatic 55, 3) := by decide +kernel
theorem dX2_layOne_9 : decode cX2_layOne 9 = .ok (.istore 4, 2) := by decide +kernel
theorem dX2_layOne_11 : decode cX2_layOne 11 = .ok (.iconst 0, 1) := by decide +kernel
theorem dX2_layOne_12 : decode cX2_layOne 12 = .ok (.istore 5, 2) := by decide +kernel
theorem dX2_layOne_14 : decode cX2_layOne 14 = .ok (.iload 5, 2) := by decide +kernel
theorem dX2_layOne_16 : decode cX2_layOne 16 = .ok (.iload 4, 2) := by decide +kernel
theorem dX2_layOne_18 : decode cX2_layOne 18 = .ok (.iadd, 1) := by decide +kernel
theorem dX2_layOne_19 : decode cX2_layOne 19 = .ok (.iload_n 3, 1) := by decide +kernel
theorem dX2_layOne_20 : decode cX2_layOne 20 = .ok (.if_icmp .gt 22, 3) := by decide +kernel
theorem dX2_layOne_23 : decode cX2_layOne 23 = .ok (.aload_n 0, 1) := by decide +kernel
theorem dX2_layOne_24 : decode cX2_layOne 24 = .ok (.iload 5, 2) := by decide +kernel
theorem dX2_layOne_26 : decode cX2_layOne 26 = .ok (.iload 4, 2) := by decide +kernel
theorem dX2_layOne_28 : decode cX2_layOne 28 = .ok (.invokevirtual 146, 3) := by decide +kernel
theorem dX2_layOne_31 : decode cX2_layOne 31 = .ok (.ifCond .eq 5, 3) := by decide +kernel
theorem dX2_layOne_34 : decode cX2_layOne 34 = .ok (.iload_n 3, 1) := by decide +kernel
theorem dX2_layOne_35 : decode cX2_layOne 35 = .ok (.ireturn, 1) := by decide +kernel
theorem dX2_layOne_36 : decode cX2_layOne 36 = .ok (.iinc 5 1, 3) := by decide +kernel
theorem dX2_layOne_39 : decode cX2_layOne 39 = .ok (.goto (-25), 3) := by decide +kernel
theorem dX2_layOne_42 : decode cX2_layOne 42 = .ok (.iload 4, 2) := by decide +kernel
theorem dX2_layOne_44 : decode cX2_layOne 44 = .ok (.iload_n 3, 1) := by decide +kernel
theorem dX2_layOne_45 : decode cX2_layOne 45 = .ok (.invokestatic 39, 3) := by decide +kernel
theorem dX2_layOne_48 : decode cX2_layOne 48 = .ok (.istore 5, 2) := by decide +kernel
theorem dX2_layOne_50 : decode cX2_layOne 50 = .ok (.iload 5, 2) := by decide +kernel
theorem dX2_layOne_52 : decode cX2_layOne 52 = .ok (.ifCond .le 22, 3) := by decide +kernel
theorem dX2_layOne_55 : decode cX2_layOne 55 = .ok (.aload_n 0, 1) := by decide +kernel
theorem dX2_layOne_56 : decode cX2_layOne 56 = .ok (.iload_n 3, 1) := by decide +kernel
theorem dX2_layOne_57 : decode cX2_layOne 57 = .ok (.iload 5, 2) := by decide +kernel
theorem dX2_layOne_59 : decode cX2_layOne 59 = .ok (.isub, 1) := by decide +kernel
theorem dX2_layOne_60 : decode cX2_layOne 60 = .ok (.iload 5, 2) := by decide +kernel
theorem dX2_layOne_62 : decode cX2_layOne 62 = .ok (.invokevirtual 146, 3) := by decide +kernel
theorem dX2_layOne_65 : decode cX2_layOne 65 = .ok (.ifCond .ne 9, 3) := by decide +kernel
theorem dX2_layOne_68 : decode cX2_layOne 68 = .ok (.iinc 5 (-1), 3) := by decide +kernel
theorem dX2_layOne_71 : decode cX2_layOne 71 = .ok (.goto (-21), 3) := by decide +kernel
theorem dX2_layOne_74 : decode cX2_layOne 74 = .ok (.iload_n 3, 1) := by decide +kernel
theorem dX2_layOne_75 : decode cX2_layOne 75 = .ok (.iload 5, 2) := by decide +kernel
theorem dX2_layOne_77 : decode cX2_layOne 77 = .ok (.isub, 1) := by decide +kernel
theorem dX2_layOne_78 : decode cX2_layOne 78 = .ok (.istore 6, 2) := by decide +kernel
theorem dX2_layOne_80 : decode cX2_layOne 80 = .ok (.iload 5, 2) := by decide +kernel
theorem dX2_layOne_82 : decode cX2_layOne 82 = .ok (.istore 7, 2) := by decide +kernel
theorem dX2_layOne_84 : decode cX2_layOne 84 = .ok (.iload 7, 2) := by decide +kernel
theorem dX2_layOne_86 : decode cX2_layOne 86 = .ok (.iload 4, 2) := by decide +kernel
theorem dX2_layOne_88 : decode cX2_layOne 88 = .ok (.if_icmp .ge 36, 3) := by decide +kernel
theorem dX2_layOne_91 : decode cX2_layOne 91 = .ok (.iload 6, 2) := by decide +kernel
theorem dX2_layOne_93 : decode cX2_layOne 93 = .ok (.iload 7, 2) := by decide +kernel
theorem dX2_layOne_95 : decode cX2_layOne 95 = .ok (.iadd, 1) := by decide +kernel
theorem dX2_layOne_96 : decode cX2_layOne 96 = .ok (.bipush 80, 2) := by decide +kernel
theorem dX2_layOne_98 : decode cX2_layOne 98 = .ok (.if_icmp .ge 26, 3) := by decide +kernel
theorem dX2_layOne_101 : decode cX2_layOne 101 = .ok (.aload_n 0, 1) := by decide +kernel
theorem dX2_layOne_102 : decode cX2_layOne 102 = .ok (.getfield 24, 3) := by decide +kernel
theorem dX2_layOne_105 : decode cX2_layOne 105 = .ok (.iload 6, 2) := by decide +kernel
theorem dX2_layOne_107 : decode cX2_layOne 107 = .ok (.iload 7, 2) := by decide +kernel
theorem dX2_layOne_109 : decode cX2_layOne 109 = .ok (.iadd, 1) := by decide +kernel
theorem dX2_layOne_110 : decode cX2_layOne 110 = .ok (.aload_n 0, 1) := by decide +kernel
theorem dX2_layOne_111 : decode cX2_layOne 111 = .ok (.getfield 9, 3) := by decide +kernel
theorem dX2_layOne_114 : decode cX2_layOne 114 = .ok (.iload 7, 2) := by decide +kernel
theorem dX2_layOne_116 : decode cX2_layOne 116 = .ok (.iaload, 1) := by decide +kernel
theorem dX2_layOne_117 : decode cX2_layOne 117 = .ok (.iastore, 1) := by decide +kernel
theorem dX2_layOne_118 : decode cX2_layOne 118 = .ok (.iinc 7 1, 3) := by decide +kernel
theorem dX2_layOne_121 : decode cX2_layOne 121 = .ok (.goto (-37), 3) := by decide +kernel
theorem dX2_layOne_124 : decode cX2_layOne 124 = .ok (.iload 6, 2) := by decide +kernel
theorem dX2_layOne_126 : decode cX2_layOne 126 = .ok (.iload 4, 2) := by decide +kernel
theorem dX2_layOne_128 : decode cX2_layOne 128 = .ok (.iadd, 1) := by decide +kernel
theorem dX2_layOne_129 : decode cX2_layOne 129 = .ok (.ireturn, 1) := by decide +kernel
def m2_layOne : pMT := (yX2_layOne, cX2_layOne, 8, some .int)
theorem mo2_layOne : mOK m2_layOne 3 := ⟨tb_i 1130 (by decide +kernel), wi_RX2, ⟨wn_RX2.1, wn_RX2.2, by decide +kernel⟩, by decide, plainFor_of_name wp_RX2⟩
theorem mv2_layOne : mV m2_layOne := ⟨tb_i 1129 (by decide +kernel), tb_p 48 (by decide +kernel)⟩
def f2_layOne_c84 (n : Nat) (O : (Nat → Nat → Option Nat)) : Nat → (Nat → Nat → Int32) → Nat → Int32 → Int32 → Int32 → Option (Int32 × (Nat → Nat → Int32))
  | 0, _, _, _, _, _ => none
  | m + 1, I, b0, y4, y6, y7 => (if y4 ≤ y7 then some ((y6 + y4), I) else (if (80 : Int32) ≤ (y6 + y7) then some ((y6 + y4), I) else (if y7 < 0 ∨ 16 ≤ y7.toNatClampNeg then none else (if (y6 + y7) < 0 ∨ 80 ≤ (y6 + y7).toNatClampNeg then none else bl (sI I (rO O b0 4) (y6 + y7).toNatClampNeg (I (rO O b0 0) y7.toNatClampNeg)) fun I7 => f2_layOne_c84 n O m I7 b0 y4 y6 (y7 + 1)))))
set_option maxHeartbeats 4000000 in
set_option maxRecDepth 20000 in
theorem o2_layOne_c84 {g : pG} {Qx : Option Value → pW → Prop} {Z : pZ} {L : (Nat → Nat → Int64)} {O : (Nat → Nat → Option Nat)} {n : Nat} {res : Int32 × (Nat → Nat → Int32)} (d : Nat) (hW : WT Z O) (hQ : Qx (some (.int res.1)) (Z, res.2, L, O)) : ∀ (m : Nat) (I : (Nat → Nat → Int32)) (b0 : Nat) (y4 : Int32) (y6 : Int32) (y7 : Int32), (Z[b0]? = some (2, 10)) → f2_layOne_c84 n O m I b0 y4 y6 y7 = some res → Ok g (d + 5, RX2, cX2_layOne, 8, false, 0, 0, Z.length, pSl Z) Qx 84 [(0, .ref b0), (4, .int y4), (6, .int y6), (7, .int y7)] [] (Z, I, L, O) := by
  intro m
  induction m with
  | zero => intro I b0 y4 y6 y7 hZ_b0 h; rw [f2_layOne_c84] at h; cases h
  | succ m ih =>
    intro I b0 y4 y6 y7 hZ_b0 h
    rw [f2_layOne_c84] at h
    refine ok_iload dX2_layOne_84 3 rfl ?_
    refine ok_iload dX2_layOne_86 1 rfl ?_
    refine ok_icmp_ge (t := 124) dX2_layOne_88 (by decide) (fun hc1 => ?_) (fun hc1 => ?_)
    · have h := (if_pos hc1).symm.trans h
      refine ok_iload dX2_layOne_124 2 rfl ?_
      refine ok_iload dX2_layOne_126 1 rfl ?_
      refine ok_iadd dX2_layOne_128 ?_
      cases h
      exact ok_iret dX2_layOne_129 hQ
    · have h := (if_neg hc1).symm.trans h
      refine ok_iload dX2_layOne_91 2 rfl ?_
      refine ok_iload dX2_layOne_93 3 rfl ?_
      refine ok_iadd dX2_layOne_95 ?_
      refine ok_bipush (v := 80) dX2_layOne_96 (by decide) ?_
      refine ok_icmp_ge (t := 124) dX2_layOne_98 (by decide) (fun hc2 => ?_) (fun hc2 => ?_)
      · have h := (if_pos hc2).symm.trans h
        refine ok_iload dX2_layOne_124 2 rfl ?_
        refine ok_iload dX2_layOne_126 1 rfl ?_
        refine ok_iadd dX2_layOne_128 ?_
        cases h
        exact ok_iret dX2_layOne_129 hQ
      · have h := (if_neg hc2).symm.trans h
        refine ok_aload_n dX2_layOne_101 0 rfl ?_
        have hT3 : Z[(rO O b0 4)]? = some (13, 80) := (wt_f (ci := 2) (k := 4) hW hZ_b0 rfl).2
        refine ok_getR (ci := 2) (k := 4) dX2_layOne_102 flRX2_24 rfl hW hZ_b0 (by decide) ?_
        refine ok_iload dX2_layOne_105 2 rfl ?_
        refine ok_iload dX2_layOne_107 3 rfl ?_
        refine ok_iadd dX2_layOne_109 ?_
        refine ok_aload_n dX2_layOne_110 0 rfl ?_
        have hT4 : Z[(rO O b0 0)]? = some (13, 16) := (wt_f (ci := 2) (k := 0) hW hZ_b0 rfl).2
        refine ok_getR (ci := 2) (k := 0) dX2_layOne_111 flRX2_9 rfl hW hZ_b0 (by decide) ?_
        refine ok_iload dX2_layOne_114 3 rfl ?_
        obtain ⟨hg5, h⟩ := gd h
        refine ok_iald2 (N := y7.toNatClampNeg) dX2_layOne_116 hT4 hg5 rfl ?_
        obtain ⟨hg6, h⟩ := gd h
        obtain ⟨I7, eI7, h⟩ := blE h
        refine ok_iast3 dX2_layOne_117 hT3 hg6 rfl eI7 ?_
        refine ok_iinc (u := (y7 + 1)) (l' := [(7, .int (y7 + 1)), (0, .ref b0), (4, .int y4), (6, .int y6)]) dX2_layOne_118 3 rfl rfl (Nat.le_of_ble_eq_true rfl) rfl ?_
        refine ok_goto (t := 84) dX2_layOne_121 (by decide) ?_
        refine ok_sub [1, 2, 3, 0] rfl ?_
        exact ih I7 b0 y4 y6 (y7 + 1) hZ_b0 h
def f2_layOne_c50 (n : Nat) (O : (Nat → Nat → Option Nat)) : Nat → (Nat → Nat → Int32) → Nat → Int32 → Int32 → Int32 → Option (Int32 × (Nat → Nat → Int32))
  | 0, _, _, _, _, _ => none
  | m + 1, I, b0, y3, y4, y5 => (if y5 ≤ 0 then f2_layOne_c84 n O n I b0 y4 (y3 - y5) y5 else (f2_lies n I O b0 (y3 - y5) y5).bind fun r2 => (if r2 = 0 then f2_layOne_c50 n O m I b0 y3 y4 (y5 + (-1)) else f2_layOne_c84 n O n I b0 y4 (y3 - y5) y5))
set_option maxHeartbeats 4000000 in
set_option maxRecDepth 20000 in
theorem o2_layOne_c50 {g : pG} {Qx : Option Value → pW → Prop} {Z : pZ} {L : (Nat → Nat → Int64)} {O : (Nat → Nat → Option Nat)} {n : Nat} {res : Int32 × (Nat → Nat → Int32)} (d : Nat) (hW : WT Z O) (hQ : Qx (some (.int res.1)) (Z, res.2, L, O)) : ∀ (m : Nat) (I : (Nat → Nat → Int32)) (b0 : Nat) (y3 : Int32) (y4 : Int32) (y5 : Int32), (Z[b0]? = some (2, 10)) → f2_layOne_c50 n O m I b0 y3 y4 y5 = some res → Ok g (d + 5, RX2, cX2_layOne, 8, false, 0, 0, Z.length, pSl Z) Qx 50 [(0, .ref b0), (3, .int y3), (4, .int y4), (5, .int y5)] [] (Z, I, L, O) := by
  intro m
  induction m with
  | zero => intro I b0 y3 y4 y5 hZ_b0 h; rw [f2_layOne_c50] at h; cases h
  | succ m ih =>
    intro I b0 y3 y4 y5 hZ_b0 h
    rw [f2_layOne_c50] at h
    refine ok_iload dX2_layOne_50 3 rfl ?_
    refine ok_if_le (t := 74) dX2_layOne_52 (by decide) (fun hc1 => ?_) (fun hc1 => ?_)
    · have h := (if_pos hc1).symm.trans h
      refine ok_iload_n dX2_layOne_74 1 rfl ?_
      refine ok_iload dX2_layOne_75 3 rfl ?_
      refine ok_isub dX2_layOne_77 ?_
      refine ok_istore (l' := [(6, .int (y3 - y5)), (0, .ref b0), (3, .int y3), (4, .int y4), (5, .int y5)]) dX2_layOne_78 (Nat.le_of_ble_eq_true rfl) rfl ?_
      refine ok_iload dX2_layOne_80 4 rfl ?_
      refine ok_istore (l' := [(7, .int y5), (6, .int (y3 - y5)), (0, .ref b0), (3, .int y3), (4, .int y4), (5, .int y5)]) dX2_layOne_82 (Nat.le_of_ble_eq_true rfl) rfl ?_
      refine ok_sub [2, 4, 1, 0] rfl ?_
      exact o2_layOne_c84 d hW hQ  n I b0 y4 (y3 - y5) y5 hZ_b0 h
    · have h := (if_neg hc1).symm.trans h
      refine ok_aload_n dX2_layOne_55 0 rfl ?_
      refine ok_iload_n dX2_layOne_56 1 rfl ?_
      refine ok_iload dX2_layOne_57 3 rfl ?_
      refine ok_isub dX2_layOne_59 ?_
      refine ok_iload dX2_layOne_60 3 rfl ?_
      obtain ⟨r2, hr3, h⟩ := bd h
      refine ok_callV (d := ((d + 2) + 2)) (mt := m2_lies) (mc := 0) (ms := 0) (As := [.int (y3 - y5), .int y5]) (r := []) dX2_layOne_62 mo2_lies mv2_lies lkRX2_146 rfl hZ_b0 (q := (RX2, TX2, 10)) rfl rfl rfl (Nat.le_of_ble_eq_true rfl) (by show _ + 1 ≤ d + _; omega) (Nat.le_refl _) (Nat.le_refl _) (pRt_mono ?_)
      refine k2_lies (d + 2) hW hZ_b0 hr3 ?_
      intro hbr2
      show Ok g _ Qx 65 [(0, .ref b0), (3, .int y3), (4, .int y4), (5, .int y5)] [.int r2] (Z, I, L, O)
      refine ok_if_ne (t := 74) dX2_layOne_65 (by decide) (fun hc4 => ?_) (fun hc4 => ?_)
      · have h := (if_neg hc4).symm.trans h
        refine ok_iload_n dX2_layOne_74 1 rfl ?_
        refine ok_iload dX2_layOne_75 3 rfl ?_
        refine ok_isub dX2_layOne_77 ?_
        refine ok_istore (l' := [(6, .int (y3 - y5)), (0, .ref b0), (3, .int y3), (4, .int y4), (5, .int y5)]) dX2_layOne_78 (Nat.le_of_ble_eq_true rfl) rfl ?_
        refine ok_iload dX2_layOne_80 4 rfl ?_
        refine ok_istore (l' := [(7, .int y5), (6, .int (y3 - y5)), (0, .ref b0), (3, .int y3), (4, .int y4), (5, .int y5)]) dX2_layOne_82 (Nat.le_of_ble_eq_true rfl) rfl ?_
        refine ok_sub [2, 4, 1, 0] rfl ?_
        exact o2_layOne_c84 d hW hQ  n I b0 y4 (y3 - y5) y5 hZ_b0 h
      · have h := (if_pos hc4).symm.trans h
        refine ok_iinc (u := (y5 + (-1))) (l' := [(5, .int (y5 + (-1))), (0, .ref b0), (3, .int y3), (4, .int y4)]) dX2_layOne_68 3 rfl rfl (Nat.le_of_ble_eq_true rfl) rfl ?_
        refine ok_goto (t := 50) dX2_layOne_71 (by decide) ?_
        refine ok_sub [1, 2, 3, 0] rfl ?_
        exact ih I b0 y3 y4 (y5 + (-1)) hZ_b0 h
def f2_layOne_c14 (n : Nat) (O : (Nat → Nat → Option Nat)) : Nat → (Nat → Nat → Int32) → Nat → Int32 → Int32 → Int32 → Option (Int32 × (Nat → Nat → Int32))
  | 0, _, _, _, _, _ => none
  | m + 1, I, b0, y3, y4, y5 => (if y3 < (y5 + y4) then (fJ9_min_7cf53 y4 y3).bind fun r2 => f2_layOne_c50 n O n I b0 y3 y4 r2 else (f2_lies n I O b0 y5 y4).bind fun r4 => (if r4 = 0 then f2_layOne_c14 n O m I b0 y3 y4 (y5 + 1) else some (y3, I)))
set_option maxHeartbeats 4000000 in
set_option maxRecDepth 20000 in
theorem o2_layOne_c14 {g : pG} {Qx : Option Value → pW → Prop} {Z : pZ} {L : (Nat → Nat → Int64)} {O : (Nat → Nat → Option Nat)} {n : Nat} {res : Int32 × (Nat → Nat → Int32)} (d : Nat) (hW : WT Z O) (hQ : Qx (some (.int res.1)) (Z, res.2, L, O)) : ∀ (m : Nat) (I : (Nat → Nat → Int32)) (b0 : Nat) (y3 : Int32) (y4 : Int32) (y5 : Int32), (Z[b0]? = some (2, 10)) → f2_layOne_c14 n O m I b0 y3 y4 y5 = some res → Ok g (d + 5, RX2, cX2_layOne, 8, false, 0, 0, Z.length, pSl Z) Qx 14 [(0, .ref b0), (3, .int y3), (4, .int y4), (5, .int y5)] [] (Z, I, L, O) := by
  intro m
  induction m with
  | zero => intro I b0 y3 y4 y5 hZ_b0 h; rw [f2_layOne_c14] at h; cases h
  | succ m ih =>
    intro I b0 y3 y4 y5 hZ_b0 h
    rw [f2_layOne_c14] at h
    refine ok_iload dX2_layOne_14 3 rfl ?_
    refine ok_iload dX2_layOne_16 2 rfl ?_
    refine ok_iadd dX2_layOne_18 ?_
    refine ok_iload_n dX2_layOne_19 1 rfl ?_
    refine ok_icmp_gt (t := 42) dX2_layOne_20 (by decide) (fun hc1 => ?_) (fun hc1 => ?_)
    · have h := (if_pos hc1).symm.trans h
      refine ok_iload dX2_layOne_42 2 rfl ?_
      refine ok_iload_n dX2_layOne_44 1 rfl ?_
      obtain ⟨r2, hr3, h⟩ := bd h
      refine ok_callS (d := ((d + 2) + 2)) (mt := mJ9_min_7cf53) (mc := 0) (ms := 0) (As := [.int y4, .int y3]) (r := []) dX2_layOne_45 moJ9_min_7cf53 mvJ9_min_7cf53 lkRX2_39 rfl rfl (Nat.le_of_ble_eq_true rfl) (by show _ + 1 ≤ d + _; omega) (Nat.le_refl _) (Nat.le_refl _) (pRt_mono ?_)
      refine kJ9_min_7cf53 (d + 2) hW  hr3 ?_
      intro _
      show Ok g _ Qx 48 [(0, .ref b0), (3, .int y3), (4, .int y4), (5, .int y5)] [.int r2] (Z, I, L, O)
      refine ok_istore (l' := [(5, .int r2), (0, .ref b0), (3, .int y3), (4, .int y4)]) dX2_layOne_48 (Nat.le_of_ble_eq_true rfl) rfl ?_
      refine ok_sub [1, 2, 3, 0] rfl ?_
      exact o2_layOne_c50 d hW hQ  n I b0 y3 y4 r2 hZ_b0 h
    · have h := (if_neg hc1).symm.trans h
      refine ok_aload_n dX2_layOne_23 0 rfl ?_
      refine ok_iload dX2_layOne_24 3 rfl ?_
      refine ok_iload dX2_layOne_26 2 rfl ?_
      obtain ⟨r4, hr5, h⟩ := bd h
      refine ok_callV (d := ((d + 2) + 2)) (mt := m2_lies) (mc := 0) (ms := 0) (As := [.int y5, .int y4]) (r := []) dX2_layOne_28 mo2_lies mv2_lies lkRX2_146 rfl hZ_b0 (q := (RX2, TX2, 10)) rfl rfl rfl (Nat.le_of_ble_eq_true rfl) (by show _ + 1 ≤ d + _; omega) (Nat.le_refl _) (Nat.le_refl _) (pRt_mono ?_)
      refine k2_lies (d + 2) hW hZ_b0 hr5 ?_
      intro hbr4
      show Ok g _ Qx 31 [(0, .ref b0), (3, .int y3), (4, .int y4), (5, .int y5)] [.int r4] (Z, I, L, O)
      refine ok_if_eq (t := 36) dX2_layOne_31 (by decide) (fun hc6 => ?_) (fun hc6 => ?_)
      · have h := (if_pos hc6).symm.trans h
        refine ok_iinc (u := (y5 + 1)) (l' := [(5, .int (y5 + 1)), (0, .ref b0), (3, .int y3), (4, .int y4)]) dX2_layOne_36 3 rfl rfl (Nat.le_of_ble_eq_true rfl) rfl ?_
        refine ok_goto (t := 14) dX2_layOne_39 (by decide) ?_
        refine ok_sub [1, 2, 3, 0] rfl ?_
        exact ih I b0 y3 y4 (y5 + 1) hZ_b0 h
      · have h := (if_neg hc6).symm.trans h
        refine ok_iload_n dX2_layOne_34 1 rfl ?_
        cases h
        exact ok_iret dX2_layOne_35 hQ
def f2_layOne (n : Nat) (I : (Nat → Nat → Int32)) (O : (Nat → Nat → Option Nat)) (a0 : Nat) (a1 : Nat) (x2 : Int32) (x3 : Int32) : Option (Int32 × (Nat → Nat → Int32)) := (f2_lay n I O a1 x2 (rO O a0 0)).bind fun r2 => f2_layOne_c14 n O n r2.2 a0 x3 r2.1 (0 : Int32)
set_option maxHeartbeats 4000000 in
set_option maxRecDepth 20000 in
theorem o2_layOne {g : pG} {Qx : Option Value → pW → Prop} {Z : pZ} {I : (Nat → Nat → Int32)} {L : (Nat → Nat → Int64)} {O : (Nat → Nat → Option Nat)} {n : Nat} {a0 : Nat} {a1 : Nat} {x2 : Int32} {x3 : Int32} {res : Int32 × (Nat → Nat → Int32)} (d : Nat) (hW : WT Z O) (hZ0 : Z[a0]? = some (2, 10)) (hZ1 : Z[a1]? = some (10, 5)) (h : f2_layOne n I O a0 a1 x2 x3 = some res) (hQ : Qx (some (.int res.1)) (Z, res.2, L, O)) : Ok g (d + 5, RX2, cX2_layOne, 8, false, 0, 0, Z.length, pSl Z) Qx 0 [(0, .ref a0), (1, .ref a1), (2, .int x2), (3, .int x3)] [] (Z, I, L, O) := by
  unfold f2_layOne at h
  refine ok_aload_n dX2_layOne_0 1 rfl ?_
  refine ok_iload_n dX2_layOne_1 2 rfl ?_
  refine ok_aload_n dX2_layOne_2 0 rfl ?_
  have hT1 : Z[(rO O a0 0)]? = some (13, 16) := (wt_f (ci := 2) (k := 0) hW hZ0 rfl).2
  refine ok_getR (ci := 2) (k := 0) dX2_layOne_3 flRX2_9 rfl hW hZ0 (by decide) ?_
  obtain ⟨r2, hr3, h⟩ := bd h
  refine ok_callS (d := ((d + 0) + 4)) (mt := m2_lay) (mc := 0) (ms := 0) (As := [.ref a1, .int x2, .ref (rO O a0 0)]) (r := []) dX2_layOne_6 mo2_lay mv2_lay lkRX2_55 rfl rfl (Nat.le_of_ble_eq_true rfl) (by show _ + 1 ≤ d + _; omega) (Nat.le_refl _) (Nat.le_refl _) (pRt_mono ?_)
  refine k2_lay (d + 0) hW hZ1 hT1 hr3 ?_
  intro _
  show Ok g _ Qx 9 [(0, .ref a0), (1, .ref a1), (2, .int x2), (3, .int x3)] [.int r2.1] (Z, r2.2, L, O)
  refine ok_istore (l' := [(4, .int r2.1), (0, .ref a0), (1, .ref a1), (2, .int x2), (3, .int x3)]) dX2_layOne_9 (Nat.le_of_ble_eq_true rfl) rfl ?_
  refine ok_iconst (v := 0) dX2_layOne_11 (by decide) ?_
  refine ok_istore (l' := [(5, .int 0), (4, .int r2.1), (0, .ref a0), (1, .ref a1), (2, .int x2), (3, .int x3)]) dX2_layOne_12 (Nat.le_of_ble_eq_true rfl) rfl ?_
  refine ok_sub [2, 5, 1, 0] rfl ?_
  exact o2_layOne_c14 d hW hQ  n r2.2 a0 x3 r2.1 (0 : Int32) hZ0 h
theorem k2_layOne {g : pG} {Q : Option Value → pW → Prop} {Z : pZ} {I : (Nat → Nat → Int32)} {L : (Nat → Nat → Int64)} {O : (Nat → Nat → Option Nat)} {n : Nat} {a0 : Nat} {a1 : Nat} {x2 : Int32} {x3 : Int32} {res : Int32 × (Nat → Nat → Int32)} (d : Nat) (hW : WT Z O) (hZ0 : Z[a0]? = some (2, 10)) (hZ1 : Z[a1]? = some (10, 5)) (h : f2_layOne n I O a0 a1 x2 x3 = some res) (hQ : Q (some (.int res.1)) (Z, res.2, L, O)) : CT g (d + 5) m2_layOne 0 0 [.ref a0, .ref a1, .int x2, .int x3] (Z, I, L, O) Q :=
  ct_of_ok (mt := m2_layOne) (ini := false) mo2_layOne.2.2.2.2 (fun h => by cases h) (Nat.le_of_ble_eq_true rfl) (o2_layOne d hW hZ0 hZ1 h ⟨trivial, hQ, rfl, rfl⟩)
