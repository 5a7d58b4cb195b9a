theorem flRX6_9 : FL RX6 9 6 1 := ⟨(RX6, TX6, 5), rfl, by decide, tb_i 275 (by decide +kernel)⟩
theorem flRX6_15 : FL RX6 15 6 2 := ⟨(RX6, TX6, 5), rfl, by decide, tb_i 276 (by decide +kernel)⟩
theorem flRX6_18 : FL RX6 18 6 3 := ⟨(RX6, TX6, 5), rfl, by decide, tb_i 277 (by decide +kernel)⟩
theorem flRX6_21 : FL RX6 21 6 4 := ⟨(RX6, TX6, 5), rfl, by decide, tb_i 278 (by decide +kernel)⟩
theorem flRX6_25 : FL RX6 25 6 0 := ⟨(RX6, TX6, 5), rfl, by decide, tb_i 274 (by decide +kernel)⟩
theorem lkRX6_29 : Cond.methodLink RX6 29 yX10_timesHeard ∈ lw_tbl := tb_i 909 (by decide +kernel)
theorem lkRX6_35 : Cond.methodLink RX6 35 yX1_learns ∈ lw_tbl := tb_i 910 (by decide +kernel)
theorem lkRX6_61 : Cond.methodLink RX6 61 yX6_heardThen ∈ lw_tbl := tb_i 1180 (by decide +kernel)
theorem lkRX6_65 : Cond.methodLink RX6 65 yJ9_min_7cf53 ∈ lw_tbl := tb_i 1184 (by decide +kernel)
theorem lkRX6_70 : Cond.methodLink RX6 70 yJ9_max_7cf53 ∈ lw_tbl := tb_i 1185 (by decide +kernel)
theorem lkRX6_73 : Cond.methodLink RX6 73 yJ7_fill_d0a16 ∈ lw_tbl := tb_i 1198 (by decide +kernel)
theorem lkRX6_76 : Cond.methodLink RX6 76 yX10_size ∈ lw_tbl := tb_i 1201 (by decide +kernel)
theorem lkRX6_80 : Cond.methodLink RX6 80 yX10_sounds ∈ lw_tbl := tb_i 1202 (by decide +kernel)
theorem lkRX6_84 : Cond.methodLink RX6 84 yX10_keyAt ∈ lw_tbl := tb_i 1203 (by decide +kernel)
theorem lkRX6_87 : Cond.methodLink RX6 87 yX1_blurs ∈ lw_tbl := tb_i 1204 (by decide +kernel)
theorem lkRX6_90 : Cond.methodLink RX6 90 yX6_weighPlace ∈ lw_tbl := tb_i 1205 (by decide +kernel)
theorem dX6_learntKeys_0 : decode cX6_learntKeys 0 = .ok (.iconst 0, 1) := by decide +kernel
theorem dX6_learntKeys_1 : decode cX6_learntKeys 1 = .ok (.istore 4, 2) := by decide +kernel
theorem dX6_learntKeys_3 : decode cX6_learntKeys 3 = .ok (.iconst 1, 1) := by decide +kernel
theorem dX6_learntKeys_4 : decode cX6_learntKeys 4 = .ok (.istore 5, 2) := by decide +kernel
theorem dX6_learntKeys_6 : decode cX6_learntKeys 6 = .ok (.iload 5, 2) := by decide +kernel
theorem dX6_learntKeys_8 : decode cX6_learntKeys 8 = .ok (.bipush 6, 2) := by decide +kernel
theorem dX6_learntKeys_10 : decode cX6_learntKeys 10 = .ok (.if_icmp .ge 51, 3) := by decide +kernel
theorem dX6_learntKeys_13 : decode cX6_learntKeys 13 = .ok (.aload_n 1, 1) := by decide +kernel
theorem dX6_learntKeys_14 : decode cX6_learntKeys 14 = .ok (.iload_n 3, 1) := by decide +kernel
theorem dX6_learntKeys_15 : decode cX6_learntKeys 15 = .ok (.iload 5, 2) := by decide +kernel
theorem dX6_learntKeys_17 : decode cX6_learntKeys 17 = .ok (.invokevirtual 29, 3) := by decide +kernel
theorem dX6_learntKeys_20 : decode cX6_learntKeys 20 = .ok (.istore 6, 2) := by decide +kernel
theorem dX6_learntKeys_22 : decode cX6_learntKeys 22 = .ok (.iload 6, 2) := by decide +kernel
theorem dX6_learntKeys_24 : decode cX6_learntKeys 24 = .ok (.ifCond .le 31, 3) := by decide +kernel
theorem dX6_learntKeys_27 : decode cX6_learntKeys 27 = .ok (.iload 6, 2) := by decide +kernel
theorem dX6_learntKeys_29 : decode cX6_learntKeys 29 = .ok (.aload_n 0, 1) := by decide +kernel
theorem dX6_learntKeys_30 : decode cX6_learntKeys 30 = .ok (.getfield 25, 3) := by decide +kernel
theorem dX6_learntKeys_33 : decode cX6_learntKeys 33 = .ok (.aload_n 2, 1) := by decide +kernel
theorem dX6_learntKeys_34 : decode cX6_learntKeys 34 = .ok (.aload_n 1, 1) := by decide +kernel
theorem dX6_learntKeys_35 : decode cX6_learntKeys 35 = .ok (.iload_n 3, 1) := by decide +kernel
theorem dX6_learntKeys_36 : decode cX6_learntKeys 36 = .ok (.iload 5, 2) := by decide +kernel
theorem dX6_learntKeys_38 : decode cX6_learntKeys 38 = .ok (.iload 6, 2) := by decide +kernel
theorem dX6_learntKeys_40 : decode cX6_learntKeys 40 = .ok (.invokevirtual 35, 3) := by decide +kernel
theorem dX6_learntKeys_43 : decode cX6_learntKeys 43 = .ok (.if_icmp .lt 12, 3) := by decide +kernel
theorem dX6_learntKeys_46 : decode cX6_learntKeys 46 = .ok (.iload 4, 2) := by decide +kernel
theorem dX6_learntKeys_48 : decode cX6_learntKeys 48 = .ok (.iconst 1, 1) := by decide +kernel
theorem dX6_learntKeys_49 : decode cX6_learntKeys 49 = .ok (.iload 5, 2) := by decide +kernel
theorem dX6_learntKeys_51 : decode cX6_learntKeys 51 = .ok (.ishl, 1) := by decide +kernel
theorem dX6_learntKeys_52 : decode cX6_learntKeys 52 = .ok (.ior, 1) := by decide +kernel
theorem dX6_learntKeys_53 : decode cX6_learntKeys 53 = .ok (.istore 4, 2) := by decide +kernel
theorem dX6_learntKeys_55 : decode cX6_learntKeys 55 = .ok (.iinc 5 1, 3) := by decide +kernel
theorem dX6_learntKeys_58 : decode cX6_learntKeys 58 = .ok (.goto (-52), 3) := by decide +kernel
theorem dX6_learntKeys_61 : decode cX6_learntKeys 61 = .ok (.iload 4, 2) := by decide +kernel
theorem dX6_learntKeys_63 : decode cX6_learntKeys 63 = .ok (.ireturn, 1) := by decide +kernel
theorem wi_RX6 : Cond.initialized RX6 ∈ lw_tbl := tb_i 10 (by decide +kernel)
theorem wn_RX6 : RX6 ≠ "java/lang/invoke/MethodHandle" ∧ RX6 ≠ "java/lang/invoke/VarHandle" := ⟨by decide +kernel, by decide +kernel⟩
theorem wp_RX6 : plainName RX6 = true := by decide +kernel
def m6_learntKeys : pMT := (yX6_learntKeys, cX6_learntKeys, 7, some .int)
theorem mo6_learntKeys : mOK m6_learntKeys 3 := ⟨tb_i 908 (by decide +kernel), wi_RX6, ⟨wn_RX6.1, wn_RX6.2, by decide +kernel⟩, by decide, plainFor_of_name wp_RX6⟩
theorem mv6_learntKeys : mV m6_learntKeys := ⟨tb_i 906 (by decide +kernel), tb_i 907 (by decide +kernel)⟩
def f6_learntKeys_c6 (n : Nat) (O : (Nat → Nat → Option Nat)) : Nat → (Nat → Nat → Int32) → Nat → Nat → Option Nat → Int32 → Int32 → Int32 → Option (Int32 × (Nat → Nat → Int32))
  | 0, _, _, _, _, _, _, _ => none
  | m + 1, I, b0, b1, s2, y3, y4, y5 => (if (6 : Int32) ≤ y5 then some (y4, I) else (f10_timesHeard I O b1 y3 y5).bind fun r2 => (if r2 ≤ 0 then f6_learntKeys_c6 n O m I b0 b1 s2 y3 y4 (y5 + 1) else (f1_learns n I O (rO O b0 0) s2 b1 y3 y5 r2).bind fun r6 => (if r2 < r6.1 then f6_learntKeys_c6 n O m r6.2 b0 b1 s2 y3 y4 (y5 + 1) else bl ((y4 ||| ((1 : Int32) <<< (y5 &&& 31))) : Int32) fun z9 => f6_learntKeys_c6 n O m r6.2 b0 b1 s2 y3 z9 (y5 + 1))))
set_option maxHeartbeats 4000000 in
set_option maxRecDepth 20000 in
theorem o6_learntKeys_c6 {g : pG} {Qx : Option Value → pW → Prop} {Z : pZ} {L : (Nat → Nat → Int64)} {O : (Nat → Nat → Option Nat)} {n : Nat} {res : Int32 × (Nat → Nat → Int32)} (d : Nat) (hW : WT Z O) (hQ : Qx (some (.int res.1)) (Z, res.2, L, O)) : ∀ (m : Nat) (I : (Nat → Nat → Int32)) (b0 : Nat) (b1 : Nat) (s2 : Option Nat) (y3 : Int32) (y4 : Int32) (y5 : Int32), (Z[b0]? = some (6, 5)) → (Z[b1]? = some (10, 5)) → (∀ b, s2 = some b → Z[b]? = some (7, 7)) → f6_learntKeys_c6 n O m I b0 b1 s2 y3 y4 y5 = some res → Ok g (d + 6, RX6, cX6_learntKeys, 7, false, 0, 0, Z.length, pSl Z) Qx 6 [(0, .ref b0), (1, .ref b1), (2, va_rf s2), (3, .int y3), (4, .int y4), (5, .int y5)] [] (Z, I, L, O) := by
  intro m
  induction m with
  | zero => intro I b0 b1 s2 y3 y4 y5 hZ_b0 hZ_b1 hS_s2 h; rw [f6_learntKeys_c6] at h; cases h
  | succ m ih =>
    intro I b0 b1 s2 y3 y4 y5 hZ_b0 hZ_b1 hS_s2 h
    rw [f6_learntKeys_c6] at h
    refine ok_iload dX6_learntKeys_6 5 rfl ?_
    refine ok_bipush (v := 6) dX6_learntKeys_8 (by decide) ?_
    refine ok_icmp_ge (t := 61) dX6_learntKeys_10 (by decide) (fun hc1 => ?_) (fun hc1 => ?_)
    · have h := (if_pos hc1).symm.trans h
      refine ok_iload dX6_learntKeys_61 4 rfl ?_
      cases h
      exact ok_iret dX6_learntKeys_63 hQ
    · have h := (if_neg hc1).symm.trans h
      refine ok_aload_n dX6_learntKeys_13 1 rfl ?_
      refine ok_iload_n dX6_learntKeys_14 3 rfl ?_
      refine ok_iload dX6_learntKeys_15 5 rfl ?_
      obtain ⟨r2, hr3, h⟩ := bd h
      refine ok_callV (d := ((d + 2) + 3)) (mt := m10_timesHeard) (mc := 0) (ms := 0) (As := [.int y3, .int y5]) (r := []) dX6_learntKeys_17 mo10_timesHeard mv10_timesHeard lkRX6_29 rfl hZ_b1 (q := (RX10, TX10, 5)) rfl rfl rfl (Nat.le_of_ble_eq_true rfl) (by show _ + 1 ≤ d + _; omega) (Nat.le_refl _) (Nat.le_refl _) (pRt_mono ?_)
      refine k10_timesHeard (d + 2) hW hZ_b1 hr3 ?_
      intro _
      show Ok g _ Qx 20 [(0, .ref b0), (1, .ref b1), (2, va_rf s2), (3, .int y3), (4, .int y4), (5, .int y5)] [.int r2] (Z, I, L, O)
      refine ok_istore (l' := [(6, .int r2), (0, .ref b0), (1, .ref b1), (2, va_rf s2), (3, .int y3), (4, .int y4), (5, .int y5)]) dX6_learntKeys_20 (Nat.le_of_ble_eq_true rfl) rfl ?_
      refine ok_iload dX6_learntKeys_22 0 rfl ?_
      refine ok_if_le (t := 55) dX6_learntKeys_24 (by decide) (fun hc4 => ?_) (fun hc4 => ?_)
      · have h := (if_pos hc4).symm.trans h
        refine ok_iinc (u := (y5 + 1)) (l' := [(5, .int (y5 + 1)), (6, .int r2), (0, .ref b0), (1, .ref b1), (2, va_rf s2), (3, .int y3), (4, .int y4)]) dX6_learntKeys_55 6 rfl rfl (Nat.le_of_ble_eq_true rfl) rfl ?_
        refine ok_goto (t := 6) dX6_learntKeys_58 (by decide) ?_
        refine ok_sub [2, 3, 4, 5, 6, 0] rfl ?_
        exact ih I b0 b1 s2 y3 y4 (y5 + 1) hZ_b0 hZ_b1 hS_s2 h
      · have h := (if_neg hc4).symm.trans h
        refine ok_iload dX6_learntKeys_27 0 rfl ?_
        refine ok_aload_n dX6_learntKeys_29 1 rfl ?_
        have hT5 : Z[(rO O b0 0)]? = some (1, 3) := (wt_f (ci := 6) (k := 0) hW hZ_b0 rfl).2
        refine ok_getR (ci := 6) (k := 0) dX6_learntKeys_30 flRX6_25 rfl hW hZ_b0 (by decide) ?_
        refine ok_aloadQ_n dX6_learntKeys_33 3 rfl ?_
        refine ok_aload_n dX6_learntKeys_34 2 rfl ?_
        refine ok_iload_n dX6_learntKeys_35 4 rfl ?_
        refine ok_iload dX6_learntKeys_36 6 rfl ?_
        refine ok_iload dX6_learntKeys_38 0 rfl ?_
        obtain ⟨r6, hr7, h⟩ := bd h
        refine ok_callV (d := ((d + 0) + 5)) (mt := m1_learns) (mc := 0) (ms := 0) (As := [va_rf s2, .ref b1, .int y3, .int y5, .int r2]) (r := [.int r2]) dX6_learntKeys_40 mo1_learns mv1_learns lkRX6_35 rfl hT5 (q := (RX1, TX1, 3)) rfl rfl rfl (Nat.le_of_ble_eq_true rfl) (by show _ + 1 ≤ d + _; omega) (Nat.le_refl _) (Nat.le_refl _) (pRt_mono ?_)
        refine k1_learns (d + 0) hW hT5 hS_s2 hZ_b1 hr7 ?_
        intro _
        show Ok g _ Qx 43 [(6, .int r2), (0, .ref b0), (1, .ref b1), (2, va_rf s2), (3, .int y3), (4, .int y4), (5, .int y5)] [.int r6.1, .int r2] (Z, r6.2, L, O)
        refine ok_icmp_lt (t := 55) dX6_learntKeys_43 (by decide) (fun hc8 => ?_) (fun hc8 => ?_)
        · have h := (if_pos hc8).symm.trans h
          refine ok_iinc (u := (y5 + 1)) (l' := [(5, .int (y5 + 1)), (6, .int r2), (0, .ref b0), (1, .ref b1), (2, va_rf s2), (3, .int y3), (4, .int y4)]) dX6_learntKeys_55 6 rfl rfl (Nat.le_of_ble_eq_true rfl) rfl ?_
          refine ok_goto (t := 6) dX6_learntKeys_58 (by decide) ?_
          refine ok_sub [2, 3, 4, 5, 6, 0] rfl ?_
          exact ih r6.2 b0 b1 s2 y3 y4 (y5 + 1) hZ_b0 hZ_b1 hS_s2 h
        · have h := (if_neg hc8).symm.trans h
          refine ok_iload dX6_learntKeys_46 5 rfl ?_
          refine ok_iconst (v := 1) dX6_learntKeys_48 (by decide) ?_
          refine ok_iload dX6_learntKeys_49 6 rfl ?_
          refine ok_ishl dX6_learntKeys_51 ?_
          refine ok_ior dX6_learntKeys_52 ?_
          obtain ⟨z9, ez9, h⟩ := blE h
          refine ok_nm ez9 ?_
          refine ok_istore (l' := [(4, .int z9), (6, .int r2), (0, .ref b0), (1, .ref b1), (2, va_rf s2), (3, .int y3), (5, .int y5)]) dX6_learntKeys_53 (Nat.le_of_ble_eq_true rfl) rfl ?_
          refine ok_iinc (u := (y5 + 1)) (l' := [(5, .int (y5 + 1)), (4, .int z9), (6, .int r2), (0, .ref b0), (1, .ref b1), (2, va_rf s2), (3, .int y3)]) dX6_learntKeys_55 6 rfl rfl (Nat.le_of_ble_eq_true rfl) rfl ?_
          refine ok_goto (t := 6) dX6_learntKeys_58 (by decide) ?_
          refine ok_sub [3, 4, 5, 6, 1, 0] rfl ?_
          exact ih r6.2 b0 b1 s2 y3 z9 (y5 + 1) hZ_b0 hZ_b1 hS_s2 h
def f6_learntKeys (n : Nat) (I : (Nat → Nat → Int32)) (O : (Nat → Nat → Option Nat)) (a0 : Nat) (a1 : Nat) (s2 : Option Nat) (x3 : Int32) : Option (Int32 × (Nat → Nat → Int32)) := f6_learntKeys_c6 n O n I a0 a1 s2 x3 (0 : Int32) (1 : Int32)
set_option maxHeartbeats 4000000 in
set_option maxRecDepth 20000 in
theorem o6_learntKeys {g : pG} {Qx : Option Value → pW → Prop} {Z : pZ} {I : (Nat → Nat → Int32)} {L : (Nat → Nat → Int64)} {O : (Nat → Nat → Option Nat)} {n : Nat} {a0 : Nat} {a1 : Nat} {s2 : Option Nat} {x3 : Int32} {res : Int32 × (Nat → Nat → Int32)} (d : Nat) (hW : WT Z O) (hZ0 : Z[a0]? = some (6, 5)) (hZ1 : Z[a1]? = some (10, 5)) (hS2 : ∀ b, s2 = some b → Z[b]? = some (7, 7)) (h : f6_learntKeys n I O a0 a1 s2 x3 = some res) (hQ : Qx (some (.int res.1)) (Z, res.2, L, O)) : Ok g (d + 6, RX6, cX6_learntKeys, 7, false, 0, 0, Z.length, pSl Z) Qx 0 [(0, .ref a0), (1, .ref a1), (2, va_rf s2), (3, .int x3)] [] (Z, I, L, O) := by
  unfold f6_learntKeys at h
  refine ok_iconst (v := 0) dX6_learntKeys_0 (by decide) ?_
  refine ok_istore (l' := [(4, .int 0), (0, .ref a0), (1, .ref a1), (2, va_rf s2), (3, .int x3)]) dX6_learntKeys_1 (Nat.le_of_ble_eq_true rfl) rfl ?_
  refine ok_iconst (v := 1) dX6_learntKeys_3 (by decide) ?_
  refine ok_istore (l' := [(5, .int 1), (4, .int 0), (0, .ref a0), (1, .ref a1), (2, va_rf s2), (3, .int x3)]) dX6_learntKeys_4 (Nat.le_of_ble_eq_true rfl) rfl ?_
  refine ok_sub [2, 3, 4, 5, 1, 0] rfl ?_
  exact o6_learntKeys_c6 d hW hQ  n I a0 a1 s2 x3 (0 : Int32) (1 : Int32) hZ0 hZ1 hS2 h
theorem k6_learntKeys {g : pG} {Q : Option Value → pW → Prop} {Z : pZ} {I : (Nat → Nat → Int32)} {L : (Nat → Nat → Int64)} {O : (Nat → Nat → Option Nat)} {n : Nat} {a0 : Nat} {a1 : Nat} {s2 : Option Nat} {x3 : Int32} {res : Int32 × (Nat → Nat → Int32)} (d : Nat) (hW : WT Z O) (hZ0 : Z[a0]? = some (6, 5)) (hZ1 : Z[a1]? = some (10, 5)) (hS2 : ∀ b, s2 = some b → Z[b]? = some (7, 7)) (h : f6_learntKeys n I O a0 a1 s2 x3 = some res) (hQ : Q (some (.int res.1)) (Z, res.2, L, O)) : CT g (d + 6) m6_learntKeys 0 0 [.ref a0, .ref a1, va_rf s2, .int x3] (Z, I, L, O) Q :=
  ct_of_ok (mt := m6_learntKeys) (ini := false) mo6_learntKeys.2.2.2.2 (fun h => by cases h) (by cases s2 <;> exact (Nat.le_of_ble_eq_true rfl)) (by
    rw [show lv_args 0 [.ref a0, .ref a1, va_rf s2, .int x3] = [(0, .ref a0), (1, .ref a1), (2, va_rf s2), (3, .int x3)] by cases s2 <;> rfl]
    exact o6_learntKeys d hW hZ0 hZ1 hS2 h ⟨trivial, hQ, rfl, rfl⟩)
theorem dX6_timesOf_0 : decode cX6_timesOf 0 = .ok (.iload_n 1, 1) := by decide +kernel
theorem dX6_timesOf_1 : decode cX6_timesOf 1 = .ok (.ifCond .lt 17, 3) := by decide +kernel
theorem dX6_timesOf_4 : decode cX6_timesOf 4 = .ok (.iload_n 1, 1) := by decide +kernel
theorem dX6_timesOf_5 : decode cX6_timesOf 5 = .ok (.iconst 5, 1) := by decide +kernel
theorem dX6_timesOf_6 : decode cX6_timesOf 6 = .ok (.if_icmp .ge 12, 3) := by decide +kernel
theorem dX6_timesOf_9 : decode cX6_timesOf 9 = .ok (.aload_n 0, 1) := by decide +kernel
theorem dX6_timesOf_10 : decode cX6_timesOf 10 = .ok (.getfield 9, 3) := by decide +kernel
theorem dX6_timesOf_13 : decode cX6_timesOf 13 = .ok (.iload_n 1, 1) := by decide +kernel
theorem dX6_timesOf_14 : decode cX6_timesOf 14 = .ok (.iaload, 1) := by decide +kernel
theorem dX6_timesOf_15 : decode cX6_timesOf 15 = .ok (.goto 4, 3) := by decide +kernel
theorem dX6_timesOf_18 : decode cX6_timesOf 18 = .ok (.iconst 0, 1) := by decide +kernel
theorem dX6_timesOf_19 : decode cX6_timesOf 19 = .ok (.ireturn, 1) := by decide +kernel
def m6_timesOf : pMT := (yX6_timesOf, cX6_timesOf, 2, some .int)
theorem mo6_timesOf : mOK m6_timesOf 1 := ⟨tb_i 1189 (by decide +kernel), wi_RX6, ⟨wn_RX6.1, wn_RX6.2, by decide +kernel⟩, by decide, plainFor_of_name wp_RX6⟩
theorem mv6_timesOf : mV m6_timesOf := ⟨tb_i 1187 (by decide +kernel), tb_i 1188 (by decide +kernel)⟩
def f6_timesOf (I : (Nat → Nat → Int32)) (O : (Nat → Nat → Option Nat)) (a0 : Nat) (x1 : Int32) : Option (Int32) := (if x1 < 0 then some ((0 : Int32)) else (if (5 : Int32) ≤ x1 then some ((0 : Int32)) else (if x1 < 0 ∨ 5 ≤ x1.toNatClampNeg then none else some ((I (rO O a0 1) x1.toNatClampNeg)))))
set_option maxHeartbeats 4000000 in
set_option maxRecDepth 20000 in
theorem o6_timesOf {g : pG} {Qx : Option Value → pW → Prop} {Z : pZ} {I : (Nat → Nat → Int32)} {L : (Nat → Nat → Int64)} {O : (Nat → Nat → Option Nat)} {a0 : Nat} {x1 : Int32} {res : Int32} (d : Nat) (hW : WT Z O) (hZ0 : Z[a0]? = some (6, 5)) (h : f6_timesOf I O a0 x1 = some res) (hQ : Qx (some (.int res)) (Z, I, L, O)) : Ok g (d + 2, RX6, cX6_timesOf, 2, false, 0, 0, Z.length, pSl Z) Qx 0 [(0, .ref a0), (1, .int x1)] [] (Z, I, L, O) := by
  unfold f6_timesOf at h
  refine ok_iload_n dX6_timesOf_0 1 rfl ?_
  refine ok_if_lt (t := 18) dX6_timesOf_1 (by decide) (fun hc1 => ?_) (fun hc1 => ?_)
  · have h := (if_pos hc1).symm.trans h
    refine ok_iconst (v := 0) dX6_timesOf_18 (by decide) ?_
    cases h
    exact ok_iret dX6_timesOf_19 hQ
  · have h := (if_neg hc1).symm.trans h
    refine ok_iload_n dX6_timesOf_4 1 rfl ?_
    refine ok_iconst (v := 5) dX6_timesOf_5 (by decide) ?_
    refine ok_icmp_ge (t := 18) dX6_timesOf_6 (by decide) (fun hc2 => ?_) (fun hc2 => ?_)
    · have h := (if_pos hc2).symm.trans h
      refine ok_iconst (v := 0) dX6_timesOf_18 (by decide) ?_
      cases h
      exact ok_iret dX6_timesOf_19 hQ
    · have h := (if_neg hc2).symm.trans h
      refine ok_aload_n dX6_timesOf_9 0 rfl ?_
      have hT3 : Z[(rO O a0 1)]? = some (13, 5) := (wt_f (ci := 6) (k := 1) hW hZ0 rfl).2
      refine ok_getR (ci := 6) (k := 1) dX6_timesOf_10 flRX6_9 rfl hW hZ0 (by decide) ?_
      refine ok_iload_n dX6_timesOf_13 1 rfl ?_
      obtain ⟨hg4, h⟩ := gd h
      refine ok_iald2 (N := x1.toNatClampNeg) dX6_timesOf_14 hT3 hg4 rfl ?_
      refine ok_goto (t := 19) dX6_timesOf_15 (by decide) ?_
      cases h
      exact ok_iret dX6_timesOf_19 hQ
theorem k6_timesOf {g : pG} {Q : Option Value → pW → Prop} {Z : pZ} {I : (Nat → Nat → Int32)} {L : (Nat → Nat → Int64)} {O : (Nat → Nat → Option Nat)} {a0 : Nat} {x1 : Int32} {res : Int32} (d : Nat) (hW : WT Z O) (hZ0 : Z[a0]? = some (6, 5)) (h : f6_timesOf I O a0 x1 = some res) (hQ : Q (some (.int res)) (Z, I, L, O)) : CT g (d + 2) m6_timesOf 0 0 [.ref a0, .int x1] (Z, I, L, O) Q :=
  ct_of_ok (mt := m6_timesOf) (ini := false) mo6_timesOf.2.2.2.2 (fun h => by cases h) (Nat.le_of_ble_eq_true rfl) (o6_timesOf d hW hZ0 h ⟨trivial, hQ, rfl, rfl⟩)
theorem dX6_heardThen_0 : decode cX6_heardThen 0 = .ok (.aload_n 1, 1) := by decide +kernel
theorem dX6_heardThen_1 : decode cX6_heardThen 1 = .ok (.iload_n 2, 1) := by decide +kernel
theorem dX6_heardThen_2 : decode cX6_heardThen 2 = .ok (.iload_n 3, 1) := by decide +kernel
theorem dX6_heardThen_3 : decode cX6_heardThen 3 = .ok (.invokevirtual 29, 3) := by decide +kernel
theorem dX6_heardThen_6 : decode cX6_heardThen 6 = .ok (.istore 4, 2) := by decide +kernel
theorem dX6_heardThen_8 : decode cX6_heardThen 8 = .ok (.iconst 0, 1) := by decide +kernel
theorem dX6_heardThen_9 : decode cX6_heardThen 9 = .ok (.istore 5, 2) := by decide +kernel
theorem dX6_heardThen_11 : decode cX6_heardThen 11 = .ok (.iload 5, 2) := by decide +kernel
theorem dX6_heardThen_13 : decode cX6_heardThen 13 = .ok (.iconst 5, 1) := by decide +kernel
theorem dX6_heardThen_14 : decode cX6_heardThen 14 = .ok (.if_icmp .ge 34, 3) := by decide +kernel
theorem dX6_heardThen_17 : decode cX6_heardThen 17 = .ok (.iload 4, 2) := by decide +kernel
theorem dX6_heardThen_19 : decode cX6_heardThen 19 = .ok (.aload_n 0, 1) := by decide +kernel
theorem dX6_heardThen_20 : decode cX6_heardThen 20 = .ok (.getfield 9, 3) := by decide +kernel
theorem dX6_heardThen_23 : decode cX6_heardThen 23 = .ok (.iload 5, 2) := by decide +kernel
theorem dX6_heardThen_25 : decode cX6_heardThen 25 = .ok (.iaload, 1) := by decide +kernel
theorem dX6_heardThen_26 : decode cX6_heardThen 26 = .ok (.aload_n 0, 1) := by decide +kernel
theorem dX6_heardThen_27 : decode cX6_heardThen 27 = .ok (.getfield 15, 3) := by decide +kernel
theorem dX6_heardThen_30 : decode cX6_heardThen 30 = .ok (.iload 5, 2) := by decide +kernel
theorem dX6_heardThen_32 : decode cX6_heardThen 32 = .ok (.bipush 6, 2) := by decide +kernel
theorem dX6_heardThen_34 : decode cX6_heardThen 34 = .ok (.imul, 1) := by decide +kernel
theorem dX6_heardThen_35 : decode cX6_heardThen 35 = .ok (.iload_n 3, 1) := by decide +kernel
theorem dX6_heardThen_36 : decode cX6_heardThen 36 = .ok (.iadd, 1) := by decide +kernel
theorem dX6_heardThen_37 : decode cX6_heardThen 37 = .ok (.iaload, 1) := by decide +kernel
theorem dX6_heardThen_38 : decode cX6_heardThen 38 = .ok (.imul, 1) := by decide +kernel
theorem dX6_heardThen_39 : decode cX6_heardThen 39 = .ok (.iadd, 1) := by decide +kernel
theorem dX6_heardThen_40 : decode cX6_heardThen 40 = .ok (.istore 4, 2) := by decide +kernel
theorem dX6_heardThen_42 : decode cX6_heardThen 42 = .ok (.iinc 5 1, 3) := by decide +kernel
theorem dX6_heardThen_45 : decode cX6_heardThen 45 = .ok (.goto (-34), 3) := by decide +kernel
theorem dX6_heardThen_48 : decode cX6_heardThen 48 = .ok (.iconst 0, 1) := by decide +kernel
theorem dX6_heardThen_49 : decode cX6_heardThen 49 = .ok (.bipush 99, 2) := by decide +kernel
theorem dX6_heardThen_51 : decode cX6_heardThen 51 = .ok (.iload 4, 2) := by decide +kernel
theorem dX6_heardThen_53 : decode cX6_heardThen 53 = .ok (.invokestatic 65, 3) := by decide +kernel
theorem dX6_heardThen_56 : decode cX6_heardThen 56 = .ok (.invokestatic 70, 3) := by decide +kernel
theorem dX6_heardThen_59 : decode cX6_heardThen 59 = .ok (.ireturn, 1) := by decide +kernel
def m6_heardThen : pMT := (yX6_heardThen, cX6_heardThen, 6, some .int)
theorem mo6_heardThen : mOK m6_heardThen 3 := ⟨tb_i 1183 (by decide +kernel), wi_RX6, ⟨wn_RX6.1, wn_RX6.2, by decide +kernel⟩, by decide, plainFor_of_name wp_RX6⟩
theorem mv6_heardThen : mV m6_heardThen := ⟨tb_i 1182 (by decide +kernel), tb_p 54 (by decide +kernel)⟩
def f6_heardThen_c11 (n : Nat) (I : (Nat → Nat → Int32)) (O : (Nat → Nat → Option Nat)) : Nat → Nat → Int32 → Int32 → Int32 → Option (Int32)
  | 0, _, _, _, _ => none
  | m + 1, b0, y3, y4, y5 => (if (5 : Int32) ≤ y5 then (fJ9_min_7cf53 (99 : Int32) y4).bind fun r2 => (fJ9_max_7cf53 (0 : Int32) r2).bind fun r4 => some (r4) else (if y5 < 0 ∨ 5 ≤ y5.toNatClampNeg then none else (if ((y5 * 6) + y3) < 0 ∨ 30 ≤ ((y5 * 6) + y3).toNatClampNeg then none else bl ((y4 + ((I (rO O b0 1) y5.toNatClampNeg) * (I (rO O b0 2) ((y5 * 6) + y3).toNatClampNeg))) : Int32) fun z10 => f6_heardThen_c11 n I O m b0 y3 z10 (y5 + 1))))
set_option maxHeartbeats 4000000 in
set_option maxRecDepth 20000 in
theorem o6_heardThen_c11 {g : pG} {Qx : Option Value → pW → Prop} {Z : pZ} {I : (Nat → Nat → Int32)} {L : (Nat → Nat → Int64)} {O : (Nat → Nat → Option Nat)} {n : Nat} {res : Int32} (d : Nat) (hW : WT Z O) (hQ : Qx (some (.int res)) (Z, I, L, O)) : ∀ (m : Nat) (b0 : Nat) (y3 : Int32) (y4 : Int32) (y5 : Int32), (Z[b0]? = some (6, 5)) → f6_heardThen_c11 n I O m b0 y3 y4 y5 = some res → Ok g (d + 4, RX6, cX6_heardThen, 6, false, 0, 0, Z.length, pSl Z) Qx 11 [(0, .ref b0), (3, .int y3), (4, .int y4), (5, .int y5)] [] (Z, I, L, O) := by
  intro m
  induction m with
  | zero => intro b0 y3 y4 y5 hZ_b0 h; rw [f6_heardThen_c11] at h; cases h
  | succ m ih =>
    intro b0 y3 y4 y5 hZ_b0 h
    rw [f6_heardThen_c11] at h
    refine ok_iload dX6_heardThen_11 3 rfl ?_
    refine ok_iconst (v := 5) dX6_heardThen_13 (by decide) ?_
    refine ok_icmp_ge (t := 48) dX6_heardThen_14 (by decide) (fun hc1 => ?_) (fun hc1 => ?_)
    · have h := (if_pos hc1).symm.trans h
      refine ok_iconst (v := 0) dX6_heardThen_48 (by decide) ?_
      refine ok_bipush (v := 99) dX6_heardThen_49 (by decide) ?_
      refine ok_iload dX6_heardThen_51 2 rfl ?_
      obtain ⟨r2, hr3, h⟩ := bd h
      refine ok_callS (d := ((d + 1) + 2)) (mt := mJ9_min_7cf53) (mc := 0) (ms := 0) (As := [.int 99, .int y4]) (r := [.int 0]) dX6_heardThen_53 moJ9_min_7cf53 mvJ9_min_7cf53 lkRX6_65 rfl rfl (Nat.le_of_ble_eq_true rfl) (by show _ + 1 ≤ d + _; omega) (Nat.le_refl _) (Nat.le_refl _) (pRt_mono ?_)
      refine kJ9_min_7cf53 (d + 1) hW  hr3 ?_
      intro _
      show Ok g _ Qx 56 [(0, .ref b0), (3, .int y3), (4, .int y4), (5, .int y5)] [.int r2, .int 0] (Z, I, L, O)
      obtain ⟨r4, hr5, h⟩ := bd h
      refine ok_callS (d := ((d + 1) + 2)) (mt := mJ9_max_7cf53) (mc := 0) (ms := 0) (As := [.int 0, .int r2]) (r := []) dX6_heardThen_56 moJ9_max_7cf53 mvJ9_max_7cf53 lkRX6_70 rfl rfl (Nat.le_of_ble_eq_true rfl) (by show _ + 1 ≤ d + _; omega) (Nat.le_refl _) (Nat.le_refl _) (pRt_mono ?_)
      refine kJ9_max_7cf53 (d + 1) hW  hr5 ?_
      intro _
      show Ok g _ Qx 59 [(0, .ref b0), (3, .int y3), (4, .int y4), (5, .int y5)] [.int r4] (Z, I, L, O)
      cases h
      exact ok_iret dX6_heardThen_59 hQ
    · have h := (if_neg hc1).symm.trans h
      refine ok_iload dX6_heardThen_17 2 rfl ?_
      refine ok_aload_n dX6_heardThen_19 0 rfl ?_
      have hT6 : Z[(rO O b0 1)]? = some (13, 5) := (wt_f (ci := 6) (k := 1) hW hZ_b0 rfl).2
      refine ok_getR (ci := 6) (k := 1) dX6_heardThen_20 flRX6_9 rfl hW hZ_b0 (by decide) ?_
      refine ok_iload dX6_heardThen_23 3 rfl ?_
      obtain ⟨hg7, h⟩ := gd h
      refine ok_iald2 (N := y5.toNatClampNeg) dX6_heardThen_25 hT6 hg7 rfl ?_
      refine ok_aload_n dX6_heardThen_26 0 rfl ?_
      have hT8 : Z[(rO O b0 2)]? = some (13, 30) := (wt_f (ci := 6) (k := 2) hW hZ_b0 rfl).2
      refine ok_getR (ci := 6) (k := 2) dX6_heardThen_27 flRX6_15 rfl hW hZ_b0 (by decide) ?_
      refine ok_iload dX6_heardThen_30 3 rfl ?_
      refine ok_bipush (v := 6) dX6_heardThen_32 (by decide) ?_
      refine ok_imul dX6_heardThen_34 ?_
      refine ok_iload_n dX6_heardThen_35 1 rfl ?_
      refine ok_iadd dX6_heardThen_36 ?_
      obtain ⟨hg9, h⟩ := gd h
      refine ok_iald2 (N := ((y5 * 6) + y3).toNatClampNeg) dX6_heardThen_37 hT8 hg9 rfl ?_
      refine ok_imul dX6_heardThen_38 ?_
      refine ok_iadd dX6_heardThen_39 ?_
      obtain ⟨z10, ez10, h⟩ := blE h
      refine ok_nm ez10 ?_
      refine ok_istore (l' := [(4, .int z10), (0, .ref b0), (3, .int y3), (5, .int y5)]) dX6_heardThen_40 (Nat.le_of_ble_eq_true rfl) rfl ?_
      refine ok_iinc (u := (y5 + 1)) (l' := [(5, .int (y5 + 1)), (4, .int z10), (0, .ref b0), (3, .int y3)]) dX6_heardThen_42 3 rfl rfl (Nat.le_of_ble_eq_true rfl) rfl ?_
      refine ok_goto (t := 11) dX6_heardThen_45 (by decide) ?_
      refine ok_sub [2, 3, 1, 0] rfl ?_
      exact ih b0 y3 z10 (y5 + 1) hZ_b0 h
def f6_heardThen (n : Nat) (I : (Nat → Nat → Int32)) (O : (Nat → Nat → Option Nat)) (a0 : Nat) (a1 : Nat) (x2 : Int32) (x3 : Int32) : Option (Int32) := (f10_timesHeard I O a1 x2 x3).bind fun r1 => f6_heardThen_c11 n I O n a0 x3 r1 (0 : Int32)
set_option maxHeartbeats 4000000 in
set_option maxRecDepth 20000 in
theorem o6_heardThen {g : pG} {Qx : Option Value → pW → Prop} {Z : pZ} {I : (Nat → Nat → Int32)} {L : (Nat → Nat → Int64)} {O : (Nat → Nat → Option Nat)} {n : Nat} {a0 : Nat} {a1 : Nat} {x2 : Int32} {x3 : Int32} {res : Int32} (d : Nat) (hW : WT Z O) (hZ0 : Z[a0]? = some (6, 5)) (hZ1 : Z[a1]? = some (10, 5)) (h : f6_heardThen n I O a0 a1 x2 x3 = some res) (hQ : Qx (some (.int res)) (Z, I, L, O)) : Ok g (d + 4, RX6, cX6_heardThen, 6, false, 0, 0, Z.length, pSl Z) Qx 0 [(0, .ref a0), (1, .ref a1), (2, .int x2), (3, .int x3)] [] (Z, I, L, O) := by
  unfold f6_heardThen at h
  refine ok_aload_n dX6_heardThen_0 1 rfl ?_
  refine ok_iload_n dX6_heardThen_1 2 rfl ?_
  refine ok_iload_n dX6_heardThen_2 3 rfl ?_
  obtain ⟨r1, hr2, h⟩ := bd h
  refine ok_callV (d := ((d + 0) + 3)) (mt := m10_timesHeard) (mc := 0) (ms := 0) (As := [.int x2, .int x3]) (r := []) dX6_heardThen_3 mo10_timesHeard mv10_timesHeard lkRX6_29 rfl hZ1 (q := (RX10, TX10, 5)) rfl rfl rfl (Nat.le_of_ble_eq_true rfl) (by show _ + 1 ≤ d + _; omega) (Nat.le_refl _) (Nat.le_refl _) (pRt_mono ?_)
  refine k10_timesHeard (d + 0) hW hZ1 hr2 ?_
  intro _
  show Ok g _ Qx 6 [(0, .ref a0), (1, .ref a1), (2, .int x2), (3, .int x3)] [.int r1] (Z, I, L, O)
  refine ok_istore (l' := [(4, .int r1), (0, .ref a0), (1, .ref a1), (2, .int x2), (3, .int x3)]) dX6_heardThen_6 (Nat.le_of_ble_eq_true rfl) rfl ?_
  refine ok_iconst (v := 0) dX6_heardThen_8 (by decide) ?_
  refine ok_istore (l' := [(5, .int 0), (4, .int r1), (0, .ref a0), (1, .ref a1), (2, .int x2), (3, .int x3)]) dX6_heardThen_9 (Nat.le_of_ble_eq_true rfl) rfl ?_
  refine ok_sub [2, 5, 1, 0] rfl ?_
  exact o6_heardThen_c11 d hW hQ  n a0 x3 r1 (0 : Int32) hZ0 h
theorem k6_heardThen {g : pG} {Q : Option Value → pW → Prop} {Z : pZ} {I : (Nat → Nat → Int32)} {L : (Nat → Nat → Int64)} {O : (Nat → Nat → Option Nat)} {n : Nat} {a0 : Nat} {a1 : Nat} {x2 : Int32} {x3 : Int32} {res : Int32} (d : Nat) (hW : WT Z O) (hZ0 : Z[a0]? = some (6, 5)) (hZ1 : Z[a1]? = some (10, 5)) (h : f6_heardThen n I O a0 a1 x2 x3 = some res) (hQ : Q (some (.int res)) (Z, I, L, O)) : CT g (d + 4) m6_heardThen 0 0 [.ref a0, .ref a1, .int x2, .int x3] (Z, I, L, O) Q :=
  ct_of_ok (mt := m6_heardThen) (ini := false) mo6_heardThen.2.2.2.2 (fun h => by cases h) (Nat.le_of_ble_eq_true rfl) (o6_heardThen d hW hZ0 hZ1 h ⟨trivial, hQ, rfl, rfl⟩)
theorem dX6_teachesAll_0 : decode cX6_teachesAll 0 = .ok (.iconst 1, 1) := by decide +kernel
theorem dX6_teachesAll_1 : decode cX6_teachesAll 1 = .ok (.istore 5, 2) := by decide +kernel
theorem dX6_teachesAll_3 : decode cX6_teachesAll 3 = .ok (.iload 5, 2) := by decide +kernel
theorem dX6_teachesAll_5 : decode cX6_teachesAll 5 = .ok (.bipush 6, 2) := by decide +kernel
theorem dX6_teachesAll_7 : decode cX6_teachesAll 7 = .ok (.if_icmp .ge 113, 3) := by decide +kernel
theorem dX6_teachesAll_10 : decode cX6_teachesAll 10 = .ok (.iload 4, 2) := by decide +kernel
theorem dX6_teachesAll_12 : decode cX6_teachesAll 12 = .ok (.iload 5, 2) := by decide +kernel
theorem dX6_teachesAll_14 : decode cX6_teachesAll 14 = .ok (.ishr, 1) := by decide +kernel
theorem dX6_teachesAll_15 : decode cX6_teachesAll 15 = .ok (.iconst 1, 1) := by decide +kernel
theorem dX6_teachesAll_16 : decode cX6_teachesAll 16 = .ok (.iand, 1) := by decide +kernel
theorem dX6_teachesAll_17 : decode cX6_teachesAll 17 = .ok (.ifCond .ne 6, 3) := by decide +kernel
theorem dX6_teachesAll_20 : decode cX6_teachesAll 20 = .ok (.goto 94, 3) := by decide +kernel
theorem dX6_teachesAll_23 : decode cX6_teachesAll 23 = .ok (.aload_n 0, 1) := by decide +kernel
theorem dX6_teachesAll_24 : decode cX6_teachesAll 24 = .ok (.aload_n 1, 1) := by decide +kernel
theorem dX6_teachesAll_25 : decode cX6_teachesAll 25 = .ok (.iload_n 3, 1) := by decide +kernel
theorem dX6_teachesAll_26 : decode cX6_teachesAll 26 = .ok (.iload 5, 2) := by decide +kernel
theorem dX6_teachesAll_28 : decode cX6_teachesAll 28 = .ok (.invokevirtual 61, 3) := by decide +kernel
theorem dX6_teachesAll_31 : decode cX6_teachesAll 31 = .ok (.istore 6, 2) := by decide +kernel
theorem dX6_teachesAll_33 : decode cX6_teachesAll 33 = .ok (.iload 5, 2) := by decide +kernel
theorem dX6_teachesAll_35 : decode cX6_teachesAll 35 = .ok (.bipush 100, 2) := by decide +kernel
theorem dX6_teachesAll_37 : decode cX6_teachesAll 37 = .ok (.imul, 1) := by decide +kernel
theorem dX6_teachesAll_38 : decode cX6_teachesAll 38 = .ok (.iload 6, 2) := by decide +kernel
theorem dX6_teachesAll_40 : decode cX6_teachesAll 40 = .ok (.iadd, 1) := by decide +kernel
theorem dX6_teachesAll_41 : decode cX6_teachesAll 41 = .ok (.istore 7, 2) := by decide +kernel
theorem dX6_teachesAll_43 : decode cX6_teachesAll 43 = .ok (.aload_n 0, 1) := by decide +kernel
theorem dX6_teachesAll_44 : decode cX6_teachesAll 44 = .ok (.getfield 18, 3) := by decide +kernel
theorem dX6_teachesAll_47 : decode cX6_teachesAll 47 = .ok (.iload 7, 2) := by decide +kernel
theorem dX6_teachesAll_49 : decode cX6_teachesAll 49 = .ok (.iaload, 1) := by decide +kernel
theorem dX6_teachesAll_50 : decode cX6_teachesAll 50 = .ok (.ifCond .ne 51, 3) := by decide +kernel
theorem dX6_teachesAll_53 : decode cX6_teachesAll 53 = .ok (.iload 6, 2) := by decide +kernel
theorem dX6_teachesAll_55 : decode cX6_teachesAll 55 = .ok (.ifCond .le 26, 3) := by decide +kernel
theorem dX6_teachesAll_58 : decode cX6_teachesAll 58 = .ok (.iload 6, 2) := by decide +kernel
theorem dX6_teachesAll_60 : decode cX6_teachesAll 60 = .ok (.aload_n 0, 1) := by decide +kernel
theorem dX6_teachesAll_61 : decode cX6_teachesAll 61 = .ok (.getfield 25, 3) := by decide +kernel
theorem dX6_teachesAll_64 : decode cX6_teachesAll 64 = .ok (.aload_n 2, 1) := by decide +kernel
theorem dX6_teachesAll_65 : decode cX6_teachesAll 65 = .ok (.aload_n 1, 1) := by decide +kernel
theorem dX6_teachesAll_66 : decode cX6_teachesAll 66 = .ok (.iload_n 3, 1) := by decide +kernel
theorem dX6_teachesAll_67 : decode cX6_teachesAll 67 = .ok (.iload 5, 2) := by decide +kernel
theorem dX6_teachesAll_69 : decode cX6_teachesAll 69 = .ok (.iload 6, 2) := by decide +kernel
theorem dX6_teachesAll_71 : decode cX6_teachesAll 71 = .ok (.invokevirtual 35, 3) := by decide +kernel
theorem dX6_teachesAll_74 : decode cX6_teachesAll 74 = .ok (.if_icmp .lt 7, 3) := by decide +kernel
theorem dX6_teachesAll_77 : decode cX6_teachesAll 77 = .ok (.iconst 1, 1) := by decide +kernel
theorem dX6_teachesAll_78 : decode cX6_teachesAll 78 = .ok (.goto 4, 3) := by decide +kernel
theorem dX6_teachesAll_81 : decode cX6_teachesAll 81 = .ok (.iconst 0, 1) := by decide +kernel
theorem dX6_teachesAll_82 : decode cX6_teachesAll 82 = .ok (.istore 8, 2) := by decide +kernel
theorem dX6_teachesAll_84 : decode cX6_teachesAll 84 = .ok (.aload_n 0, 1) := by decide +kernel
theorem dX6_teachesAll_85 : decode cX6_teachesAll 85 = .ok (.getfield 18, 3) := by decide +kernel
theorem dX6_teachesAll_88 : decode cX6_teachesAll 88 = .ok (.iload 7, 2) := by decide +kernel
theorem dX6_teachesAll_90 : decode cX6_teachesAll 90 = .ok (.iload 8, 2) := by decide +kernel
theorem dX6_teachesAll_92 : decode cX6_teachesAll 92 = .ok (.ifCond .eq 7, 3) := by decide +kernel
theorem dX6_teachesAll_95 : decode cX6_teachesAll 95 = .ok (.iconst 1, 1) := by decide +kernel
theorem dX6_teachesAll_96 : decode cX6_teachesAll 96 = .ok (.goto 4, 3) := by decide +kernel
theorem dX6_teachesAll_99 : decode cX6_teachesAll 99 = .ok (.iconst 2, 1) := by decide +kernel
theorem dX6_teachesAll_100 : decode cX6_teachesAll 100 = .ok (.iastore, 1) := by decide +kernel
theorem dX6_teachesAll_101 : decode cX6_teachesAll 101 = .ok (.aload_n 0, 1) := by decide +kernel
theorem dX6_teachesAll_102 : decode cX6_teachesAll 102 = .ok (.getfield 18, 3) := by decide +kernel
theorem dX6_teachesAll_105 : decode cX6_teachesAll 105 = .ok (.iload 7, 2) := by decide +kernel
theorem dX6_teachesAll_107 : decode cX6_teachesAll 107 = .ok (.iaload, 1) := by decide +kernel
theorem dX6_teachesAll_108 : decode cX6_teachesAll 108 = .ok (.iconst 2, 1) := by decide +kernel
theorem dX6_teachesAll_109 : decode cX6_teachesAll 109 = .ok (.if_icmp .ne 5, 3) := by decide +kernel
theorem dX6_teachesAll_112 : decode cX6_teachesAll 112 = .ok (.iconst 0, 1) := by decide +kernel
theorem dX6_teachesAll_113 : decode cX6_teachesAll 113 = .ok (.ireturn, 1) := by decide +kernel
theorem dX6_teachesAll_114 : decode cX6_teachesAll 114 = .ok (.iinc 5 1, 3) := by decide +kernel
theorem dX6_teachesAll_117 : decode cX6_teachesAll 117 = .ok (.goto (-114), 3) := by decide +kernel
theorem dX6_teachesAll_120 : decode cX6_teachesAll 120 = .ok (.iconst 1, 1) := by decide +kernel
theorem dX6_teachesAll_121 : decode cX6_teachesAll 121 = .ok (.ireturn, 1) := by decide +kernel
def m6_teachesAll : pMT := (yX6_teachesAll, cX6_teachesAll, 9, some .boolean)
theorem mo6_teachesAll : mOK m6_teachesAll 4 := ⟨tb_i 1179 (by decide +kernel), wi_RX6, ⟨wn_RX6.1, wn_RX6.2, by decide +kernel⟩, by decide, plainFor_of_name wp_RX6⟩
theorem mv6_teachesAll : mV m6_teachesAll := ⟨tb_i 1178 (by decide +kernel), tb_p 53 (by decide +kernel)⟩
def f6_teachesAll_c100 (n : Nat) (O : (Nat → Nat → Option Nat)) (k3 : ((Nat → Nat → Int32) → Nat → Nat → Option Nat → Int32 → Int32 → Int32 → Option (Int32 × (Nat → Nat → Int32)))) (I : (Nat → Nat → Int32)) (b0 : Nat) (b1 : Nat) (s2 : Option Nat) (y3 : Int32) (y4 : Int32) (y5 : Int32) (y7 : Int32) (t0 : Int32) (t1 : Int32) (t2 : Nat) : Option (Int32 × (Nat → Nat → Int32)) := (if t1 < 0 ∨ 600 ≤ t1.toNatClampNeg then none else bl (sI I t2 t1.toNatClampNeg t0) fun I2 => (if y7 < 0 ∨ 600 ≤ y7.toNatClampNeg then none else (if (I2 (rO O b0 3) y7.toNatClampNeg) = (2 : Int32) then some ((0 : Int32), I2) else k3 I2 b0 b1 s2 y3 y4 (y5 + 1))))
set_option maxHeartbeats 4000000 in
set_option maxRecDepth 20000 in
theorem o6_teachesAll_c100 {g : pG} {Qx : Option Value → pW → Prop} {Z : pZ} {L : (Nat → Nat → Int64)} {O : (Nat → Nat → Option Nat)} {n : Nat} {k3 : ((Nat → Nat → Int32) → Nat → Nat → Option Nat → Int32 → Int32 → Int32 → Option (Int32 × (Nat → Nat → Int32)))} {res : Int32 × (Nat → Nat → Int32)} (d : Nat) (hW : WT Z O) (hQ : (res.1 = 0 ∨ res.1 = 1) → Qx (some (.int res.1)) (Z, res.2, L, O)) (hk3 : ∀ (I : (Nat → Nat → Int32)) (b0 : Nat) (b1 : Nat) (s2 : Option Nat) (y3 : Int32) (y4 : Int32) (y5 : Int32), (Z[b0]? = some (6, 5)) → (Z[b1]? = some (10, 5)) → (∀ b, s2 = some b → Z[b]? = some (7, 7)) → k3 I b0 b1 s2 y3 y4 y5 = some res → Ok g (d + 6, RX6, cX6_teachesAll, 9, false, 0, 0, Z.length, pSl Z) Qx 3 [(0, .ref b0), (1, .ref b1), (2, va_rf s2), (3, .int y3), (4, .int y4), (5, .int y5)] [] (Z, I, L, O)) (I : (Nat → Nat → Int32)) (b0 : Nat) (b1 : Nat) (s2 : Option Nat) (y3 : Int32) (y4 : Int32) (y5 : Int32) (y7 : Int32) (t0 : Int32) (t1 : Int32) (t2 : Nat) (hZ_b0 : Z[b0]? = some (6, 5)) (hZ_b1 : Z[b1]? = some (10, 5)) (hS_s2 : ∀ b, s2 = some b → Z[b]? = some (7, 7)) (hZ_t2 : Z[t2]? = some (13, 600)) (h : f6_teachesAll_c100 n O k3 I b0 b1 s2 y3 y4 y5 y7 t0 t1 t2 = some res) : Ok g (d + 6, RX6, cX6_teachesAll, 9, false, 0, 0, Z.length, pSl Z) Qx 100 [(0, .ref b0), (1, .ref b1), (2, va_rf s2), (3, .int y3), (4, .int y4), (5, .int y5), (7, .int y7)] [.int t0, .int t1, .ref t2] (Z, I, L, O) := by
  unfold f6_teachesAll_c100 at h
  obtain ⟨hg1, h⟩ := gd h
  obtain ⟨I2, eI2, h⟩ := blE h
  refine ok_iast3 dX6_teachesAll_100 hZ_t2 hg1 rfl eI2 ?_
  refine ok_aload_n dX6_teachesAll_101 0 rfl ?_
  have hT3 : Z[(rO O b0 3)]? = some (13, 600) := (wt_f (ci := 6) (k := 3) hW hZ_b0 rfl).2
  refine ok_getR (ci := 6) (k := 3) dX6_teachesAll_102 flRX6_18 rfl hW hZ_b0 (by decide) ?_
  refine ok_iload dX6_teachesAll_105 6 rfl ?_
  obtain ⟨hg4, h⟩ := gd h
  refine ok_iald2 (N := y7.toNatClampNeg) dX6_teachesAll_107 hT3 hg4 rfl ?_
  refine ok_iconst (v := 2) dX6_teachesAll_108 (by decide) ?_
  refine ok_icmp_ne (t := 114) dX6_teachesAll_109 (by decide) (fun hc5 => ?_) (fun hc5 => ?_)
  · have h := (if_neg hc5).symm.trans h
    refine ok_iinc (u := (y5 + 1)) (l' := [(5, .int (y5 + 1)), (0, .ref b0), (1, .ref b1), (2, va_rf s2), (3, .int y3), (4, .int y4), (7, .int y7)]) dX6_teachesAll_114 5 rfl rfl (Nat.le_of_ble_eq_true rfl) rfl ?_
    refine ok_goto (t := 3) dX6_teachesAll_117 (by decide) ?_
    refine ok_sub [1, 2, 3, 4, 5, 0] rfl ?_
    exact hk3 I2 b0 b1 s2 y3 y4 (y5 + 1) hZ_b0 hZ_b1 hS_s2 h
  · have h := (if_pos hc5).symm.trans h
    refine ok_iconst (v := 0) dX6_teachesAll_112 (by decide) ?_
    cases h
    exact ok_iret dX6_teachesAll_113 (hQ (Or.inl rfl))
def f6_teachesAll_c82 (n : Nat) (O : (Nat → Nat → Option Nat)) (k3 : ((Nat → Nat → Int32) → Nat → Nat → Option Nat → Int32 → Int32 → Int32 → Option (Int32 × (Nat → Nat → Int32)))) (I : (Nat → Nat → Int32)) (b0 : Nat) (b1 : Nat) (s2 : Option Nat) (y3 : Int32) (y4 : Int32) (y5 : Int32) (y7 : Int32) (t0 : Int32) : Option (Int32 × (Nat → Nat → Int32)) := (if t0 = 0 then f6_teachesAll_c100 n O k3 I b0 b1 s2 y3 y4 y5 y7 (2 : Int32) y7 (rO O b0 3) else f6_teachesAll_c100 n O k3 I b0 b1 s2 y3 y4 y5 y7 (1 : Int32) y7 (rO O b0 3))
set_option maxHeartbeats 4000000 in
set_option maxRecDepth 20000 in
theorem o6_teachesAll_c82 {g : pG} {Qx : Option Value → pW → Prop} {Z : pZ} {L : (Nat → Nat → Int64)} {O : (Nat → Nat → Option Nat)} {n : Nat} {k3 : ((Nat → Nat → Int32) → Nat → Nat → Option Nat → Int32 → Int32 → Int32 → Option (Int32 × (Nat → Nat → Int32)))} {res : Int32 × (Nat → Nat → Int32)} (d : Nat) (hW : WT Z O) (hQ : (res.1 = 0 ∨ res.1 = 1) → Qx (some (.int res.1)) (Z, res.2, L, O)) (hk3 : ∀ (I : (Nat → Nat → Int32)) (b0 : Nat) (b1 : Nat) (s2 : Option Nat) (y3 : Int32) (y4 : Int32) (y5 : Int32), (Z[b0]? = some (6, 5)) → (Z[b1]? = some (10, 5)) → (∀ b, s2 = some b → Z[b]? = some (7, 7)) → k3 I b0 b1 s2 y3 y4 y5 = some res → Ok g (d + 6, RX6, cX6_teachesAll, 9, false, 0, 0, Z.length, pSl Z) Qx 3 [(0, .ref b0), (1, .ref b1), (2, va_rf s2), (3, .int y3), (4, .int y4), (5, .int y5)] [] (Z, I, L, O)) (I : (Nat → Nat → Int32)) (b0 : Nat) (b1 : Nat) (s2 : Option Nat) (y3 : Int32) (y4 : Int32) (y5 : Int32) (y7 : Int32) (t0 : Int32) (hZ_b0 : Z[b0]? = some (6, 5)) (hZ_b1 : Z[b1]? = some (10, 5)) (hS_s2 : ∀ b, s2 = some b → Z[b]? = some (7, 7)) (hz_t0 : t0 = 0 ∨ t0 = 1) (h : f6_teachesAll_c82 n O k3 I b0 b1 s2 y3 y4 y5 y7 t0 = some res) : Ok g (d + 6, RX6, cX6_teachesAll, 9, false, 0, 0, Z.length, pSl Z) Qx 82 [(0, .ref b0), (1, .ref b1), (2, va_rf s2), (3, .int y3), (4, .int y4), (5, .int y5), (7, .int y7)] [.int t0] (Z, I, L, O) := by
  unfold f6_teachesAll_c82 at h
  refine ok_istore (l' := [(8, .int t0), (0, .ref b0), (1, .ref b1), (2, va_rf s2), (3, .int y3), (4, .int y4), (5, .int y5), (7, .int y7)]) dX6_teachesAll_82 (Nat.le_of_ble_eq_true rfl) rfl ?_
  refine ok_aload_n dX6_teachesAll_84 1 rfl ?_
  have hT1 : Z[(rO O b0 3)]? = some (13, 600) := (wt_f (ci := 6) (k := 3) hW hZ_b0 rfl).2
  refine ok_getR (ci := 6) (k := 3) dX6_teachesAll_85 flRX6_18 rfl hW hZ_b0 (by decide) ?_
  refine ok_iload dX6_teachesAll_88 7 rfl ?_
  refine ok_iload dX6_teachesAll_90 0 rfl ?_
  refine ok_if_eq (t := 99) dX6_teachesAll_92 (by decide) (fun hc2 => ?_) (fun hc2 => ?_)
  · have h := (if_pos hc2).symm.trans h
    refine ok_iconst (v := 2) dX6_teachesAll_99 (by decide) ?_
    refine ok_sub [1, 2, 3, 4, 5, 6, 7] rfl ?_
    exact o6_teachesAll_c100 d hW hQ hk3 I b0 b1 s2 y3 y4 y5 y7 (2 : Int32) y7 (rO O b0 3) hZ_b0 hZ_b1 hS_s2 hT1 h
  · have h := (if_neg hc2).symm.trans h
    refine ok_iconst (v := 1) dX6_teachesAll_95 (by decide) ?_
    refine ok_goto (t := 100) dX6_teachesAll_96 (by decide) ?_
    refine ok_sub [1, 2, 3, 4, 5, 6, 7] rfl ?_
    exact o6_teachesAll_c100 d hW hQ hk3 I b0 b1 s2 y3 y4 y5 y7 (1 : Int32) y7 (rO O b0 3) hZ_b0 hZ_b1 hS_s2 hT1 h
def f6_teachesAll_c81 (n : Nat) (O : (Nat → Nat → Option Nat)) (k3 : ((Nat → Nat → Int32) → Nat → Nat → Option Nat → Int32 → Int32 → Int32 → Option (Int32 × (Nat → Nat → Int32)))) (I : (Nat → Nat → Int32)) (b0 : Nat) (b1 : Nat) (s2 : Option Nat) (y3 : Int32) (y4 : Int32) (y5 : Int32) (y7 : Int32) : Option (Int32 × (Nat → Nat → Int32)) := f6_teachesAll_c82 n O k3 I b0 b1 s2 y3 y4 y5 y7 (0 : Int32)
set_option maxHeartbeats 4000000 in
set_option maxRecDepth 20000 in
theorem o6_teachesAll_c81 {g : pG} {Qx : Option Value → pW → Prop} {Z : pZ} {L : (Nat → Nat → Int64)} {O : (Nat → Nat → Option Nat)} {n : Nat} {k3 : ((Nat → Nat → Int32) → Nat → Nat → Option Nat → Int32 → Int32 → Int32 → Option (Int32 × (Nat → Nat → Int32)))} {res : Int32 × (Nat → Nat → Int32)} (d : Nat) (hW : WT Z O) (hQ : (res.1 = 0 ∨ res.1 = 1) → Qx (some (.int res.1)) (Z, res.2, L, O)) (hk3 : ∀ (I : (Nat → Nat → Int32)) (b0 : Nat) (b1 : Nat) (s2 : Option Nat) (y3 : Int32) (y4 : Int32) (y5 : Int32), (Z[b0]? = some (6, 5)) → (Z[b1]? = some (10, 5)) → (∀ b, s2 = some b → Z[b]? = some (7, 7)) → k3 I b0 b1 s2 y3 y4 y5 = some res → Ok g (d + 6, RX6, cX6_teachesAll, 9, false, 0, 0, Z.length, pSl Z) Qx 3 [(0, .ref b0), (1, .ref b1), (2, va_rf s2), (3, .int y3), (4, .int y4), (5, .int y5)] [] (Z, I, L, O)) (I : (Nat → Nat → Int32)) (b0 : Nat) (b1 : Nat) (s2 : Option Nat) (y3 : Int32) (y4 : Int32) (y5 : Int32) (y7 : Int32) (hZ_b0 : Z[b0]? = some (6, 5)) (hZ_b1 : Z[b1]? = some (10, 5)) (hS_s2 : ∀ b, s2 = some b → Z[b]? = some (7, 7)) (h : f6_teachesAll_c81 n O k3 I b0 b1 s2 y3 y4 y5 y7 = some res) : Ok g (d + 6, RX6, cX6_teachesAll, 9, false, 0, 0, Z.length, pSl Z) Qx 81 [(0, .ref b0), (1, .ref b1), (2, va_rf s2), (3, .int y3), (4, .int y4), (5, .int y5), (7, .int y7)] [] (Z, I, L, O) := by
  unfold f6_teachesAll_c81 at h
  refine ok_iconst (v := 0) dX6_teachesAll_81 (by decide) ?_
  refine ok_sub [0, 1, 2, 3, 4, 5, 6] rfl ?_
  exact o6_teachesAll_c82 d hW hQ hk3 I b0 b1 s2 y3 y4 y5 y7 (0 : Int32) hZ_b0 hZ_b1 hS_s2 (Or.inl rfl) h
def f6_teachesAll_c3 (n : Nat) (O : (Nat → Nat → Option Nat)) : Nat → (Nat → Nat → Int32) → Nat → Nat → Option Nat → Int32 → Int32 → Int32 → Option (Int32 × (Nat → Nat → Int32))
  | 0, _, _, _, _, _, _, _ => none
  | m + 1, I, b0, b1, s2, y3, y4, y5 => (if (6 : Int32) ≤ y5 then some ((1 : Int32), I) else (if ((y4 >>> (y5 &&& 31)) &&& 1) = 0 then f6_teachesAll_c3 n O m I b0 b1 s2 y3 y4 (y5 + 1) else (f6_heardThen n I O b0 b1 y3 y5).bind fun r3 => (if ((y5 * 100) + r3) < 0 ∨ 600 ≤ ((y5 * 100) + r3).toNatClampNeg then none else (if (I (rO O b0 3) ((y5 * 100) + r3).toNatClampNeg) = 0 then (if r3 ≤ 0 then f6_teachesAll_c81 n O (f6_teachesAll_c3 n O m) I b0 b1 s2 y3 y4 y5 ((y5 * 100) + r3) else (f1_learns n I O (rO O b0 0) s2 b1 y3 y5 r3).bind fun r12 => (if r3 < r12.1 then f6_teachesAll_c81 n O (f6_teachesAll_c3 n O m) r12.2 b0 b1 s2 y3 y4 y5 ((y5 * 100) + r3) else f6_teachesAll_c82 n O (f6_teachesAll_c3 n O m) r12.2 b0 b1 s2 y3 y4 y5 ((y5 * 100) + r3) (1 : Int32))) else (if ((y5 * 100) + r3) < 0 ∨ 600 ≤ ((y5 * 100) + r3).toNatClampNeg then none else (if (I (rO O b0 3) ((y5 * 100) + r3).toNatClampNeg) = (2 : Int32) then some ((0 : Int32), I) else f6_teachesAll_c3 n O m I b0 b1 s2 y3 y4 (y5 + 1)))))))
set_option maxHeartbeats 4000000 in
set_option maxRecDepth 20000 in
theorem o6_teachesAll_c3 {g : pG} {Qx : Option Value → pW → Prop} {Z : pZ} {L : (Nat → Nat → Int64)} {O : (Nat → Nat → Option Nat)} {n : Nat} {res : Int32 × (Nat → Nat → Int32)} (d : Nat) (hW : WT Z O) (hQ : (res.1 = 0 ∨ res.1 = 1) → Qx (some (.int res.1)) (Z, res.2, L, O)) : ∀ (m : Nat) (I : (Nat → Nat → Int32)) (b0 : Nat) (b1 : Nat) (s2 : Option Nat) (y3 : Int32) (y4 : Int32) (y5 : Int32), (Z[b0]? = some (6, 5)) → (Z[b1]? = some (10, 5)) → (∀ b, s2 = some b → Z[b]? = some (7, 7)) → f6_teachesAll_c3 n O m I b0 b1 s2 y3 y4 y5 = some res → Ok g (d + 6, RX6, cX6_teachesAll, 9, false, 0, 0, Z.length, pSl Z) Qx 3 [(0, .ref b0), (1, .ref b1), (2, va_rf s2), (3, .int y3), (4, .int y4), (5, .int y5)] [] (Z, I, L, O) := by
  intro m
  induction m with
  | zero => intro I b0 b1 s2 y3 y4 y5 hZ_b0 hZ_b1 hS_s2 h; rw [f6_teachesAll_c3] at h; cases h
  | succ m ih =>
    intro I b0 b1 s2 y3 y4 y5 hZ_b0 hZ_b1 hS_s2 h
    rw [f6_teachesAll_c3] at h
    refine ok_iload dX6_teachesAll_3 5 rfl ?_
    refine ok_bipush (v := 6) dX6_teachesAll_5 (by decide) ?_
    refine ok_icmp_ge (t := 120) dX6_teachesAll_7 (by decide) (fun hc1 => ?_) (fun hc1 => ?_)
    · have h := (if_pos hc1).symm.trans h
      refine ok_iconst (v := 1) dX6_teachesAll_120 (by decide) ?_
      cases h
      exact ok_iret dX6_teachesAll_121 (hQ (Or.inr rfl))
    · have h := (if_neg hc1).symm.trans h
      refine ok_iload dX6_teachesAll_10 4 rfl ?_
      refine ok_iload dX6_teachesAll_12 5 rfl ?_
      refine ok_ishr dX6_teachesAll_14 ?_
      refine ok_iconst (v := 1) dX6_teachesAll_15 (by decide) ?_
      refine ok_iand dX6_teachesAll_16 ?_
      refine ok_if_ne (t := 23) dX6_teachesAll_17 (by decide) (fun hc2 => ?_) (fun hc2 => ?_)
      · have h := (if_neg hc2).symm.trans h
        refine ok_aload_n dX6_teachesAll_23 0 rfl ?_
        refine ok_aload_n dX6_teachesAll_24 1 rfl ?_
        refine ok_iload_n dX6_teachesAll_25 3 rfl ?_
        refine ok_iload dX6_teachesAll_26 5 rfl ?_
        obtain ⟨r3, hr4, h⟩ := bd h
        refine ok_callV (d := ((d + 1) + 4)) (mt := m6_heardThen) (mc := 0) (ms := 0) (As := [.ref b1, .int y3, .int y5]) (r := []) dX6_teachesAll_28 mo6_heardThen mv6_heardThen lkRX6_61 rfl hZ_b0 (q := (RX6, TX6, 5)) rfl rfl rfl (Nat.le_of_ble_eq_true rfl) (by show _ + 1 ≤ d + _; omega) (Nat.le_refl _) (Nat.le_refl _) (pRt_mono ?_)
        refine k6_heardThen (d + 1) hW hZ_b0 hZ_b1 hr4 ?_
        intro _
        show Ok g _ Qx 31 [(0, .ref b0), (1, .ref b1), (2, va_rf s2), (3, .int y3), (4, .int y4), (5, .int y5)] [.int r3] (Z, I, L, O)
        refine ok_istore (l' := [(6, .int r3), (0, .ref b0), (1, .ref b1), (2, va_rf s2), (3, .int y3), (4, .int y4), (5, .int y5)]) dX6_teachesAll_31 (Nat.le_of_ble_eq_true rfl) rfl ?_
        refine ok_iload dX6_teachesAll_33 6 rfl ?_
        refine ok_bipush (v := 100) dX6_teachesAll_35 (by decide) ?_
        refine ok_imul dX6_teachesAll_37 ?_
        refine ok_iload dX6_teachesAll_38 0 rfl ?_
        refine ok_iadd dX6_teachesAll_40 ?_
        refine ok_istore (l' := [(7, .int ((y5 * 100) + r3)), (6, .int r3), (0, .ref b0), (1, .ref b1), (2, va_rf s2), (3, .int y3), (4, .int y4), (5, .int y5)]) dX6_teachesAll_41 (Nat.le_of_ble_eq_true rfl) rfl ?_
        refine ok_aload_n dX6_teachesAll_43 2 rfl ?_
        have hT5 : Z[(rO O b0 3)]? = some (13, 600) := (wt_f (ci := 6) (k := 3) hW hZ_b0 rfl).2
        refine ok_getR (ci := 6) (k := 3) dX6_teachesAll_44 flRX6_18 rfl hW hZ_b0 (by decide) ?_
        refine ok_iload dX6_teachesAll_47 0 rfl ?_
        obtain ⟨hg6, h⟩ := gd h
        refine ok_iald2 (N := ((y5 * 100) + r3).toNatClampNeg) dX6_teachesAll_49 hT5 hg6 rfl ?_
        refine ok_if_ne (t := 101) dX6_teachesAll_50 (by decide) (fun hc7 => ?_) (fun hc7 => ?_)
        · have h := (if_neg hc7).symm.trans h
          refine ok_aload_n dX6_teachesAll_101 2 rfl ?_
          refine ok_getR (ci := 6) (k := 3) dX6_teachesAll_102 flRX6_18 rfl hW hZ_b0 (by decide) ?_
          refine ok_iload dX6_teachesAll_105 0 rfl ?_
          obtain ⟨hg8, h⟩ := gd h
          refine ok_iald2 (N := ((y5 * 100) + r3).toNatClampNeg) dX6_teachesAll_107 hT5 hg8 rfl ?_
          refine ok_iconst (v := 2) dX6_teachesAll_108 (by decide) ?_
          refine ok_icmp_ne (t := 114) dX6_teachesAll_109 (by decide) (fun hc9 => ?_) (fun hc9 => ?_)
          · have h := (if_neg hc9).symm.trans h
            refine ok_iinc (u := (y5 + 1)) (l' := [(5, .int (y5 + 1)), (7, .int ((y5 * 100) + r3)), (6, .int r3), (0, .ref b0), (1, .ref b1), (2, va_rf s2), (3, .int y3), (4, .int y4)]) dX6_teachesAll_114 7 rfl rfl (Nat.le_of_ble_eq_true rfl) rfl ?_
            refine ok_goto (t := 3) dX6_teachesAll_117 (by decide) ?_
            refine ok_sub [3, 4, 5, 6, 7, 0] rfl ?_
            exact ih I b0 b1 s2 y3 y4 (y5 + 1) hZ_b0 hZ_b1 hS_s2 h
          · have h := (if_pos hc9).symm.trans h
            refine ok_iconst (v := 0) dX6_teachesAll_112 (by decide) ?_
            cases h
            exact ok_iret dX6_teachesAll_113 (hQ (Or.inl rfl))
        · have h := (if_pos hc7).symm.trans h
          refine ok_iload dX6_teachesAll_53 1 rfl ?_
          refine ok_if_le (t := 81) dX6_teachesAll_55 (by decide) (fun hc10 => ?_) (fun hc10 => ?_)
          · have h := (if_pos hc10).symm.trans h
            refine ok_sub [2, 3, 4, 5, 6, 7, 0] rfl ?_
            exact o6_teachesAll_c81 d hW hQ ih I b0 b1 s2 y3 y4 y5 ((y5 * 100) + r3) hZ_b0 hZ_b1 hS_s2 h
          · have h := (if_neg hc10).symm.trans h
            refine ok_iload dX6_teachesAll_58 1 rfl ?_
            refine ok_aload_n dX6_teachesAll_60 2 rfl ?_
            have hT11 : Z[(rO O b0 0)]? = some (1, 3) := (wt_f (ci := 6) (k := 0) hW hZ_b0 rfl).2
            refine ok_getR (ci := 6) (k := 0) dX6_teachesAll_61 flRX6_25 rfl hW hZ_b0 (by decide) ?_
            refine ok_aloadQ_n dX6_teachesAll_64 4 rfl ?_
            refine ok_aload_n dX6_teachesAll_65 3 rfl ?_
            refine ok_iload_n dX6_teachesAll_66 5 rfl ?_
            refine ok_iload dX6_teachesAll_67 7 rfl ?_
            refine ok_iload dX6_teachesAll_69 1 rfl ?_
            obtain ⟨r12, hr13, h⟩ := bd h
            refine ok_callV (d := ((d + 0) + 5)) (mt := m1_learns) (mc := 0) (ms := 0) (As := [va_rf s2, .ref b1, .int y3, .int y5, .int r3]) (r := [.int r3]) dX6_teachesAll_71 mo1_learns mv1_learns lkRX6_35 rfl hT11 (q := (RX1, TX1, 3)) rfl rfl rfl (Nat.le_of_ble_eq_true rfl) (by show _ + 1 ≤ d + _; omega) (Nat.le_refl _) (Nat.le_refl _) (pRt_mono ?_)
            refine k1_learns (d + 0) hW hT11 hS_s2 hZ_b1 hr13 ?_
            intro _
            show Ok g _ Qx 74 [(7, .int ((y5 * 100) + r3)), (6, .int r3), (0, .ref b0), (1, .ref b1), (2, va_rf s2), (3, .int y3), (4, .int y4), (5, .int y5)] [.int r12.1, .int r3] (Z, r12.2, L, O)
            refine ok_icmp_lt (t := 81) dX6_teachesAll_74 (by decide) (fun hc14 => ?_) (fun hc14 => ?_)
            · have h := (if_pos hc14).symm.trans h
              refine ok_sub [2, 3, 4, 5, 6, 7, 0] rfl ?_
              exact o6_teachesAll_c81 d hW hQ ih r12.2 b0 b1 s2 y3 y4 y5 ((y5 * 100) + r3) hZ_b0 hZ_b1 hS_s2 h
            · have h := (if_neg hc14).symm.trans h
              refine ok_iconst (v := 1) dX6_teachesAll_77 (by decide) ?_
              refine ok_goto (t := 82) dX6_teachesAll_78 (by decide) ?_
              refine ok_sub [2, 3, 4, 5, 6, 7, 0] rfl ?_
              exact o6_teachesAll_c82 d hW hQ ih r12.2 b0 b1 s2 y3 y4 y5 ((y5 * 100) + r3) (1 : Int32) hZ_b0 hZ_b1 hS_s2 (Or.inr rfl) h
      · have h := (if_pos hc2).symm.trans h
        refine ok_goto (t := 114) dX6_teachesAll_20 (by decide) ?_
        refine ok_iinc (u := (y5 + 1)) (l' := [(5, .int (y5 + 1)), (0, .ref b0), (1, .ref b1), (2, va_rf s2), (3, .int y3), (4, .int y4)]) dX6_teachesAll_114 5 rfl rfl (Nat.le_of_ble_eq_true rfl) rfl ?_
        refine ok_goto (t := 3) dX6_teachesAll_117 (by decide) ?_
        refine ok_sub [1, 2, 3, 4, 5, 0] rfl ?_
        exact ih I b0 b1 s2 y3 y4 (y5 + 1) hZ_b0 hZ_b1 hS_s2 h
def f6_teachesAll (n : Nat) (I : (Nat → Nat → Int32)) (O : (Nat → Nat → Option Nat)) (a0 : Nat) (a1 : Nat) (s2 : Option Nat) (x3 : Int32) (x4 : Int32) : Option (Int32 × (Nat → Nat → Int32)) := f6_teachesAll_c3 n O n I a0 a1 s2 x3 x4 (1 : Int32)
set_option maxHeartbeats 4000000 in
set_option maxRecDepth 20000 in
theorem o6_teachesAll {g : pG} {Qx : Option Value → pW → Prop} {Z : pZ} {I : (Nat → Nat → Int32)} {L : (Nat → Nat → Int64)} {O : (Nat → Nat → Option Nat)} {n : Nat} {a0 : Nat} {a1 : Nat} {s2 : Option Nat} {x3 : Int32} {x4 : Int32} {res : Int32 × (Nat → Nat → Int32)} (d : Nat) (hW : WT Z O) (hZ0 : Z[a0]? = some (6, 5)) (hZ1 : Z[a1]? = some (10, 5)) (hS2 : ∀ b, s2 = some b → Z[b]? = some (7, 7)) (h : f6_teachesAll n I O a0 a1 s2 x3 x4 = some res) (hQ : (res.1 = 0 ∨ res.1 = 1) → Qx (some (.int res.1)) (Z, res.2, L, O)) : Ok g (d + 6, RX6, cX6_teachesAll, 9, false, 0, 0, Z.length, pSl Z) Qx 0 [(0, .ref a0), (1, .ref a1), (2, va_rf s2), (3, .int x3), (4, .int x4)] [] (Z, I, L, O) := by
  unfold f6_teachesAll at h
  refine ok_iconst (v := 1) dX6_teachesAll_0 (by decide) ?_
  refine ok_istore (l' := [(5, .int 1), (0, .ref a0), (1, .ref a1), (2, va_rf s2), (3, .int x3), (4, .int x4)]) dX6_teachesAll_1 (Nat.le_of_ble_eq_true rfl) rfl ?_
  refine ok_sub [1, 2, 3, 4, 5, 0] rfl ?_
  exact o6_teachesAll_c3 d hW hQ  n I a0 a1 s2 x3 x4 (1 : Int32) hZ0 hZ1 hS2 h
theorem k6_teachesAll {g : pG} {Q : Option Value → pW → Prop} {Z : pZ} {I : (Nat → Nat → Int32)} {L : (Nat → Nat → Int64)} {O : (Nat → Nat → Option Nat)} {n : Nat} {a0 : Nat} {a1 : Nat} {s2 : Option Nat} {x3 : Int32} {x4 : Int32} {res : Int32 × (Nat → Nat → Int32)} (d : Nat) (hW : WT Z O) (hZ0 : Z[a0]? = some (6, 5)) (hZ1 : Z[a1]? = some (10, 5)) (hS2 : ∀ b, s2 = some b → Z[b]? = some (7, 7)) (h : f6_teachesAll n I O a0 a1 s2 x3 x4 = some res) (hQ : Q (some (.int res.1)) (Z, res.2, L, O)) : CT g (d + 6) m6_teachesAll 0 0 [.ref a0, .ref a1, va_rf s2, .int x3, .int x4] (Z, I, L, O) Q :=
  ct_of_ok (mt := m6_teachesAll) (ini := false) mo6_teachesAll.2.2.2.2 (fun h => by cases h) (by cases s2 <;> exact (Nat.le_of_ble_eq_true rfl)) (by
    rw [show lv_args 0 [.ref a0, .ref a1, va_rf s2, .int x3, .int x4] = [(0, .ref a0), (1, .ref a1), (2, va_rf s2), (3, .int x3), (4, .int x4)] by cases s2 <;> rfl]
    exact o6_teachesAll d hW hZ0 hZ1 hS2 h (fun hb => ⟨hb, hQ, rfl, rfl⟩))
theorem dX6_weighPlace_0 : decode cX6_weighPlace 0 = .ok (.bipush 16, 2) := by decide +kernel
theorem dX6_weighPlace_2 : decode cX6_weighPlace 2 = .ok (.istore_n 2, 1) := by decide +kernel
theorem dX6_weighPlace_3 : decode cX6_weighPlace 3 = .ok (.iload_n 2, 1) := by decide +kernel
theorem dX6_weighPlace_4 : decode cX6_weighPlace 4 = .ok (.ifCond .le 39, 3) := by decide +kernel
theorem dX6_weighPlace_7 : decode cX6_weighPlace 7 = .ok (.aload_n 0, 1) := by decide +kernel
theorem dX6_weighPlace_8 : decode cX6_weighPlace 8 = .ok (.getfield 21, 3) := by decide +kernel
theorem dX6_weighPlace_11 : decode cX6_weighPlace 11 = .ok (.iload_n 2, 1) := by decide +kernel
theorem dX6_weighPlace_12 : decode cX6_weighPlace 12 = .ok (.aload_n 0, 1) := by decide +kernel
theorem dX6_weighPlace_13 : decode cX6_weighPlace 13 = .ok (.getfield 21, 3) := by decide +kernel
theorem dX6_weighPlace_16 : decode cX6_weighPlace 16 = .ok (.iload_n 2, 1) := by decide +kernel
theorem dX6_weighPlace_17 : decode cX6_weighPlace 17 = .ok (.laload, 1) := by decide +kernel
theorem dX6_weighPlace_18 : decode cX6_weighPlace 18 = .ok (.iload_n 1, 1) := by decide +kernel
theorem dX6_weighPlace_19 : decode cX6_weighPlace 19 = .ok (.i2l, 1) := by decide +kernel
theorem dX6_weighPlace_20 : decode cX6_weighPlace 20 = .ok (.lmul, 1) := by decide +kernel
theorem dX6_weighPlace_21 : decode cX6_weighPlace 21 = .ok (.aload_n 0, 1) := by decide +kernel
theorem dX6_weighPlace_22 : decode cX6_weighPlace 22 = .ok (.getfield 21, 3) := by decide +kernel
theorem dX6_weighPlace_25 : decode cX6_weighPlace 25 = .ok (.iload_n 2, 1) := by decide +kernel
theorem dX6_weighPlace_26 : decode cX6_weighPlace 26 = .ok (.iconst 1, 1) := by decide +kernel
theorem dX6_weighPlace_27 : decode cX6_weighPlace 27 = .ok (.isub, 1) := by decide +kernel
theorem dX6_weighPlace_28 : decode cX6_weighPlace 28 = .ok (.laload, 1) := by decide +kernel
theorem dX6_weighPlace_29 : decode cX6_weighPlace 29 = .ok (.bipush 10, 2) := by decide +kernel
theorem dX6_weighPlace_31 : decode cX6_weighPlace 31 = .ok (.iload_n 1, 1) := by decide +kernel
theorem dX6_weighPlace_32 : decode cX6_weighPlace 32 = .ok (.isub, 1) := by decide +kernel
theorem dX6_weighPlace_33 : decode cX6_weighPlace 33 = .ok (.i2l, 1) := by decide +kernel
theorem dX6_weighPlace_34 : decode cX6_weighPlace 34 = .ok (.lmul, 1) := by decide +kernel
theorem dX6_weighPlace_35 : decode cX6_weighPlace 35 = .ok (.ladd, 1) := by decide +kernel
theorem dX6_weighPlace_36 : decode cX6_weighPlace 36 = .ok (.lastore, 1) := by decide +kernel
theorem dX6_weighPlace_37 : decode cX6_weighPlace 37 = .ok (.iinc 2 (-1), 3) := by decide +kernel
theorem dX6_weighPlace_40 : decode cX6_weighPlace 40 = .ok (.goto (-37), 3) := by decide +kernel
theorem dX6_weighPlace_43 : decode cX6_weighPlace 43 = .ok (.aload_n 0, 1) := by decide +kernel
theorem dX6_weighPlace_44 : decode cX6_weighPlace 44 = .ok (.getfield 21, 3) := by decide +kernel
theorem dX6_weighPlace_47 : decode cX6_weighPlace 47 = .ok (.iconst 0, 1) := by decide +kernel
theorem dX6_weighPlace_48 : decode cX6_weighPlace 48 = .ok (.aload_n 0, 1) := by decide +kernel
theorem dX6_weighPlace_49 : decode cX6_weighPlace 49 = .ok (.getfield 21, 3) := by decide +kernel
theorem dX6_weighPlace_52 : decode cX6_weighPlace 52 = .ok (.iconst 0, 1) := by decide +kernel
theorem dX6_weighPlace_53 : decode cX6_weighPlace 53 = .ok (.laload, 1) := by decide +kernel
theorem dX6_weighPlace_54 : decode cX6_weighPlace 54 = .ok (.iload_n 1, 1) := by decide +kernel
theorem dX6_weighPlace_55 : decode cX6_weighPlace 55 = .ok (.i2l, 1) := by decide +kernel
theorem dX6_weighPlace_56 : decode cX6_weighPlace 56 = .ok (.lmul, 1) := by decide +kernel
theorem dX6_weighPlace_57 : decode cX6_weighPlace 57 = .ok (.lastore, 1) := by decide +kernel
theorem dX6_weighPlace_58 : decode cX6_weighPlace 58 = .ok (.return_, 1) := by decide +kernel
def m6_weighPlace : pMT := (yX6_weighPlace, cX6_weighPlace, 3, none)
theorem mo6_weighPlace : mOK m6_weighPlace 1 := ⟨tb_i 1208 (by decide +kernel), wi_RX6, ⟨wn_RX6.1, wn_RX6.2, by decide +kernel⟩, by decide, plainFor_of_name wp_RX6⟩
theorem mv6_weighPlace : mV m6_weighPlace := ⟨tb_i 1207 (by decide +kernel), tb_p 55 (by decide +kernel)⟩
def f6_weighPlace_c3 (n : Nat) (O : (Nat → Nat → Option Nat)) : Nat → (Nat → Nat → Int64) → Nat → Int32 → Int32 → Option ((Nat → Nat → Int64))
  | 0, _, _, _, _ => none
  | m + 1, L, b0, y1, y2 => (if y2 ≤ 0 then bl (sL L (rO O b0 4) 0 ((L (rO O b0 4) 0) * y1.toInt64)) fun L3 => some (L3) else (if y2 < 0 ∨ 17 ≤ y2.toNatClampNeg then none else (if (y2 - 1) < 0 ∨ 17 ≤ (y2 - 1).toNatClampNeg then none else (if y2 < 0 ∨ 17 ≤ y2.toNatClampNeg then none else bl (sL L (rO O b0 4) y2.toNatClampNeg (((L (rO O b0 4) y2.toNatClampNeg) * y1.toInt64) + ((L (rO O b0 4) (y2 - 1).toNatClampNeg) * ((10 : Int32) - y1).toInt64))) fun L8 => f6_weighPlace_c3 n O m L8 b0 y1 (y2 + (-1))))))
set_option maxHeartbeats 4000000 in
set_option maxRecDepth 20000 in
theorem o6_weighPlace_c3 {g : pG} {Qx : Option Value → pW → Prop} {Z : pZ} {I : (Nat → Nat → Int32)} {O : (Nat → Nat → Option Nat)} {n : Nat} {res : (Nat → Nat → Int64)} (d : Nat) (hW : WT Z O) (hQ : Qx none (Z, I, res, O)) : ∀ (m : Nat) (L : (Nat → Nat → Int64)) (b0 : Nat) (y1 : Int32) (y2 : Int32), (Z[b0]? = some (6, 5)) → f6_weighPlace_c3 n O m L b0 y1 y2 = some res → Ok g (d + 2, RX6, cX6_weighPlace, 3, false, 0, 0, Z.length, pSl Z) Qx 3 [(0, .ref b0), (1, .int y1), (2, .int y2)] [] (Z, I, L, O) := by
  intro m
  induction m with
  | zero => intro L b0 y1 y2 hZ_b0 h; rw [f6_weighPlace_c3] at h; cases h
  | succ m ih =>
    intro L b0 y1 y2 hZ_b0 h
    rw [f6_weighPlace_c3] at h
    refine ok_iload_n dX6_weighPlace_3 2 rfl ?_
    refine ok_if_le (t := 43) dX6_weighPlace_4 (by decide) (fun hc1 => ?_) (fun hc1 => ?_)
    · have h := (if_pos hc1).symm.trans h
      refine ok_aload_n dX6_weighPlace_43 0 rfl ?_
      have hT2 : Z[(rO O b0 4)]? = some (14, 17) := (wt_f (ci := 6) (k := 4) hW hZ_b0 rfl).2
      refine ok_getR (ci := 6) (k := 4) dX6_weighPlace_44 flRX6_21 rfl hW hZ_b0 (by decide) ?_
      refine ok_iconst (v := 0) dX6_weighPlace_47 (by decide) ?_
      refine ok_aload_n dX6_weighPlace_48 0 rfl ?_
      refine ok_getR (ci := 6) (k := 4) dX6_weighPlace_49 flRX6_21 rfl hW hZ_b0 (by decide) ?_
      refine ok_iconst (v := 0) dX6_weighPlace_52 (by decide) ?_
      refine ok_lald2 (N := 0) dX6_weighPlace_53 hT2 (by unfold vp_in; decide) (by decide) ?_
      refine ok_iload_n dX6_weighPlace_54 1 rfl ?_
      refine ok_i2l dX6_weighPlace_55 ?_
      refine ok_lmul dX6_weighPlace_56 ?_
      obtain ⟨L3, eL3, h⟩ := blE h
      refine ok_last3 dX6_weighPlace_57 hT2 (by unfold vp_in; decide) (by decide) eL3 ?_
      cases h
      exact ok_vret dX6_weighPlace_58 hQ
    · have h := (if_neg hc1).symm.trans h
      refine ok_aload_n dX6_weighPlace_7 0 rfl ?_
      have hT4 : Z[(rO O b0 4)]? = some (14, 17) := (wt_f (ci := 6) (k := 4) hW hZ_b0 rfl).2
      refine ok_getR (ci := 6) (k := 4) dX6_weighPlace_8 flRX6_21 rfl hW hZ_b0 (by decide) ?_
      refine ok_iload_n dX6_weighPlace_11 2 rfl ?_
      refine ok_aload_n dX6_weighPlace_12 0 rfl ?_
      refine ok_getR (ci := 6) (k := 4) dX6_weighPlace_13 flRX6_21 rfl hW hZ_b0 (by decide) ?_
      refine ok_iload_n dX6_weighPlace_16 2 rfl ?_
      obtain ⟨hg5, h⟩ := gd h
      refine ok_lald2 (N := y2.toNatClampNeg) dX6_weighPlace_17 hT4 hg5 rfl ?_
      refine ok_iload_n dX6_weighPlace_18 1 rfl ?_
      refine ok_i2l dX6_weighPlace_19 ?_
      refine ok_lmul dX6_weighPlace_20 ?_
      refine ok_aload_n dX6_weighPlace_21 0 rfl ?_
      refine ok_getR (ci := 6) (k := 4) dX6_weighPlace_22 flRX6_21 rfl hW hZ_b0 (by decide) ?_
      refine ok_iload_n dX6_weighPlace_25 2 rfl ?_
      refine ok_iconst (v := 1) dX6_weighPlace_26 (by decide) ?_
      refine ok_isub dX6_weighPlace_27 ?_
      obtain ⟨hg6, h⟩ := gd h
      refine ok_lald2 (N := (y2 - 1).toNatClampNeg) dX6_weighPlace_28 hT4 hg6 rfl ?_
      refine ok_bipush (v := 10) dX6_weighPlace_29 (by decide) ?_
      refine ok_iload_n dX6_weighPlace_31 1 rfl ?_
      refine ok_isub dX6_weighPlace_32 ?_
      refine ok_i2l dX6_weighPlace_33 ?_
      refine ok_lmul dX6_weighPlace_34 ?_
      refine ok_ladd dX6_weighPlace_35 ?_
      obtain ⟨hg7, h⟩ := gd h
      obtain ⟨L8, eL8, h⟩ := blE h
      refine ok_last3 dX6_weighPlace_36 hT4 hg7 rfl eL8 ?_
      refine ok_iinc (u := (y2 + (-1))) (l' := [(2, .int (y2 + (-1))), (0, .ref b0), (1, .int y1)]) dX6_weighPlace_37 2 rfl rfl (Nat.le_of_ble_eq_true rfl) rfl ?_
      refine ok_goto (t := 3) dX6_weighPlace_40 (by decide) ?_
      refine ok_sub [1, 2, 0] rfl ?_
      exact ih L8 b0 y1 (y2 + (-1)) hZ_b0 h
def f6_weighPlace (n : Nat) (L : (Nat → Nat → Int64)) (O : (Nat → Nat → Option Nat)) (a0 : Nat) (x1 : Int32) : Option ((Nat → Nat → Int64)) := f6_weighPlace_c3 n O n L a0 x1 (16 : Int32)
set_option maxHeartbeats 4000000 in
set_option maxRecDepth 20000 in
theorem o6_weighPlace {g : pG} {Qx : Option Value → pW → Prop} {Z : pZ} {I : (Nat → Nat → Int32)} {L : (Nat → Nat → Int64)} {O : (Nat → Nat → Option Nat)} {n : Nat} {a0 : Nat} {x1 : Int32} {res : (Nat → Nat → Int64)} (d : Nat) (hW : WT Z O) (hZ0 : Z[a0]? = some (6, 5)) (h : f6_weighPlace n L O a0 x1 = some res) (hQ : Qx none (Z, I, res, O)) : Ok g (d + 2, RX6, cX6_weighPlace, 3, false, 0, 0, Z.length, pSl Z) Qx 0 [(0, .ref a0), (1, .int x1)] [] (Z, I, L, O) := by
  unfold f6_weighPlace at h
  refine ok_bipush (v := 16) dX6_weighPlace_0 (by decide) ?_
  refine ok_istore_n (l' := [(2, .int 16), (0, .ref a0), (1, .int x1)]) dX6_weighPlace_2 rfl (Nat.le_of_ble_eq_true rfl) rfl ?_
  refine ok_sub [1, 2, 0] rfl ?_
  exact o6_weighPlace_c3 d hW hQ  n L a0 x1 (16 : Int32) hZ0 h
theorem k6_weighPlace {g : pG} {Q : Option Value → pW → Prop} {Z : pZ} {I : (Nat → Nat → Int32)} {L : (Nat → Nat → Int64)} {O : (Nat → Nat → Option Nat)} {n : Nat} {a0 : Nat} {x1 : Int32} {res : (Nat → Nat → Int64)} (d : Nat) (hW : WT Z O) (hZ0 : Z[a0]? = some (6, 5)) (h : f6_weighPlace n L O a0 x1 = some res) (hQ : Q none (Z, I, res, O)) : CT g (d + 2) m6_weighPlace 0 0 [.ref a0, .int x1] (Z, I, L, O) Q :=
  ct_of_ok (mt := m6_weighPlace) (ini := false) mo6_weighPlace.2.2.2.2 (fun h => by cases h) (Nat.le_of_ble_eq_true rfl) (o6_weighPlace d hW hZ0 h ⟨trivial, hQ, rfl, rfl⟩)
theorem dX6_weigh_0 : decode cX6_weigh 0 = .ok (.aload_n 0, 1) := by decide +kernel
theorem dX6_weigh_1 : decode cX6_weigh 1 = .ok (.getfield 21, 3) := by decide +kernel
theorem dX6_weigh_4 : decode cX6_weigh 4 = .ok (.lconst 0, 1) := by decide +kernel
theorem dX6_weigh_5 : decode cX6_weigh 5 = .ok (.invokestatic 73, 3) := by decide +kernel
theorem dX6_weigh_8 : decode cX6_weigh 8 = .ok (.aload_n 0, 1) := by decide +kernel
theorem dX6_weigh_9 : decode cX6_weigh 9 = .ok (.getfield 21, 3) := by decide +kernel
theorem dX6_weigh_12 : decode cX6_weigh 12 = .ok (.iconst 0, 1) := by decide +kernel
theorem dX6_weigh_13 : decode cX6_weigh 13 = .ok (.lconst 1, 1) := by decide +kernel
theorem dX6_weigh_14 : decode cX6_weigh 14 = .ok (.lastore, 1) := by decide +kernel
theorem dX6_weigh_15 : decode cX6_weigh 15 = .ok (.iconst 0, 1) := by decide +kernel
theorem dX6_weigh_16 : decode cX6_weigh 16 = .ok (.istore 6, 2) := by decide +kernel
theorem dX6_weigh_18 : decode cX6_weigh 18 = .ok (.iload 6, 2) := by decide +kernel
theorem dX6_weigh_20 : decode cX6_weigh 20 = .ok (.aload_n 1, 1) := by decide +kernel
theorem dX6_weigh_21 : decode cX6_weigh 21 = .ok (.iload_n 3, 1) := by decide +kernel
theorem dX6_weigh_22 : decode cX6_weigh 22 = .ok (.invokevirtual 76, 3) := by decide +kernel
theorem dX6_weigh_25 : decode cX6_weigh 25 = .ok (.if_icmp .ge 49, 3) := by decide +kernel
theorem dX6_weigh_28 : decode cX6_weigh 28 = .ok (.aload_n 1, 1) := by decide +kernel
theorem dX6_weigh_29 : decode cX6_weigh 29 = .ok (.iload_n 3, 1) := by decide +kernel
theorem dX6_weigh_30 : decode cX6_weigh 30 = .ok (.iload 6, 2) := by decide +kernel
theorem dX6_weigh_32 : decode cX6_weigh 32 = .ok (.invokevirtual 80, 3) := by decide +kernel
theorem dX6_weigh_35 : decode cX6_weigh 35 = .ok (.ifCond .eq 33, 3) := by decide +kernel
theorem dX6_weigh_38 : decode cX6_weigh 38 = .ok (.aload_n 1, 1) := by decide +kernel
theorem dX6_weigh_39 : decode cX6_weigh 39 = .ok (.iload_n 3, 1) := by decide +kernel
theorem dX6_weigh_40 : decode cX6_weigh 40 = .ok (.iload 6, 2) := by decide +kernel
theorem dX6_weigh_42 : decode cX6_weigh 42 = .ok (.invokevirtual 84, 3) := by decide +kernel
theorem dX6_weigh_45 : decode cX6_weigh 45 = .ok (.iload 5, 2) := by decide +kernel
theorem dX6_weigh_47 : decode cX6_weigh 47 = .ok (.if_icmp .ne 21, 3) := by decide +kernel
theorem dX6_weigh_50 : decode cX6_weigh 50 = .ok (.aload_n 0, 1) := by decide +kernel
theorem dX6_weigh_51 : decode cX6_weigh 51 = .ok (.aload_n 0, 1) := by decide +kernel
theorem dX6_weigh_52 : decode cX6_weigh 52 = .ok (.getfield 25, 3) := by decide +kernel
theorem dX6_weigh_55 : decode cX6_weigh 55 = .ok (.aload_n 2, 1) := by decide +kernel
theorem dX6_weigh_56 : decode cX6_weigh 56 = .ok (.aload_n 1, 1) := by decide +kernel
theorem dX6_weigh_57 : decode cX6_weigh 57 = .ok (.iload_n 3, 1) := by decide +kernel
theorem dX6_weigh_58 : decode cX6_weigh 58 = .ok (.iload 6, 2) := by decide +kernel
theorem dX6_weigh_60 : decode cX6_weigh 60 = .ok (.iload 4, 2) := by decide +kernel
theorem dX6_weigh_62 : decode cX6_weigh 62 = .ok (.invokevirtual 87, 3) := by decide +kernel
theorem dX6_weigh_65 : decode cX6_weigh 65 = .ok (.invokevirtual 90, 3) := by decide +kernel
theorem dX6_weigh_68 : decode cX6_weigh 68 = .ok (.iinc 6 1, 3) := by decide +kernel
theorem dX6_weigh_71 : decode cX6_weigh 71 = .ok (.goto (-53), 3) := by decide +kernel
theorem dX6_weigh_74 : decode cX6_weigh 74 = .ok (.return_, 1) := by decide +kernel
def m6_weigh : pMT := (yX6_weigh, cX6_weigh, 7, none)
theorem mo6_weigh : mOK m6_weigh 5 := ⟨tb_i 1197 (by decide +kernel), wi_RX6, ⟨wn_RX6.1, wn_RX6.2, by decide +kernel⟩, by decide, plainFor_of_name wp_RX6⟩
theorem mv6_weigh : mV m6_weigh := ⟨tb_i 1195 (by decide +kernel), tb_i 1196 (by decide +kernel)⟩
def f6_weigh_c18 (n : Nat) (O : (Nat → Nat → Option Nat)) : Nat → (Nat → Nat → Int32) → (Nat → Nat → Int64) → Nat → Nat → Option Nat → Int32 → Int32 → Int32 → Int32 → Option ((Nat → Nat → Int32) × (Nat → Nat → Int64))
  | 0, _, _, _, _, _, _, _, _, _ => none
  | m + 1, I, L, b0, b1, s2, y3, y4, y5, y6 => (f10_size I O b1 y3).bind fun r1 => (if r1 ≤ y6 then some (I, L) else (f10_sounds I O b1 y3 y6).bind fun r4 => (if r4 = 0 then f6_weigh_c18 n O m I L b0 b1 s2 y3 y4 y5 (y6 + 1) else (f10_keyAt I O b1 y3 y6).bind fun r7 => (if r7 = y5 then (f1_blurs n I O (rO O b0 0) s2 b1 y3 y6 y4).bind fun r11 => (f6_weighPlace n L O b0 r11.1).bind fun r13 => f6_weigh_c18 n O m r11.2 r13 b0 b1 s2 y3 y4 y5 (y6 + 1) else f6_weigh_c18 n O m I L b0 b1 s2 y3 y4 y5 (y6 + 1))))
set_option maxHeartbeats 4000000 in
set_option maxRecDepth 20000 in
theorem o6_weigh_c18 {g : pG} {Qx : Option Value → pW → Prop} {Z : pZ} {O : (Nat → Nat → Option Nat)} {n : Nat} {res : (Nat → Nat → Int32) × (Nat → Nat → Int64)} (d : Nat) (hW : WT Z O) (hQ : Qx none (Z, res.1, res.2, O)) : ∀ (m : Nat) (I : (Nat → Nat → Int32)) (L : (Nat → Nat → Int64)) (b0 : Nat) (b1 : Nat) (s2 : Option Nat) (y3 : Int32) (y4 : Int32) (y5 : Int32) (y6 : Int32), (Z[b0]? = some (6, 5)) → (Z[b1]? = some (10, 5)) → (∀ b, s2 = some b → Z[b]? = some (7, 7)) → f6_weigh_c18 n O m I L b0 b1 s2 y3 y4 y5 y6 = some res → Ok g (d + 6, RX6, cX6_weigh, 7, false, 0, 0, Z.length, pSl Z) Qx 18 [(0, .ref b0), (1, .ref b1), (2, va_rf s2), (3, .int y3), (4, .int y4), (5, .int y5), (6, .int y6)] [] (Z, I, L, O) := by
  intro m
  induction m with
  | zero => intro I L b0 b1 s2 y3 y4 y5 y6 hZ_b0 hZ_b1 hS_s2 h; rw [f6_weigh_c18] at h; cases h
  | succ m ih =>
    intro I L b0 b1 s2 y3 y4 y5 y6 hZ_b0 hZ_b1 hS_s2 h
    rw [f6_weigh_c18] at h
    refine ok_iload dX6_weigh_18 6 rfl ?_
    refine ok_aload_n dX6_weigh_20 1 rfl ?_
    refine ok_iload_n dX6_weigh_21 3 rfl ?_
    obtain ⟨r1, hr2, h⟩ := bd h
    refine ok_callV (d := ((d + 2) + 3)) (mt := m10_size) (mc := 0) (ms := 0) (As := [.int y3]) (r := [.int y6]) dX6_weigh_22 mo10_size mv10_size lkRX6_76 rfl hZ_b1 (q := (RX10, TX10, 5)) rfl rfl rfl (Nat.le_of_ble_eq_true rfl) (by show _ + 1 ≤ d + _; omega) (Nat.le_refl _) (Nat.le_refl _) (pRt_mono ?_)
    refine k10_size (d + 2) hW hZ_b1 hr2 ?_
    intro _
    show Ok g _ Qx 25 [(0, .ref b0), (1, .ref b1), (2, va_rf s2), (3, .int y3), (4, .int y4), (5, .int y5), (6, .int y6)] [.int r1, .int y6] (Z, I, L, O)
    refine ok_icmp_ge (t := 74) dX6_weigh_25 (by decide) (fun hc3 => ?_) (fun hc3 => ?_)
    · have h := (if_pos hc3).symm.trans h
      cases h
      exact ok_vret dX6_weigh_74 hQ
    · have h := (if_neg hc3).symm.trans h
      refine ok_aload_n dX6_weigh_28 1 rfl ?_
      refine ok_iload_n dX6_weigh_29 3 rfl ?_
      refine ok_iload dX6_weigh_30 6 rfl ?_
      obtain ⟨r4, hr5, h⟩ := bd h
      refine ok_callV (d := ((d + 2) + 3)) (mt := m10_sounds) (mc := 0) (ms := 0) (As := [.int y3, .int y6]) (r := []) dX6_weigh_32 mo10_sounds mv10_sounds lkRX6_80 rfl hZ_b1 (q := (RX10, TX10, 5)) rfl rfl rfl (Nat.le_of_ble_eq_true rfl) (by show _ + 1 ≤ d + _; omega) (Nat.le_refl _) (Nat.le_refl _) (pRt_mono ?_)
      refine k10_sounds (d + 2) hW hZ_b1 hr5 ?_
      intro hbr4
      show Ok g _ Qx 35 [(0, .ref b0), (1, .ref b1), (2, va_rf s2), (3, .int y3), (4, .int y4), (5, .int y5), (6, .int y6)] [.int r4] (Z, I, L, O)
      refine ok_if_eq (t := 68) dX6_weigh_35 (by decide) (fun hc6 => ?_) (fun hc6 => ?_)
      · have h := (if_pos hc6).symm.trans h
        refine ok_iinc (u := (y6 + 1)) (l' := [(6, .int (y6 + 1)), (0, .ref b0), (1, .ref b1), (2, va_rf s2), (3, .int y3), (4, .int y4), (5, .int y5)]) dX6_weigh_68 6 rfl rfl (Nat.le_of_ble_eq_true rfl) rfl ?_
        refine ok_goto (t := 18) dX6_weigh_71 (by decide) ?_
        refine ok_sub [1, 2, 3, 4, 5, 6, 0] rfl ?_
        exact ih I L b0 b1 s2 y3 y4 y5 (y6 + 1) hZ_b0 hZ_b1 hS_s2 h
      · have h := (if_neg hc6).symm.trans h
        refine ok_aload_n dX6_weigh_38 1 rfl ?_
        refine ok_iload_n dX6_weigh_39 3 rfl ?_
        refine ok_iload dX6_weigh_40 6 rfl ?_
        obtain ⟨r7, hr8, h⟩ := bd h
        refine ok_callV (d := ((d + 2) + 3)) (mt := m10_keyAt) (mc := 0) (ms := 0) (As := [.int y3, .int y6]) (r := []) dX6_weigh_42 mo10_keyAt mv10_keyAt lkRX6_84 rfl hZ_b1 (q := (RX10, TX10, 5)) rfl rfl rfl (Nat.le_of_ble_eq_true rfl) (by show _ + 1 ≤ d + _; omega) (Nat.le_refl _) (Nat.le_refl _) (pRt_mono ?_)
        refine k10_keyAt (d + 2) hW hZ_b1 hr8 ?_
        intro _
        show Ok g _ Qx 45 [(0, .ref b0), (1, .ref b1), (2, va_rf s2), (3, .int y3), (4, .int y4), (5, .int y5), (6, .int y6)] [.int r7] (Z, I, L, O)
        refine ok_iload dX6_weigh_45 5 rfl ?_
        refine ok_icmp_ne (t := 68) dX6_weigh_47 (by decide) (fun hc9 => ?_) (fun hc9 => ?_)
        · have h := (if_neg hc9).symm.trans h
          refine ok_iinc (u := (y6 + 1)) (l' := [(6, .int (y6 + 1)), (0, .ref b0), (1, .ref b1), (2, va_rf s2), (3, .int y3), (4, .int y4), (5, .int y5)]) dX6_weigh_68 6 rfl rfl (Nat.le_of_ble_eq_true rfl) rfl ?_
          refine ok_goto (t := 18) dX6_weigh_71 (by decide) ?_
          refine ok_sub [1, 2, 3, 4, 5, 6, 0] rfl ?_
          exact ih I L b0 b1 s2 y3 y4 y5 (y6 + 1) hZ_b0 hZ_b1 hS_s2 h
        · have h := (if_pos hc9).symm.trans h
          refine ok_aload_n dX6_weigh_50 0 rfl ?_
          refine ok_aload_n dX6_weigh_51 0 rfl ?_
          have hT10 : Z[(rO O b0 0)]? = some (1, 3) := (wt_f (ci := 6) (k := 0) hW hZ_b0 rfl).2
          refine ok_getR (ci := 6) (k := 0) dX6_weigh_52 flRX6_25 rfl hW hZ_b0 (by decide) ?_
          refine ok_aloadQ_n dX6_weigh_55 2 rfl ?_
          refine ok_aload_n dX6_weigh_56 1 rfl ?_
          refine ok_iload_n dX6_weigh_57 3 rfl ?_
          refine ok_iload dX6_weigh_58 6 rfl ?_
          refine ok_iload dX6_weigh_60 4 rfl ?_
          obtain ⟨r11, hr12, h⟩ := bd h
          refine ok_callV (d := ((d + 0) + 5)) (mt := m1_blurs) (mc := 0) (ms := 0) (As := [va_rf s2, .ref b1, .int y3, .int y6, .int y4]) (r := [.ref b0]) dX6_weigh_62 mo1_blurs mv1_blurs lkRX6_87 rfl hT10 (q := (RX1, TX1, 3)) rfl rfl rfl (Nat.le_of_ble_eq_true rfl) (by show _ + 1 ≤ d + _; omega) (Nat.le_refl _) (Nat.le_refl _) (pRt_mono ?_)
          refine k1_blurs (d + 0) hW hT10 hS_s2 hZ_b1 hr12 ?_
          intro _
          show Ok g _ Qx 65 [(0, .ref b0), (1, .ref b1), (2, va_rf s2), (3, .int y3), (4, .int y4), (5, .int y5), (6, .int y6)] [.int r11.1, .ref b0] (Z, r11.2, L, O)
          obtain ⟨r13, hr14, h⟩ := bd h
          refine ok_callV (d := ((d + 3) + 2)) (mt := m6_weighPlace) (mc := 0) (ms := 0) (As := [.int r11.1]) (r := []) dX6_weigh_65 mo6_weighPlace mv6_weighPlace lkRX6_90 rfl hZ_b0 (q := (RX6, TX6, 5)) rfl rfl rfl (Nat.le_of_ble_eq_true rfl) (by show _ + 1 ≤ d + _; omega) (Nat.le_refl _) (Nat.le_refl _) (pRt_mono ?_)
          refine k6_weighPlace (d + 3) hW hZ_b0 hr14 ?_
          intro _
          show Ok g _ Qx 68 [(0, .ref b0), (1, .ref b1), (2, va_rf s2), (3, .int y3), (4, .int y4), (5, .int y5), (6, .int y6)] [] (Z, r11.2, r13, O)
          refine ok_iinc (u := (y6 + 1)) (l' := [(6, .int (y6 + 1)), (0, .ref b0), (1, .ref b1), (2, va_rf s2), (3, .int y3), (4, .int y4), (5, .int y5)]) dX6_weigh_68 6 rfl rfl (Nat.le_of_ble_eq_true rfl) rfl ?_
          refine ok_goto (t := 18) dX6_weigh_71 (by decide) ?_
          refine ok_sub [1, 2, 3, 4, 5, 6, 0] rfl ?_
          exact ih r11.2 r13 b0 b1 s2 y3 y4 y5 (y6 + 1) hZ_b0 hZ_b1 hS_s2 h
def f6_weigh (n : Nat) (I : (Nat → Nat → Int32)) (L : (Nat → Nat → Int64)) (O : (Nat → Nat → Option Nat)) (a0 : Nat) (a1 : Nat) (s2 : Option Nat) (x3 : Int32) (x4 : Int32) (x5 : Int32) : Option ((Nat → Nat → Int32) × (Nat → Nat → Int64)) := bl (flL L (rO O a0 4) 17 (0 : Int64)) fun L2 => bl (sL L2 (rO O a0 4) 0 (1 : Int64)) fun L3 => f6_weigh_c18 n O n I L3 a0 a1 s2 x3 x4 x5 (0 : Int32)
set_option maxHeartbeats 4000000 in
set_option maxRecDepth 20000 in
theorem o6_weigh {g : pG} {Qx : Option Value → pW → Prop} {Z : pZ} {I : (Nat → Nat → Int32)} {L : (Nat → Nat → Int64)} {O : (Nat → Nat → Option Nat)} {n : Nat} {a0 : Nat} {a1 : Nat} {s2 : Option Nat} {x3 : Int32} {x4 : Int32} {x5 : Int32} {res : (Nat → Nat → Int32) × (Nat → Nat → Int64)} (d : Nat) (hW : WT Z O) (hZ0 : Z[a0]? = some (6, 5)) (hZ1 : Z[a1]? = some (10, 5)) (hS2 : ∀ b, s2 = some b → Z[b]? = some (7, 7)) (h : f6_weigh n I L O a0 a1 s2 x3 x4 x5 = some res) (hQ : Qx none (Z, res.1, res.2, O)) : Ok g (d + 6, RX6, cX6_weigh, 7, false, 0, 0, Z.length, pSl Z) Qx 0 [(0, .ref a0), (1, .ref a1), (2, va_rf s2), (3, .int x3), (4, .int x4), (5, .int x5)] [] (Z, I, L, O) := by
  unfold f6_weigh at h
  refine ok_aload_n dX6_weigh_0 0 rfl ?_
  have hT1 : Z[(rO O a0 4)]? = some (14, 17) := (wt_f (ci := 6) (k := 4) hW hZ0 rfl).2
  refine ok_getR (ci := 6) (k := 4) dX6_weigh_1 flRX6_21 rfl hW hZ0 (by decide) ?_
  refine ok_lconst (v := 0) dX6_weigh_4 (by decide) ?_
  obtain ⟨L2, eL2, h⟩ := blE h
  refine ok_callS (d := ((d + 1) + 4)) (mt := mJ7_fill_d0a16) (mc := 0) (ms := 0) (As := [.ref (rO O a0 4), .long 0]) (r := []) dX6_weigh_5 moJ7_fill_d0a16 mvJ7_fill_d0a16 lkRX6_73 rfl rfl (Nat.le_of_ble_eq_true rfl) (by show _ + 1 ≤ d + _; omega) (Nat.le_refl _) (Nat.le_refl _) (pRt_mono ?_)
  refine kJ7_fillL hT1 (by decide) eL2 ?_
  intro _
  show Ok g _ Qx 8 [(0, .ref a0), (1, .ref a1), (2, va_rf s2), (3, .int x3), (4, .int x4), (5, .int x5)] [] (Z, I, L2, O)
  refine ok_aload_n dX6_weigh_8 0 rfl ?_
  refine ok_getR (ci := 6) (k := 4) dX6_weigh_9 flRX6_21 rfl hW hZ0 (by decide) ?_
  refine ok_iconst (v := 0) dX6_weigh_12 (by decide) ?_
  refine ok_lconst (v := 1) dX6_weigh_13 (by decide) ?_
  obtain ⟨L3, eL3, h⟩ := blE h
  refine ok_last3 dX6_weigh_14 hT1 (by unfold vp_in; decide) (by decide) eL3 ?_
  refine ok_iconst (v := 0) dX6_weigh_15 (by decide) ?_
  refine ok_istore (l' := [(6, .int 0), (0, .ref a0), (1, .ref a1), (2, va_rf s2), (3, .int x3), (4, .int x4), (5, .int x5)]) dX6_weigh_16 (Nat.le_of_ble_eq_true rfl) rfl ?_
  refine ok_sub [1, 2, 3, 4, 5, 6, 0] rfl ?_
  exact o6_weigh_c18 d hW hQ  n I L3 a0 a1 s2 x3 x4 x5 (0 : Int32) hZ0 hZ1 hS2 h
theorem k6_weigh {g : pG} {Q : Option Value → pW → Prop} {Z : pZ} {I : (Nat → Nat → Int32)} {L : (Nat → Nat → Int64)} {O : (Nat → Nat → Option Nat)} {n : Nat} {a0 : Nat} {a1 : Nat} {s2 : Option Nat} {x3 : Int32} {x4 : Int32} {x5 : Int32} {res : (Nat → Nat → Int32) × (Nat → Nat → Int64)} (d : Nat) (hW : WT Z O) (hZ0 : Z[a0]? = some (6, 5)) (hZ1 : Z[a1]? = some (10, 5)) (hS2 : ∀ b, s2 = some b → Z[b]? = some (7, 7)) (h : f6_weigh n I L O a0 a1 s2 x3 x4 x5 = some res) (hQ : Q none (Z, res.1, res.2, O)) : CT g (d + 6) m6_weigh 0 0 [.ref a0, .ref a1, va_rf s2, .int x3, .int x4, .int x5] (Z, I, L, O) Q :=
  ct_of_ok (mt := m6_weigh) (ini := false) mo6_weigh.2.2.2.2 (fun h => by cases h) (by cases s2 <;> exact (Nat.le_of_ble_eq_true rfl)) (by
    rw [show lv_args 0 [.ref a0, .ref a1, va_rf s2, .int x3, .int x4, .int x5] = [(0, .ref a0), (1, .ref a1), (2, va_rf s2), (3, .int x3), (4, .int x4), (5, .int x5)] by cases s2 <;> rfl]
    exact o6_weigh d hW hZ0 hZ1 hS2 h ⟨trivial, hQ, rfl, rfl⟩)
theorem dX6_outcomesFrom_0 : decode cX6_outcomesFrom 0 = .ok (.lconst 0, 1) := by decide +kernel
theorem dX6_outcomesFrom_1 : decode cX6_outcomesFrom 1 = .ok (.lstore_n 2, 1) := by decide +kernel
theorem dX6_outcomesFrom_2 : decode cX6_outcomesFrom 2 = .ok (.iconst 0, 1) := by decide +kernel
theorem dX6_outcomesFrom_3 : decode cX6_outcomesFrom 3 = .ok (.iload_n 1, 1) := by decide +kernel
theorem dX6_outcomesFrom_4 : decode cX6_outcomesFrom 4 = .ok (.invokestatic 70, 3) := by decide +kernel
theorem dX6_outcomesFrom_7 : decode cX6_outcomesFrom 7 = .ok (.istore 4, 2) := by decide +kernel
theorem dX6_outcomesFrom_9 : decode cX6_outcomesFrom 9 = .ok (.iload 4, 2) := by decide +kernel
theorem dX6_outcomesFrom_11 : decode cX6_outcomesFrom 11 = .ok (.bipush 16, 2) := by decide +kernel
theorem dX6_outcomesFrom_13 : decode cX6_outcomesFrom 13 = .ok (.if_icmp .gt 19, 3) := by decide +kernel
theorem dX6_outcomesFrom_16 : decode cX6_outcomesFrom 16 = .ok (.lload_n 2, 1) := by decide +kernel
theorem dX6_outcomesFrom_17 : decode cX6_outcomesFrom 17 = .ok (.aload_n 0, 1) := by decide +kernel
theorem dX6_outcomesFrom_18 : decode cX6_outcomesFrom 18 = .ok (.getfield 21, 3) := by decide +kernel
theorem dX6_outcomesFrom_21 : decode cX6_outcomesFrom 21 = .ok (.iload 4, 2) := by decide +kernel
theorem dX6_outcomesFrom_23 : decode cX6_outcomesFrom 23 = .ok (.laload, 1) := by decide +kernel
theorem dX6_outcomesFrom_24 : decode cX6_outcomesFrom 24 = .ok (.ladd, 1) := by decide +kernel
theorem dX6_outcomesFrom_25 : decode cX6_outcomesFrom 25 = .ok (.lstore_n 2, 1) := by decide +kernel
theorem dX6_outcomesFrom_26 : decode cX6_outcomesFrom 26 = .ok (.iinc 4 1, 3) := by decide +kernel
theorem dX6_outcomesFrom_29 : decode cX6_outcomesFrom 29 = .ok (.goto (-20), 3) := by decide +kernel
theorem dX6_outcomesFrom_32 : decode cX6_outcomesFrom 32 = .ok (.lload_n 2, 1) := by decide +kernel
theorem dX6_outcomesFrom_33 : decode cX6_outcomesFrom 33 = .ok (.lreturn, 1) := by decide +kernel
def m6_outcomesFrom : pMT := (yX6_outcomesFrom, cX6_outcomesFrom, 5, some .long)
theorem mo6_outcomesFrom : mOK m6_outcomesFrom 1 := ⟨tb_i 1212 (by decide +kernel), wi_RX6, ⟨wn_RX6.1, wn_RX6.2, by decide +kernel⟩, by decide, plainFor_of_name wp_RX6⟩
theorem mv6_outcomesFrom : mV m6_outcomesFrom := ⟨tb_i 1210 (by decide +kernel), tb_i 1211 (by decide +kernel)⟩
def f6_outcomesFrom_c9 (n : Nat) (L : (Nat → Nat → Int64)) (O : (Nat → Nat → Option Nat)) : Nat → Nat → Int64 → Int32 → Option (Int64)
  | 0, _, _, _ => none
  | m + 1, b0, y2, y4 => (if (16 : Int32) < y4 then some (y2) else (if y4 < 0 ∨ 17 ≤ y4.toNatClampNeg then none else bl ((y2 + (L (rO O b0 4) y4.toNatClampNeg)) : Int64) fun z4 => f6_outcomesFrom_c9 n L O m b0 z4 (y4 + 1)))
set_option maxHeartbeats 4000000 in
set_option maxRecDepth 20000 in
theorem o6_outcomesFrom_c9 {g : pG} {Qx : Option Value → pW → Prop} {Z : pZ} {I : (Nat → Nat → Int32)} {L : (Nat → Nat → Int64)} {O : (Nat → Nat → Option Nat)} {n : Nat} {res : Int64} (d : Nat) (hW : WT Z O) (hQ : Qx (some (.long res)) (Z, I, L, O)) : ∀ (m : Nat) (b0 : Nat) (y2 : Int64) (y4 : Int32), (Z[b0]? = some (6, 5)) → f6_outcomesFrom_c9 n L O m b0 y2 y4 = some res → Ok g (d + 3, RX6, cX6_outcomesFrom, 5, false, 0, 0, Z.length, pSl Z) Qx 9 [(0, .ref b0), (2, .long y2), (4, .int y4)] [] (Z, I, L, O) := by
  intro m
  induction m with
  | zero => intro b0 y2 y4 hZ_b0 h; rw [f6_outcomesFrom_c9] at h; cases h
  | succ m ih =>
    intro b0 y2 y4 hZ_b0 h
    rw [f6_outcomesFrom_c9] at h
    refine ok_iload dX6_outcomesFrom_9 2 rfl ?_
    refine ok_bipush (v := 16) dX6_outcomesFrom_11 (by decide) ?_
    refine ok_icmp_gt (t := 32) dX6_outcomesFrom_13 (by decide) (fun hc1 => ?_) (fun hc1 => ?_)
    · have h := (if_pos hc1).symm.trans h
      refine ok_lload_n dX6_outcomesFrom_32 1 rfl ?_
      cases h
      exact ok_lret dX6_outcomesFrom_33 hQ
    · have h := (if_neg hc1).symm.trans h
      refine ok_lload_n dX6_outcomesFrom_16 1 rfl ?_
      refine ok_aload_n dX6_outcomesFrom_17 0 rfl ?_
      have hT2 : Z[(rO O b0 4)]? = some (14, 17) := (wt_f (ci := 6) (k := 4) hW hZ_b0 rfl).2
      refine ok_getR (ci := 6) (k := 4) dX6_outcomesFrom_18 flRX6_21 rfl hW hZ_b0 (by decide) ?_
      refine ok_iload dX6_outcomesFrom_21 2 rfl ?_
      obtain ⟨hg3, h⟩ := gd h
      refine ok_lald2 (N := y4.toNatClampNeg) dX6_outcomesFrom_23 hT2 hg3 rfl ?_
      refine ok_ladd dX6_outcomesFrom_24 ?_
      obtain ⟨z4, ez4, h⟩ := blE h
      refine ok_nmJ ez4 ?_
      refine ok_lstore_n (l' := [(2, .long z4), (0, .ref b0), (4, .int y4)]) dX6_outcomesFrom_25 rfl (Nat.le_of_ble_eq_true rfl) rfl ?_
      refine ok_iinc (u := (y4 + 1)) (l' := [(4, .int (y4 + 1)), (2, .long z4), (0, .ref b0)]) dX6_outcomesFrom_26 2 rfl rfl (Nat.le_of_ble_eq_true rfl) rfl ?_
      refine ok_goto (t := 9) dX6_outcomesFrom_29 (by decide) ?_
      refine ok_sub [2, 1, 0] rfl ?_
      exact ih b0 z4 (y4 + 1) hZ_b0 h
def f6_outcomesFrom (n : Nat) (L : (Nat → Nat → Int64)) (O : (Nat → Nat → Option Nat)) (a0 : Nat) (x1 : Int32) : Option (Int64) := (fJ9_max_7cf53 (0 : Int32) x1).bind fun r1 => f6_outcomesFrom_c9 n L O n a0 (0 : Int64) r1
set_option maxHeartbeats 4000000 in
set_option maxRecDepth 20000 in
theorem o6_outcomesFrom {g : pG} {Qx : Option Value → pW → Prop} {Z : pZ} {I : (Nat → Nat → Int32)} {L : (Nat → Nat → Int64)} {O : (Nat → Nat → Option Nat)} {n : Nat} {a0 : Nat} {x1 : Int32} {res : Int64} (d : Nat) (hW : WT Z O) (hZ0 : Z[a0]? = some (6, 5)) (h : f6_outcomesFrom n L O a0 x1 = some res) (hQ : Qx (some (.long res)) (Z, I, L, O)) : Ok g (d + 3, RX6, cX6_outcomesFrom, 5, false, 0, 0, Z.length, pSl Z) Qx 0 [(0, .ref a0), (1, .int x1)] [] (Z, I, L, O) := by
  unfold f6_outcomesFrom at h
  refine ok_lconst (v := 0) dX6_outcomesFrom_0 (by decide) ?_
  refine ok_lstore_n (l' := [(2, .long 0), (0, .ref a0), (1, .int x1)]) dX6_outcomesFrom_1 rfl (Nat.le_of_ble_eq_true rfl) rfl ?_
  refine ok_iconst (v := 0) dX6_outcomesFrom_2 (by decide) ?_
  refine ok_iload_n dX6_outcomesFrom_3 2 rfl ?_
  obtain ⟨r1, hr2, h⟩ := bd h
  refine ok_callS (d := ((d + 0) + 2)) (mt := mJ9_max_7cf53) (mc := 0) (ms := 0) (As := [.int 0, .int x1]) (r := []) dX6_outcomesFrom_4 moJ9_max_7cf53 mvJ9_max_7cf53 lkRX6_70 rfl rfl (Nat.le_of_ble_eq_true rfl) (by show _ + 1 ≤ d + _; omega) (Nat.le_refl _) (Nat.le_refl _) (pRt_mono ?_)
  refine kJ9_max_7cf53 (d + 0) hW  hr2 ?_
  intro _
  show Ok g _ Qx 7 [(2, .long 0), (0, .ref a0), (1, .int x1)] [.int r1] (Z, I, L, O)
  refine ok_istore (l' := [(4, .int r1), (2, .long 0), (0, .ref a0), (1, .int x1)]) dX6_outcomesFrom_7 (Nat.le_of_ble_eq_true rfl) rfl ?_
  refine ok_sub [2, 1, 0] rfl ?_
  exact o6_outcomesFrom_c9 d hW hQ  n a0 (0 : Int64) r1 hZ0 h
theorem k6_outcomesFrom {g : pG} {Q : Option Value → pW → Prop} {Z : pZ} {I : (Nat → Nat → Int32)} {L : (Nat → Nat → Int64)} {O : (Nat → Nat → Option Nat)} {n : Nat} {a0 : Nat} {x1 : Int32} {res : Int64} (d : Nat) (hW : WT Z O) (hZ0 : Z[a0]? = some (6, 5)) (h : f6_outcomesFrom n L O a0 x1 = some res) (hQ : Q (some (.long res)) (Z, I, L, O)) : CT g (d + 3) m6_outcomesFrom 0 0 [.ref a0, .int x1] (Z, I, L, O) Q :=
  ct_of_ok (mt := m6_outcomesFrom) (ini := false) mo6_outcomesFrom.2.2.2.2 (fun h => by cases h) (Nat.le_of_ble_eq_true rfl) (o6_outcomesFrom d hW hZ0 h ⟨trivial, hQ, rfl, rfl⟩)
