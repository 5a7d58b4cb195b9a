theorem flRX2_27 : FL RX2 27 2 5 := ⟨(RX2, TX2, 10), rfl, by decide, tb_i 240 (by decide +kernel)⟩
theorem flRX2_129 : FL RX2 129 2 7 := ⟨(RX2, TX2, 10), rfl, by decide, tb_i 242 (by decide +kernel)⟩
theorem lkRX2_132 : Cond.methodLink RX2 132 yX2_layRest ∈ lw_tbl := tb_i 1122 (by decide +kernel)
theorem lkRX2_136 : Cond.methodLink RX2 136 arraycopyName ∈ lw_tbl := tb_i 1126 (by decide +kernel)
theorem lkRX2_142 : Cond.methodLink RX2 142 yX2_layOne ∈ lw_tbl := tb_i 1127 (by decide +kernel)
theorem dX2_layRest_0 : decode cX2_layRest 0 = .ok (.iload_n 2, 1) := by decide +kernel
theorem dX2_layRest_1 : decode cX2_layRest 1 = .ok (.ifCond .eq 8, 3) := by decide +kernel
theorem dX2_layRest_4 : decode cX2_layRest 4 = .ok (.iload_n 3, 1) := by decide +kernel
theorem dX2_layRest_5 : decode cX2_layRest 5 = .ok (.iconst 5, 1) := by decide +kernel
theorem dX2_layRest_6 : decode cX2_layRest 6 = .ok (.if_icmp .lt 41, 3) := by decide +kernel
theorem dX2_layRest_9 : decode cX2_layRest 9 = .ok (.aload_n 0, 1) := by decide +kernel
theorem dX2_layRest_10 : decode cX2_layRest 10 = .ok (.getfield 129, 3) := by decide +kernel
theorem dX2_layRest_13 : decode cX2_layRest 13 = .ok (.iconst (-1), 1) := by decide +kernel
theorem dX2_layRest_14 : decode cX2_layRest 14 = .ok (.if_icmp .eq 12, 3) := by decide +kernel
theorem dX2_layRest_17 : decode cX2_layRest 17 = .ok (.iload 4, 2) := by decide +kernel
theorem dX2_layRest_19 : decode cX2_layRest 19 = .ok (.aload_n 0, 1) := by decide +kernel
theorem dX2_layRest_20 : decode cX2_layRest 20 = .ok (.getfield 129, 3) := by decide +kernel
theorem dX2_layRest_23 : decode cX2_layRest 23 = .ok (.if_icmp .ge 23, 3) := by decide +kernel
theorem dX2_layRest_26 : decode cX2_layRest 26 = .ok (.aload_n 0, 1) := by decide +kernel
theorem dX2_layRest_27 : decode cX2_layRest 27 = .ok (.iload 4, 2) := by decide +kernel
theorem dX2_layRest_29 : decode cX2_layRest 29 = .ok (.putfield 129, 3) := by decide +kernel
theorem dX2_layRest_32 : decode cX2_layRest 32 = .ok (.aload_n 0, 1) := by decide +kernel
theorem dX2_layRest_33 : decode cX2_layRest 33 = .ok (.getfield 27, 3) := by decide +kernel
theorem dX2_layRest_36 : decode cX2_layRest 36 = .ok (.iconst 0, 1) := by decide +kernel
theorem dX2_layRest_37 : decode cX2_layRest 37 = .ok (.aload_n 0, 1) := by decide +kernel
theorem dX2_layRest_38 : decode cX2_layRest 38 = .ok (.getfield 30, 3) := by decide +kernel
theorem dX2_layRest_41 : decode cX2_layRest 41 = .ok (.iconst 0, 1) := by decide +kernel
theorem dX2_layRest_42 : decode cX2_layRest 42 = .ok (.iconst 5, 1) := by decide +kernel
theorem dX2_layRest_43 : decode cX2_layRest 43 = .ok (.invokestatic 136, 3) := by decide +kernel
theorem dX2_layRest_46 : decode cX2_layRest 46 = .ok (.return_, 1) := by decide +kernel
theorem dX2_layRest_47 : decode cX2_layRest 47 = .ok (.iconst 0, 1) := by decide +kernel
theorem dX2_layRest_48 : decode cX2_layRest 48 = .ok (.istore 5, 2) := by decide +kernel
theorem dX2_layRest_50 : decode cX2_layRest 50 = .ok (.iload 5, 2) := by decide +kernel
theorem dX2_layRest_52 : decode cX2_layRest 52 = .ok (.iconst 5, 1) := by decide +kernel
theorem dX2_layRest_53 : decode cX2_layRest 53 = .ok (.if_icmp .ge 51, 3) := by decide +kernel
theorem dX2_layRest_56 : decode cX2_layRest 56 = .ok (.iload_n 2, 1) := by decide +kernel
theorem dX2_layRest_57 : decode cX2_layRest 57 = .ok (.iload 5, 2) := by decide +kernel
theorem dX2_layRest_59 : decode cX2_layRest 59 = .ok (.ishr, 1) := by decide +kernel
theorem dX2_layRest_60 : decode cX2_layRest 60 = .ok (.iconst 1, 1) := by decide +kernel
theorem dX2_layRest_61 : decode cX2_layRest 61 = .ok (.iand, 1) := by decide +kernel
theorem dX2_layRest_62 : decode cX2_layRest 62 = .ok (.ifCond .eq 36, 3) := by decide +kernel
theorem dX2_layRest_65 : decode cX2_layRest 65 = .ok (.aload_n 0, 1) := by decide +kernel
theorem dX2_layRest_66 : decode cX2_layRest 66 = .ok (.getfield 27, 3) := by decide +kernel
theorem dX2_layRest_69 : decode cX2_layRest 69 = .ok (.iload_n 3, 1) := by decide +kernel
theorem dX2_layRest_70 : decode cX2_layRest 70 = .ok (.iload 5, 2) := by decide +kernel
theorem dX2_layRest_72 : decode cX2_layRest 72 = .ok (.iastore, 1) := by decide +kernel
theorem dX2_layRest_73 : decode cX2_layRest 73 = .ok (.aload_n 0, 1) := by decide +kernel
theorem dX2_layRest_74 : decode cX2_layRest 74 = .ok (.aload_n 1, 1) := by decide +kernel
theorem dX2_layRest_75 : decode cX2_layRest 75 = .ok (.iload_n 2, 1) := by decide +kernel
theorem dX2_layRest_76 : decode cX2_layRest 76 = .ok (.iconst 1, 1) := by decide +kernel
theorem dX2_layRest_77 : decode cX2_layRest 77 = .ok (.iload 5, 2) := by decide +kernel
theorem dX2_layRest_79 : decode cX2_layRest 79 = .ok (.ishl, 1) := by decide +kernel
theorem dX2_layRest_80 : decode cX2_layRest 80 = .ok (.iconst (-1), 1) := by decide +kernel
theorem dX2_layRest_81 : decode cX2_layRest 81 = .ok (.ixor, 1) := by decide +kernel
theorem dX2_layRest_82 : decode cX2_layRest 82 = .ok (.iand, 1) := by decide +kernel
theorem dX2_layRest_83 : decode cX2_layRest 83 = .ok (.iload_n 3, 1) := by decide +kernel
theorem dX2_layRest_84 : decode cX2_layRest 84 = .ok (.iconst 1, 1) := by decide +kernel
theorem dX2_layRest_85 : decode cX2_layRest 85 = .ok (.iadd, 1) := by decide +kernel
theorem dX2_layRest_86 : decode cX2_layRest 86 = .ok (.aload_n 0, 1) := by decide +kernel
theorem dX2_layRest_87 : decode cX2_layRest 87 = .ok (.aload_n 1, 1) := by decide +kernel
theorem dX2_layRest_88 : decode cX2_layRest 88 = .ok (.iload 5, 2) := by decide +kernel
theorem dX2_layRest_90 : decode cX2_layRest 90 = .ok (.iload 4, 2) := by decide +kernel
theorem dX2_layRest_92 : decode cX2_layRest 92 = .ok (.invokevirtual 142, 3) := by decide +kernel
theorem dX2_layRest_95 : decode cX2_layRest 95 = .ok (.invokevirtual 132, 3) := by decide +kernel
theorem dX2_layRest_98 : decode cX2_layRest 98 = .ok (.iinc 5 1, 3) := by decide +kernel
theorem dX2_layRest_101 : decode cX2_layRest 101 = .ok (.goto (-51), 3) := by decide +kernel
theorem dX2_layRest_104 : decode cX2_layRest 104 = .ok (.return_, 1) := by decide +kernel
def m2_layRest : pMT := (yX2_layRest, cX2_layRest, 6, none)
theorem mo2_layRest : mOK m2_layRest 4 := ⟨tb_i 1125 (by decide +kernel), wi_RX2, ⟨wn_RX2.1, wn_RX2.2, by decide +kernel⟩, by decide, plainFor_of_name wp_RX2⟩
theorem mv2_layRest : mV m2_layRest := ⟨tb_i 1124 (by decide +kernel), tb_p 47 (by decide +kernel)⟩
def f2_layRest_c26 (n : Nat) (O : (Nat → Nat → Option Nat)) (rec : (Nat → Nat → Int32) → Nat → Nat → Int32 → Int32 → Int32 → Option ((Nat → Nat → Int32))) (I : (Nat → Nat → Int32)) (b0 : Nat) (y4 : Int32) : Option ((Nat → Nat → Int32)) := bl (sI I b0 7 y4) fun I1 => bl (cpI I1 (rO O b0 5) (rO O b0 6) 0 0 5) fun I4 => some (I4)
set_option maxHeartbeats 4000000 in
set_option maxRecDepth 20000 in
theorem o2_layRest_c26 {g : pG} {Qx : Option Value → pW → Prop} {Z : pZ} {L : (Nat → Nat → Int64)} {O : (Nat → Nat → Option Nat)} {n : Nat} {rec : (Nat → Nat → Int32) → Nat → Nat → Int32 → Int32 → Int32 → Option ((Nat → Nat → Int32))} {res : (Nat → Nat → Int32)} (d : Nat) (r : Nat) (hrec : ∀ (I : (Nat → Nat → Int32)) (a0 : Nat) (a1 : Nat) (x2 : Int32) (x3 : Int32) (x4 : Int32) (res : (Nat → Nat → Int32)) (Q : Option Value → pW → Prop), (Z[a0]? = some (2, 10)) → (Z[a1]? = some (10, 5)) → rec I a0 a1 x2 x3 x4 = some res → Q none (Z, res, L, O) → CT g (d + 6 + r) m2_layRest 0 0 [.ref a0, .ref a1, .int x2, .int x3, .int x4] (Z, I, L, O) Q) (hW : WT Z O) (hQ : Qx none (Z, res, L, O)) (I : (Nat → Nat → Int32)) (b0 : Nat) (y4 : Int32) (hZ_b0 : Z[b0]? = some (2, 10)) (h : f2_layRest_c26 n O rec I b0 y4 = some res) : Ok g (d + 6 + r + 1, RX2, cX2_layRest, 6, false, 0, 0, Z.length, pSl Z) Qx 26 [(0, .ref b0), (4, .int y4)] [] (Z, I, L, O) := by
  unfold f2_layRest_c26 at h
  refine ok_aload_n dX2_layRest_26 0 rfl ?_
  refine ok_iload dX2_layRest_27 1 rfl ?_
  obtain ⟨I1, eI1, h⟩ := blE h
  refine ok_putI2 (ci := 2) (k := 7) dX2_layRest_29 flRX2_129 rfl (Or.inl rfl) hZ_b0 (by decide) eI1 ?_
  refine ok_aload_n dX2_layRest_32 0 rfl ?_
  have hT2 : Z[(rO O b0 5)]? = some (13, 5) := (wt_f (ci := 2) (k := 5) hW hZ_b0 rfl).2
  refine ok_getR (ci := 2) (k := 5) dX2_layRest_33 flRX2_27 rfl hW hZ_b0 (by decide) ?_
  refine ok_iconst (v := 0) dX2_layRest_36 (by decide) ?_
  refine ok_aload_n dX2_layRest_37 0 rfl ?_
  have hT3 : Z[(rO O b0 6)]? = some (13, 5) := (wt_f (ci := 2) (k := 6) hW hZ_b0 rfl).2
  refine ok_getR (ci := 2) (k := 6) dX2_layRest_38 flRX2_30 rfl hW hZ_b0 (by decide) ?_
  refine ok_iconst (v := 0) dX2_layRest_41 (by decide) ?_
  refine ok_iconst (v := 5) dX2_layRest_42 (by decide) ?_
  obtain ⟨I4, eI4, h⟩ := blE h
  refine ok_copy2 (N := 5) (S := 0) (T := 0) dX2_layRest_43 lkRX2_136 hT2 hT3 (by decide) (by decide) (by decide) (by decide) (by decide) (by decide) (by decide) (by decide) (Nat.le_of_ble_eq_true rfl) (by show 1 ≤ d + _ + r + 1; omega) eI4 ?_
  cases h
  exact ok_vret dX2_layRest_46 hQ
def f2_layRest_c9 (n : Nat) (O : (Nat → Nat → Option Nat)) (rec : (Nat → Nat → Int32) → Nat → Nat → Int32 → Int32 → Int32 → Option ((Nat → Nat → Int32))) (I : (Nat → Nat → Int32)) (b0 : Nat) (y4 : Int32) : Option ((Nat → Nat → Int32)) := (if (I b0 7) = (-1 : Int32) then f2_layRest_c26 n O rec I b0 y4 else (if (I b0 7) ≤ y4 then some (I) else f2_layRest_c26 n O rec I b0 y4))
set_option maxHeartbeats 4000000 in
set_option maxRecDepth 20000 in
theorem o2_layRest_c9 {g : pG} {Qx : Option Value → pW → Prop} {Z : pZ} {L : (Nat → Nat → Int64)} {O : (Nat → Nat → Option Nat)} {n : Nat} {rec : (Nat → Nat → Int32) → Nat → Nat → Int32 → Int32 → Int32 → Option ((Nat → Nat → Int32))} {res : (Nat → Nat → Int32)} (d : Nat) (r : Nat) (hrec : ∀ (I : (Nat → Nat → Int32)) (a0 : Nat) (a1 : Nat) (x2 : Int32) (x3 : Int32) (x4 : Int32) (res : (Nat → Nat → Int32)) (Q : Option Value → pW → Prop), (Z[a0]? = some (2, 10)) → (Z[a1]? = some (10, 5)) → rec I a0 a1 x2 x3 x4 = some res → Q none (Z, res, L, O) → CT g (d + 6 + r) m2_layRest 0 0 [.ref a0, .ref a1, .int x2, .int x3, .int x4] (Z, I, L, O) Q) (hW : WT Z O) (hQ : Qx none (Z, res, L, O)) (I : (Nat → Nat → Int32)) (b0 : Nat) (y4 : Int32) (hZ_b0 : Z[b0]? = some (2, 10)) (h : f2_layRest_c9 n O rec I b0 y4 = some res) : Ok g (d + 6 + r + 1, RX2, cX2_layRest, 6, false, 0, 0, Z.length, pSl Z) Qx 9 [(0, .ref b0), (4, .int y4)] [] (Z, I, L, O) := by
  unfold f2_layRest_c9 at h
  refine ok_aload_n dX2_layRest_9 0 rfl ?_
  refine ok_getI (ci := 2) (k := 7) dX2_layRest_10 flRX2_129 rfl hZ_b0 (by decide) ?_
  refine ok_iconst (v := (-1)) dX2_layRest_13 (by decide) ?_
  refine ok_icmp_eq (t := 26) dX2_layRest_14 (by decide) (fun hc1 => ?_) (fun hc1 => ?_)
  · have h := (if_pos hc1).symm.trans h
    refine ok_sub [0, 1] rfl ?_
    exact o2_layRest_c26 d r hrec hW hQ  I b0 y4 hZ_b0 h
  · have h := (if_neg hc1).symm.trans h
    refine ok_iload dX2_layRest_17 1 rfl ?_
    refine ok_aload_n dX2_layRest_19 0 rfl ?_
    refine ok_getI (ci := 2) (k := 7) dX2_layRest_20 flRX2_129 rfl hZ_b0 (by decide) ?_
    refine ok_icmp_ge (t := 46) dX2_layRest_23 (by decide) (fun hc2 => ?_) (fun hc2 => ?_)
    · have h := (if_pos hc2).symm.trans h
      cases h
      exact ok_vret dX2_layRest_46 hQ
    · have h := (if_neg hc2).symm.trans h
      refine ok_sub [0, 1] rfl ?_
      exact o2_layRest_c26 d r hrec hW hQ  I b0 y4 hZ_b0 h
def f2_layRest_c50 (n : Nat) (O : (Nat → Nat → Option Nat)) (rec : (Nat → Nat → Int32) → Nat → Nat → Int32 → Int32 → Int32 → Option ((Nat → Nat → Int32))) : Nat → (Nat → Nat → Int32) → Nat → Nat → Int32 → Int32 → Int32 → Int32 → Option ((Nat → Nat → Int32))
  | 0, _, _, _, _, _, _, _ => none
  | m + 1, I, b0, b1, y2, y3, y4, y5 => (if (5 : Int32) ≤ y5 then some (I) else (if ((y2 >>> (y5 &&& 31)) &&& 1) = 0 then f2_layRest_c50 n O rec m I b0 b1 y2 y3 y4 (y5 + 1) else (if y3 < 0 ∨ 5 ≤ y3.toNatClampNeg then none else bl (sI I (rO O b0 5) y3.toNatClampNeg y5) fun I5 => (f2_layOne n I5 O b0 b1 y5 y4).bind fun r6 => (rec r6.2 b0 b1 (y2 &&& (((1 : Int32) <<< (y5 &&& 31)) ^^^ (-1))) (y3 + 1) r6.1).bind fun r8 => f2_layRest_c50 n O rec m r8 b0 b1 y2 y3 y4 (y5 + 1))))
set_option maxHeartbeats 4000000 in
set_option maxRecDepth 20000 in
theorem o2_layRest_c50 {g : pG} {Qx : Option Value → pW → Prop} {Z : pZ} {L : (Nat → Nat → Int64)} {O : (Nat → Nat → Option Nat)} {n : Nat} {rec : (Nat → Nat → Int32) → Nat → Nat → Int32 → Int32 → Int32 → Option ((Nat → Nat → Int32))} {res : (Nat → Nat → Int32)} (d : Nat) (r : Nat) (hrec : ∀ (I : (Nat → Nat → Int32)) (a0 : Nat) (a1 : Nat) (x2 : Int32) (x3 : Int32) (x4 : Int32) (res : (Nat → Nat → Int32)) (Q : Option Value → pW → Prop), (Z[a0]? = some (2, 10)) → (Z[a1]? = some (10, 5)) → rec I a0 a1 x2 x3 x4 = some res → Q none (Z, res, L, O) → CT g (d + 6 + r) m2_layRest 0 0 [.ref a0, .ref a1, .int x2, .int x3, .int x4] (Z, I, L, O) Q) (hW : WT Z O) (hQ : Qx none (Z, res, L, O)) : ∀ (m : Nat) (I : (Nat → Nat → Int32)) (b0 : Nat) (b1 : Nat) (y2 : Int32) (y3 : Int32) (y4 : Int32) (y5 : Int32), (Z[b0]? = some (2, 10)) → (Z[b1]? = some (10, 5)) → f2_layRest_c50 n O rec m I b0 b1 y2 y3 y4 y5 = some res → Ok g (d + 6 + r + 1, RX2, cX2_layRest, 6, false, 0, 0, Z.length, pSl Z) Qx 50 [(0, .ref b0), (1, .ref b1), (2, .int y2), (3, .int y3), (4, .int y4), (5, .int y5)] [] (Z, I, L, O) := by
  intro m
  induction m with
  | zero => intro I b0 b1 y2 y3 y4 y5 hZ_b0 hZ_b1 h; rw [f2_layRest_c50] at h; cases h
  | succ m ih =>
    intro I b0 b1 y2 y3 y4 y5 hZ_b0 hZ_b1 h
    rw [f2_layRest_c50] at h
    refine ok_iload dX2_layRest_50 5 rfl ?_
    refine ok_iconst (v := 5) dX2_layRest_52 (by decide) ?_
    refine ok_icmp_ge (t := 104) dX2_layRest_53 (by decide) (fun hc1 => ?_) (fun hc1 => ?_)
    · have h := (if_pos hc1).symm.trans h
      cases h
      exact ok_vret dX2_layRest_104 hQ
    · have h := (if_neg hc1).symm.trans h
      refine ok_iload_n dX2_layRest_56 2 rfl ?_
      refine ok_iload dX2_layRest_57 5 rfl ?_
      refine ok_ishr dX2_layRest_59 ?_
      refine ok_iconst (v := 1) dX2_layRest_60 (by decide) ?_
      refine ok_iand dX2_layRest_61 ?_
      refine ok_if_eq (t := 98) dX2_layRest_62 (by decide) (fun hc2 => ?_) (fun hc2 => ?_)
      · have h := (if_pos hc2).symm.trans h
        refine ok_iinc (u := (y5 + 1)) (l' := [(5, .int (y5 + 1)), (0, .ref b0), (1, .ref b1), (2, .int y2), (3, .int y3), (4, .int y4)]) dX2_layRest_98 5 rfl rfl (Nat.le_of_ble_eq_true rfl) rfl ?_
        refine ok_goto (t := 50) dX2_layRest_101 (by decide) ?_
        refine ok_sub [1, 2, 3, 4, 5, 0] rfl ?_
        exact ih I b0 b1 y2 y3 y4 (y5 + 1) hZ_b0 hZ_b1 h
      · have h := (if_neg hc2).symm.trans h
        refine ok_aload_n dX2_layRest_65 0 rfl ?_
        have hT3 : Z[(rO O b0 5)]? = some (13, 5) := (wt_f (ci := 2) (k := 5) hW hZ_b0 rfl).2
        refine ok_getR (ci := 2) (k := 5) dX2_layRest_66 flRX2_27 rfl hW hZ_b0 (by decide) ?_
        refine ok_iload_n dX2_layRest_69 3 rfl ?_
        refine ok_iload dX2_layRest_70 5 rfl ?_
        obtain ⟨hg4, h⟩ := gd h
        obtain ⟨I5, eI5, h⟩ := blE h
        refine ok_iast3 dX2_layRest_72 hT3 hg4 rfl eI5 ?_
        refine ok_aload_n dX2_layRest_73 0 rfl ?_
        refine ok_aload_n dX2_layRest_74 1 rfl ?_
        refine ok_iload_n dX2_layRest_75 2 rfl ?_
        refine ok_iconst (v := 1) dX2_layRest_76 (by decide) ?_
        refine ok_iload dX2_layRest_77 5 rfl ?_
        refine ok_ishl dX2_layRest_79 ?_
        refine ok_iconst (v := (-1)) dX2_layRest_80 (by decide) ?_
        refine ok_ixor dX2_layRest_81 ?_
        refine ok_iand dX2_layRest_82 ?_
        refine ok_iload_n dX2_layRest_83 3 rfl ?_
        refine ok_iconst (v := 1) dX2_layRest_84 (by decide) ?_
        refine ok_iadd dX2_layRest_85 ?_
        refine ok_aload_n dX2_layRest_86 0 rfl ?_
        refine ok_aload_n dX2_layRest_87 1 rfl ?_
        refine ok_iload dX2_layRest_88 5 rfl ?_
        refine ok_iload dX2_layRest_90 4 rfl ?_
        obtain ⟨r6, hr7, h⟩ := bd h
        refine ok_callV (d := ((d + 1 + r) + 5)) (mt := m2_layOne) (mc := 0) (ms := 0) (As := [.ref b1, .int y5, .int y4]) (r := [.int (y3 + 1), .int (y2 &&& (((1 : Int32) <<< (y5 &&& 31)) ^^^ (-1))), .ref b1, .ref b0]) dX2_layRest_92 mo2_layOne mv2_layOne lkRX2_142 rfl hZ_b0 (q := (RX2, TX2, 10)) rfl rfl rfl (Nat.le_of_ble_eq_true rfl) (by show _ + 1 ≤ d + _ + r + 1; omega) (Nat.le_refl _) (Nat.le_refl _) (pRt_mono ?_)
        refine k2_layOne (d + 1 + r) hW hZ_b0 hZ_b1 hr7 ?_
        intro _
        show Ok g _ Qx 95 [(0, .ref b0), (1, .ref b1), (2, .int y2), (3, .int y3), (4, .int y4), (5, .int y5)] [.int r6.1, .int (y3 + 1), .int (y2 &&& (((1 : Int32) <<< (y5 &&& 31)) ^^^ (-1))), .ref b1, .ref b0] (Z, r6.2, L, O)
        obtain ⟨r8, hr9, h⟩ := bd h
        refine ok_callV (d := (d + 6 + r)) (mt := m2_layRest) (mc := 0) (ms := 0) (As := [.ref b1, .int (y2 &&& (((1 : Int32) <<< (y5 &&& 31)) ^^^ (-1))), .int (y3 + 1), .int r6.1]) (r := []) dX2_layRest_95 mo2_layRest mv2_layRest lkRX2_132 rfl hZ_b0 (q := (RX2, TX2, 10)) rfl rfl rfl (Nat.le_of_ble_eq_true rfl) (by show _ + 1 ≤ d + _ + r + 1; omega) (Nat.le_refl _) (Nat.le_refl _) (pRt_mono ?_)
        refine hrec r6.2 _ _ _ _ _ _ _ hZ_b0 hZ_b1 hr9 ?_
        intro _
        show Ok g _ Qx 98 [(0, .ref b0), (1, .ref b1), (2, .int y2), (3, .int y3), (4, .int y4), (5, .int y5)] [] (Z, r8, L, O)
        refine ok_iinc (u := (y5 + 1)) (l' := [(5, .int (y5 + 1)), (0, .ref b0), (1, .ref b1), (2, .int y2), (3, .int y3), (4, .int y4)]) dX2_layRest_98 5 rfl rfl (Nat.le_of_ble_eq_true rfl) rfl ?_
        refine ok_goto (t := 50) dX2_layRest_101 (by decide) ?_
        refine ok_sub [1, 2, 3, 4, 5, 0] rfl ?_
        exact ih r8 b0 b1 y2 y3 y4 (y5 + 1) hZ_b0 hZ_b1 h
def f2_layRest_b (n : Nat) (I : (Nat → Nat → Int32)) (O : (Nat → Nat → Option Nat)) (rec : (Nat → Nat → Int32) → Nat → Nat → Int32 → Int32 → Int32 → Option ((Nat → Nat → Int32))) (a0 : Nat) (a1 : Nat) (x2 : Int32) (x3 : Int32) (x4 : Int32) : Option ((Nat → Nat → Int32)) := (if x2 = 0 then f2_layRest_c9 n O rec I a0 x4 else (if x3 < (5 : Int32) then f2_layRest_c50 n O rec n I a0 a1 x2 x3 x4 (0 : Int32) else f2_layRest_c9 n O rec I a0 x4))
set_option maxHeartbeats 4000000 in
set_option maxRecDepth 20000 in
theorem o2_layRest {g : pG} {Qx : Option Value → pW → Prop} {Z : pZ} {I : (Nat → Nat → Int32)} {L : (Nat → Nat → Int64)} {O : (Nat → Nat → Option Nat)} {n : Nat} {rec : (Nat → Nat → Int32) → Nat → Nat → Int32 → Int32 → Int32 → Option ((Nat → Nat → Int32))} {a0 : Nat} {a1 : Nat} {x2 : Int32} {x3 : Int32} {x4 : Int32} {res : (Nat → Nat → Int32)} (d : Nat) (r : Nat) (hrec : ∀ (I : (Nat → Nat → Int32)) (a0 : Nat) (a1 : Nat) (x2 : Int32) (x3 : Int32) (x4 : Int32) (res : (Nat → Nat → Int32)) (Q : Option Value → pW → Prop), (Z[a0]? = some (2, 10)) → (Z[a1]? = some (10, 5)) → rec I a0 a1 x2 x3 x4 = some res → Q none (Z, res, L, O) → CT g (d + 6 + r) m2_layRest 0 0 [.ref a0, .ref a1, .int x2, .int x3, .int x4] (Z, I, L, O) Q) (hW : WT Z O) (hZ0 : Z[a0]? = some (2, 10)) (hZ1 : Z[a1]? = some (10, 5)) (h : f2_layRest_b n I O rec a0 a1 x2 x3 x4 = some res) (hQ : Qx none (Z, res, L, O)) : Ok g (d + 6 + r + 1, RX2, cX2_layRest, 6, false, 0, 0, Z.length, pSl Z) Qx 0 [(0, .ref a0), (1, .ref a1), (2, .int x2), (3, .int x3), (4, .int x4)] [] (Z, I, L, O) := by
  unfold f2_layRest_b at h
  refine ok_iload_n dX2_layRest_0 2 rfl ?_
  refine ok_if_eq (t := 9) dX2_layRest_1 (by decide) (fun hc1 => ?_) (fun hc1 => ?_)
  · have h := (if_pos hc1).symm.trans h
    refine ok_sub [0, 4] rfl ?_
    exact o2_layRest_c9 d r hrec hW hQ  I a0 x4 hZ0 h
  · have h := (if_neg hc1).symm.trans h
    refine ok_iload_n dX2_layRest_4 3 rfl ?_
    refine ok_iconst (v := 5) dX2_layRest_5 (by decide) ?_
    refine ok_icmp_lt (t := 47) dX2_layRest_6 (by decide) (fun hc2 => ?_) (fun hc2 => ?_)
    · have h := (if_pos hc2).symm.trans h
      refine ok_iconst (v := 0) dX2_layRest_47 (by decide) ?_
      refine ok_istore (l' := [(5, .int 0), (0, .ref a0), (1, .ref a1), (2, .int x2), (3, .int x3), (4, .int x4)]) dX2_layRest_48 (Nat.le_of_ble_eq_true rfl) rfl ?_
      refine ok_sub [1, 2, 3, 4, 5, 0] rfl ?_
      exact o2_layRest_c50 d r hrec hW hQ  n I a0 a1 x2 x3 x4 (0 : Int32) hZ0 hZ1 h
    · have h := (if_neg hc2).symm.trans h
      refine ok_sub [0, 4] rfl ?_
      exact o2_layRest_c9 d r hrec hW hQ  I a0 x4 hZ0 h
def f2_rec (n : Nat) (O : (Nat → Nat → Option Nat)) : Nat → (Nat → Nat → Int32) → Nat → Nat → Int32 → Int32 → Int32 → Option ((Nat → Nat → Int32))
  | 0, _, _, _, _, _, _ => none
  | r + 1, I, a0, a1, x2, x3, x4 => f2_layRest_b n I O (f2_rec n O r) a0 a1 x2 x3 x4
set_option maxRecDepth 20000 in
theorem k2_rec {g : pG} {Z : pZ} {L : (Nat → Nat → Int64)} {O : (Nat → Nat → Option Nat)} {n : Nat} (d : Nat) (hW : WT Z O) : ∀ (r : Nat) (I : (Nat → Nat → Int32)) (a0 : Nat) (a1 : Nat) (x2 : Int32) (x3 : Int32) (x4 : Int32) (res : (Nat → Nat → Int32)) (Q : Option Value → pW → Prop), (Z[a0]? = some (2, 10)) → (Z[a1]? = some (10, 5)) → f2_rec n O r I a0 a1 x2 x3 x4 = some res → Q none (Z, res, L, O) → CT g (d + 6 + r) m2_layRest 0 0 [.ref a0, .ref a1, .int x2, .int x3, .int x4] (Z, I, L, O) Q := by
  intro r
  induction r with
  | zero => intro I a0 a1 x2 x3 x4 res Q hZ0 hZ1 h hQ; exact nomatch (show (none : Option ((Nat → Nat → Int32))) = some res from h)
  | succ r ih =>
    intro I a0 a1 x2 x3 x4 res Q hZ0 hZ1 h hQ
    exact ct_of_ok (mt := m2_layRest) (ini := false) mo2_layRest.2.2.2.2 (fun h => by cases h) (Nat.le_of_ble_eq_true rfl) (o2_layRest (n := n) d r ih hW hZ0 hZ1 h ⟨trivial, hQ, rfl, rfl⟩)
def f2_layRest (n : Nat) (I : (Nat → Nat → Int32)) (O : (Nat → Nat → Option Nat)) (a0 : Nat) (a1 : Nat) (x2 : Int32) (x3 : Int32) (x4 : Int32) : Option ((Nat → Nat → Int32)) := f2_rec n O 10 I a0 a1 x2 x3 x4
theorem k2_layRest {g : pG} {Q : Option Value → pW → Prop} {Z : pZ} {I : (Nat → Nat → Int32)} {L : (Nat → Nat → Int64)} {O : (Nat → Nat → Option Nat)} {n : Nat} {a0 : Nat} {a1 : Nat} {x2 : Int32} {x3 : Int32} {x4 : Int32} {res : (Nat → Nat → Int32)} (d : Nat) (hW : WT Z O) (hZ0 : Z[a0]? = some (2, 10)) (hZ1 : Z[a1]? = some (10, 5)) (h : f2_layRest n I O a0 a1 x2 x3 x4 = some res) (hQ : Q none (Z, res, L, O)) : CT g (d + 16) m2_layRest 0 0 [.ref a0, .ref a1, .int x2, .int x3, .int x4] (Z, I, L, O) Q :=
  k2_rec d hW 10 I a0 a1 x2 x3 x4 res Q hZ0 hZ1 h hQ
theorem dX2_buildStair_0 : decode cX2_buildStair 0 = .ok (.aload_n 0, 1) := by decide +kernel
theorem dX2_buildStair_1 : decode cX2_buildStair 1 = .ok (.iconst (-1), 1) := by decide +kernel
theorem dX2_buildStair_2 : decode cX2_buildStair 2 = .ok (.putfield 129, 3) := by decide +kernel
theorem dX2_buildStair_5 : decode cX2_buildStair 5 = .ok (.aload_n 0, 1) := by decide +kernel
theorem dX2_buildStair_6 : decode cX2_buildStair 6 = .ok (.aload_n 1, 1) := by decide +kernel
theorem dX2_buildStair_7 : decode cX2_buildStair 7 = .ok (.iload_n 2, 1) := by decide +kernel
theorem dX2_buildStair_8 : decode cX2_buildStair 8 = .ok (.iconst 0, 1) := by decide +kernel
theorem dX2_buildStair_9 : decode cX2_buildStair 9 = .ok (.iconst 0, 1) := by decide +kernel
theorem dX2_buildStair_10 : decode cX2_buildStair 10 = .ok (.invokevirtual 132, 3) := by decide +kernel
theorem dX2_buildStair_13 : decode cX2_buildStair 13 = .ok (.aload_n 0, 1) := by decide +kernel
theorem dX2_buildStair_14 : decode cX2_buildStair 14 = .ok (.getfield 129, 3) := by decide +kernel
theorem dX2_buildStair_17 : decode cX2_buildStair 17 = .ok (.ireturn, 1) := by decide +kernel
def m2_buildStair : pMT := (yX2_buildStair, cX2_buildStair, 3, some .int)
theorem mo2_buildStair : mOK m2_buildStair 2 := ⟨tb_i 1121 (by decide +kernel), wi_RX2, ⟨wn_RX2.1, wn_RX2.2, by decide +kernel⟩, by decide, plainFor_of_name wp_RX2⟩
theorem mv2_buildStair : mV m2_buildStair := ⟨tb_i 1119 (by decide +kernel), tb_i 1120 (by decide +kernel)⟩
def f2_buildStair (n : Nat) (I : (Nat → Nat → Int32)) (O : (Nat → Nat → Option Nat)) (a0 : Nat) (a1 : Nat) (x2 : Int32) : Option (Int32 × (Nat → Nat → Int32)) := bl (sI I a0 7 (-1 : Int32)) fun I1 => (f2_layRest n I1 O a0 a1 x2 (0 : Int32) (0 : Int32)).bind fun r2 => some ((r2 a0 7), r2)
set_option maxHeartbeats 4000000 in
set_option maxRecDepth 20000 in
theorem o2_buildStair {g : pG} {Qx : Option Value → pW → Prop} {Z : pZ} {I : (Nat → Nat → Int32)} {L : (Nat → Nat → Int64)} {O : (Nat → Nat → Option Nat)} {n : Nat} {a0 : Nat} {a1 : Nat} {x2 : Int32} {res : Int32 × (Nat → Nat → Int32)} (d : Nat) (hW : WT Z O) (hZ0 : Z[a0]? = some (2, 10)) (hZ1 : Z[a1]? = some (10, 5)) (h : f2_buildStair n I O a0 a1 x2 = some res) (hQ : Qx (some (.int res.1)) (Z, res.2, L, O)) : Ok g (d + 17, RX2, cX2_buildStair, 3, false, 0, 0, Z.length, pSl Z) Qx 0 [(0, .ref a0), (1, .ref a1), (2, .int x2)] [] (Z, I, L, O) := by
  unfold f2_buildStair at h
  refine ok_aload_n dX2_buildStair_0 0 rfl ?_
  refine ok_iconst (v := (-1)) dX2_buildStair_1 (by decide) ?_
  obtain ⟨I1, eI1, h⟩ := blE h
  refine ok_putI2 (ci := 2) (k := 7) dX2_buildStair_2 flRX2_129 rfl (Or.inl rfl) hZ0 (by decide) eI1 ?_
  refine ok_aload_n dX2_buildStair_5 0 rfl ?_
  refine ok_aload_n dX2_buildStair_6 1 rfl ?_
  refine ok_iload_n dX2_buildStair_7 2 rfl ?_
  refine ok_iconst (v := 0) dX2_buildStair_8 (by decide) ?_
  refine ok_iconst (v := 0) dX2_buildStair_9 (by decide) ?_
  obtain ⟨r2, hr3, h⟩ := bd h
  refine ok_callV (d := ((d + 0) + 16)) (mt := m2_layRest) (mc := 0) (ms := 0) (As := [.ref a1, .int x2, .int 0, .int 0]) (r := []) dX2_buildStair_10 mo2_layRest mv2_layRest lkRX2_132 rfl hZ0 (q := (RX2, TX2, 10)) rfl rfl rfl (Nat.le_of_ble_eq_true rfl) (by show _ + 1 ≤ d + _; omega) (Nat.le_refl _) (Nat.le_refl _) (pRt_mono ?_)
  refine k2_layRest (d + 0) hW hZ0 hZ1 hr3 ?_
  intro _
  show Ok g _ Qx 13 [(0, .ref a0), (1, .ref a1), (2, .int x2)] [] (Z, r2, L, O)
  refine ok_aload_n dX2_buildStair_13 0 rfl ?_
  refine ok_getI (ci := 2) (k := 7) dX2_buildStair_14 flRX2_129 rfl hZ0 (by decide) ?_
  cases h
  exact ok_iret dX2_buildStair_17 hQ
theorem k2_buildStair {g : pG} {Q : Option Value → pW → Prop} {Z : pZ} {I : (Nat → Nat → Int32)} {L : (Nat → Nat → Int64)} {O : (Nat → Nat → Option Nat)} {n : Nat} {a0 : Nat} {a1 : Nat} {x2 : Int32} {res : Int32 × (Nat → Nat → Int32)} (d : Nat) (hW : WT Z O) (hZ0 : Z[a0]? = some (2, 10)) (hZ1 : Z[a1]? = some (10, 5)) (h : f2_buildStair n I O a0 a1 x2 = some res) (hQ : Q (some (.int res.1)) (Z, res.2, L, O)) : CT g (d + 17) m2_buildStair 0 0 [.ref a0, .ref a1, .int x2] (Z, I, L, O) Q :=
  ct_of_ok (mt := m2_buildStair) (ini := false) mo2_buildStair.2.2.2.2 (fun h => by cases h) (Nat.le_of_ble_eq_true rfl) (o2_buildStair d hW hZ0 hZ1 h ⟨trivial, hQ, rfl, rfl⟩)
