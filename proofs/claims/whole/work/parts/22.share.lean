theorem flRX6_53 : FL RX6 53 10 3 := ⟨(RX10, TX10, 5), rfl, by decide, tb_i 88 (by decide +kernel)⟩
theorem lkRX6_49 : Cond.methodLink RX6 49 yX6_share ∈ lw_tbl := tb_i 1172 (by decide +kernel)
theorem lkRX6_57 : Cond.methodLink RX6 57 yX6_teachesAll ∈ lw_tbl := tb_i 1176 (by decide +kernel)
theorem dX6_share_0 : decode cX6_share 0 = .ok (.iload 5, 2) := by decide +kernel
theorem dX6_share_2 : decode cX6_share 2 = .ok (.aload_n 1, 1) := by decide +kernel
theorem dX6_share_3 : decode cX6_share 3 = .ok (.getfield 53, 3) := by decide +kernel
theorem dX6_share_6 : decode cX6_share 6 = .ok (.if_icmp .ge 9, 3) := by decide +kernel
theorem dX6_share_9 : decode cX6_share 9 = .ok (.iload 5, 2) := by decide +kernel
theorem dX6_share_11 : decode cX6_share 11 = .ok (.iconst 5, 1) := by decide +kernel
theorem dX6_share_12 : decode cX6_share 12 = .ok (.if_icmp .lt 26, 3) := by decide +kernel
theorem dX6_share_15 : decode cX6_share 15 = .ok (.iload 6, 2) := by decide +kernel
theorem dX6_share_17 : decode cX6_share 17 = .ok (.ifCond .ne 19, 3) := by decide +kernel
theorem dX6_share_20 : decode cX6_share 20 = .ok (.aload_n 0, 1) := by decide +kernel
theorem dX6_share_21 : decode cX6_share 21 = .ok (.aload_n 1, 1) := by decide +kernel
theorem dX6_share_22 : decode cX6_share 22 = .ok (.aload_n 2, 1) := by decide +kernel
theorem dX6_share_23 : decode cX6_share 23 = .ok (.iload_n 3, 1) := by decide +kernel
theorem dX6_share_24 : decode cX6_share 24 = .ok (.iload 4, 2) := by decide +kernel
theorem dX6_share_26 : decode cX6_share 26 = .ok (.invokevirtual 57, 3) := by decide +kernel
theorem dX6_share_29 : decode cX6_share 29 = .ok (.ifCond .eq 7, 3) := by decide +kernel
theorem dX6_share_32 : decode cX6_share 32 = .ok (.iconst 1, 1) := by decide +kernel
theorem dX6_share_33 : decode cX6_share 33 = .ok (.goto 4, 3) := by decide +kernel
theorem dX6_share_36 : decode cX6_share 36 = .ok (.iconst 0, 1) := by decide +kernel
theorem dX6_share_37 : decode cX6_share 37 = .ok (.ireturn, 1) := by decide +kernel
theorem dX6_share_38 : decode cX6_share 38 = .ok (.iload 5, 2) := by decide +kernel
theorem dX6_share_40 : decode cX6_share 40 = .ok (.iconst 1, 1) := by decide +kernel
theorem dX6_share_41 : decode cX6_share 41 = .ok (.iadd, 1) := by decide +kernel
theorem dX6_share_42 : decode cX6_share 42 = .ok (.aload_n 1, 1) := by decide +kernel
theorem dX6_share_43 : decode cX6_share 43 = .ok (.getfield 53, 3) := by decide +kernel
theorem dX6_share_46 : decode cX6_share 46 = .ok (.if_icmp .ne 8, 3) := by decide +kernel
theorem dX6_share_49 : decode cX6_share 49 = .ok (.iload 6, 2) := by decide +kernel
theorem dX6_share_51 : decode cX6_share 51 = .ok (.goto 4, 3) := by decide +kernel
theorem dX6_share_54 : decode cX6_share 54 = .ok (.iconst 0, 1) := by decide +kernel
theorem dX6_share_55 : decode cX6_share 55 = .ok (.istore 7, 2) := by decide +kernel
theorem dX6_share_57 : decode cX6_share 57 = .ok (.iload 6, 2) := by decide +kernel
theorem dX6_share_59 : decode cX6_share 59 = .ok (.istore 8, 2) := by decide +kernel
theorem dX6_share_61 : decode cX6_share 61 = .ok (.iload 8, 2) := by decide +kernel
theorem dX6_share_63 : decode cX6_share 63 = .ok (.iload 7, 2) := by decide +kernel
theorem dX6_share_65 : decode cX6_share 65 = .ok (.if_icmp .lt 41, 3) := by decide +kernel
theorem dX6_share_68 : decode cX6_share 68 = .ok (.aload_n 0, 1) := by decide +kernel
theorem dX6_share_69 : decode cX6_share 69 = .ok (.getfield 9, 3) := by decide +kernel
theorem dX6_share_72 : decode cX6_share 72 = .ok (.iload 5, 2) := by decide +kernel
theorem dX6_share_74 : decode cX6_share 74 = .ok (.iload 8, 2) := by decide +kernel
theorem dX6_share_76 : decode cX6_share 76 = .ok (.iastore, 1) := by decide +kernel
theorem dX6_share_77 : decode cX6_share 77 = .ok (.aload_n 0, 1) := by decide +kernel
theorem dX6_share_78 : decode cX6_share 78 = .ok (.aload_n 1, 1) := by decide +kernel
theorem dX6_share_79 : decode cX6_share 79 = .ok (.aload_n 2, 1) := by decide +kernel
theorem dX6_share_80 : decode cX6_share 80 = .ok (.iload_n 3, 1) := by decide +kernel
theorem dX6_share_81 : decode cX6_share 81 = .ok (.iload 4, 2) := by decide +kernel
theorem dX6_share_83 : decode cX6_share 83 = .ok (.iload 5, 2) := by decide +kernel
theorem dX6_share_85 : decode cX6_share 85 = .ok (.iconst 1, 1) := by decide +kernel
theorem dX6_share_86 : decode cX6_share 86 = .ok (.iadd, 1) := by decide +kernel
theorem dX6_share_87 : decode cX6_share 87 = .ok (.iload 6, 2) := by decide +kernel
theorem dX6_share_89 : decode cX6_share 89 = .ok (.iload 8, 2) := by decide +kernel
theorem dX6_share_91 : decode cX6_share 91 = .ok (.isub, 1) := by decide +kernel
theorem dX6_share_92 : decode cX6_share 92 = .ok (.invokevirtual 49, 3) := by decide +kernel
theorem dX6_share_95 : decode cX6_share 95 = .ok (.ifCond .eq 5, 3) := by decide +kernel
theorem dX6_share_98 : decode cX6_share 98 = .ok (.iconst 1, 1) := by decide +kernel
theorem dX6_share_99 : decode cX6_share 99 = .ok (.ireturn, 1) := by decide +kernel
theorem dX6_share_100 : decode cX6_share 100 = .ok (.iinc 8 (-1), 3) := by decide +kernel
theorem dX6_share_103 : decode cX6_share 103 = .ok (.goto (-42), 3) := by decide +kernel
theorem dX6_share_106 : decode cX6_share 106 = .ok (.iconst 0, 1) := by decide +kernel
theorem dX6_share_107 : decode cX6_share 107 = .ok (.ireturn, 1) := by decide +kernel
def m6_share : pMT := (yX6_share, cX6_share, 9, some .boolean)
theorem mo6_share : mOK m6_share 6 := ⟨tb_i 1175 (by decide +kernel), wi_RX6, ⟨wn_RX6.1, wn_RX6.2, by decide +kernel⟩, by decide, plainFor_of_name wp_RX6⟩
theorem mv6_share : mV m6_share := ⟨tb_i 1174 (by decide +kernel), tb_p 52 (by decide +kernel)⟩
def f6_share_c15 (n : Nat) (O : (Nat → Nat → Option Nat)) (rec : (Nat → Nat → Int32) → Nat → Nat → Option Nat → Int32 → Int32 → Int32 → Int32 → Option (Int32 × (Nat → Nat → Int32))) (I : (Nat → Nat → Int32)) (b0 : Nat) (b1 : Nat) (s2 : Option Nat) (y3 : Int32) (y4 : Int32) (y6 : Int32) : Option (Int32 × (Nat → Nat → Int32)) := (if y6 = 0 then (f6_teachesAll n I O b0 b1 s2 y3 y4).bind fun r2 => (if r2.1 = 0 then some ((0 : Int32), r2.2) else some ((1 : Int32), r2.2)) else some ((0 : Int32), I))
set_option maxHeartbeats 4000000 in
set_option maxRecDepth 20000 in
theorem o6_share_c15 {g : pG} {Qx : Option Value → pW → Prop} {Z : pZ} {L : (Nat → Nat → Int64)} {O : (Nat → Nat → Option Nat)} {n : Nat} {rec : (Nat → Nat → Int32) → Nat → Nat → Option Nat → Int32 → Int32 → Int32 → Int32 → Option (Int32 × (Nat → Nat → Int32))} {res : Int32 × (Nat → Nat → Int32)} (d : Nat) (r : Nat) (hrec : ∀ (I : (Nat → Nat → Int32)) (a0 : Nat) (a1 : Nat) (s2 : Option Nat) (x3 : Int32) (x4 : Int32) (x5 : Int32) (x6 : Int32) (res : Int32 × (Nat → Nat → Int32)) (Q : Option Value → pW → Prop), (Z[a0]? = some (6, 5)) → (Z[a1]? = some (10, 5)) → (∀ b, s2 = some b → Z[b]? = some (7, 7)) → rec I a0 a1 s2 x3 x4 x5 x6 = some res → Q (some (.int res.1)) (Z, res.2, L, O) → CT g (d + 7 + r) m6_share 0 0 [.ref a0, .ref a1, va_rf s2, .int x3, .int x4, .int x5, .int x6] (Z, I, L, O) Q) (hW : WT Z O) (hQ : (res.1 = 0 ∨ res.1 = 1) → Qx (some (.int res.1)) (Z, res.2, L, O)) (I : (Nat → Nat → Int32)) (b0 : Nat) (b1 : Nat) (s2 : Option Nat) (y3 : Int32) (y4 : Int32) (y6 : Int32) (hZ_b0 : Z[b0]? = some (6, 5)) (hZ_b1 : Z[b1]? = some (10, 5)) (hS_s2 : ∀ b, s2 = some b → Z[b]? = some (7, 7)) (h : f6_share_c15 n O rec I b0 b1 s2 y3 y4 y6 = some res) : Ok g (d + 7 + r + 1, RX6, cX6_share, 9, false, 0, 0, Z.length, pSl Z) Qx 15 [(0, .ref b0), (1, .ref b1), (2, va_rf s2), (3, .int y3), (4, .int y4), (6, .int y6)] [] (Z, I, L, O) := by
  unfold f6_share_c15 at h
  refine ok_iload dX6_share_15 5 rfl ?_
  refine ok_if_ne (t := 36) dX6_share_17 (by decide) (fun hc1 => ?_) (fun hc1 => ?_)
  · have h := (if_neg hc1).symm.trans h
    refine ok_iconst (v := 0) dX6_share_36 (by decide) ?_
    cases h
    exact ok_iret dX6_share_37 (hQ (Or.inl rfl))
  · have h := (if_pos hc1).symm.trans h
    refine ok_aload_n dX6_share_20 0 rfl ?_
    refine ok_aload_n dX6_share_21 1 rfl ?_
    refine ok_aloadQ_n dX6_share_22 2 rfl ?_
    refine ok_iload_n dX6_share_23 3 rfl ?_
    refine ok_iload dX6_share_24 4 rfl ?_
    obtain ⟨r2, hr3, h⟩ := bd h
    refine ok_callV (d := ((d + 1 + r) + 6)) (mt := m6_teachesAll) (mc := 0) (ms := 0) (As := [.ref b1, va_rf s2, .int y3, .int y4]) (r := []) dX6_share_26 mo6_teachesAll mv6_teachesAll lkRX6_57 rfl hZ_b0 (q := (RX6, TX6, 5)) rfl rfl rfl (Nat.le_of_ble_eq_true rfl) (by show _ + 1 ≤ d + _ + r + 1; omega) (Nat.le_refl _) (Nat.le_refl _) (pRt_mono ?_)
    refine k6_teachesAll (d + 1 + r) hW hZ_b0 hZ_b1 hS_s2 hr3 ?_
    intro hbr2
    show Ok g _ Qx 29 [(0, .ref b0), (1, .ref b1), (2, va_rf s2), (3, .int y3), (4, .int y4), (6, .int y6)] [.int r2.1] (Z, r2.2, L, O)
    refine ok_if_eq (t := 36) dX6_share_29 (by decide) (fun hc4 => ?_) (fun hc4 => ?_)
    · have h := (if_pos hc4).symm.trans h
      refine ok_iconst (v := 0) dX6_share_36 (by decide) ?_
      cases h
      exact ok_iret dX6_share_37 (hQ (Or.inl rfl))
    · have h := (if_neg hc4).symm.trans h
      refine ok_iconst (v := 1) dX6_share_32 (by decide) ?_
      refine ok_goto (t := 37) dX6_share_33 (by decide) ?_
      cases h
      exact ok_iret dX6_share_37 (hQ (Or.inr rfl))
def f6_share_c61 (n : Nat) (O : (Nat → Nat → Option Nat)) (rec : (Nat → Nat → Int32) → Nat → Nat → Option Nat → Int32 → Int32 → Int32 → Int32 → Option (Int32 × (Nat → Nat → Int32))) : Nat → (Nat → Nat → Int32) → Nat → Nat → Option Nat → Int32 → Int32 → Int32 → Int32 → Int32 → Int32 → Option (Int32 × (Nat → Nat → Int32))
  | 0, _, _, _, _, _, _, _, _, _, _ => none
  | m + 1, I, b0, b1, s2, y3, y4, y5, y6, y7, y8 => (if y8 < y7 then some ((0 : Int32), I) else (if y5 < 0 ∨ 5 ≤ y5.toNatClampNeg then none else bl (sI I (rO O b0 1) y5.toNatClampNeg y8) fun I4 => (rec I4 b0 b1 s2 y3 y4 (y5 + 1) (y6 - y8)).bind fun r5 => (if r5.1 = 0 then f6_share_c61 n O rec m r5.2 b0 b1 s2 y3 y4 y5 y6 y7 (y8 + (-1)) else some ((1 : Int32), r5.2))))
set_option maxHeartbeats 4000000 in
set_option maxRecDepth 20000 in
theorem o6_share_c61 {g : pG} {Qx : Option Value → pW → Prop} {Z : pZ} {L : (Nat → Nat → Int64)} {O : (Nat → Nat → Option Nat)} {n : Nat} {rec : (Nat → Nat → Int32) → Nat → Nat → Option Nat → Int32 → Int32 → Int32 → Int32 → Option (Int32 × (Nat → Nat → Int32))} {res : Int32 × (Nat → Nat → Int32)} (d : Nat) (r : Nat) (hrec : ∀ (I : (Nat → Nat → Int32)) (a0 : Nat) (a1 : Nat) (s2 : Option Nat) (x3 : Int32) (x4 : Int32) (x5 : Int32) (x6 : Int32) (res : Int32 × (Nat → Nat → Int32)) (Q : Option Value → pW → Prop), (Z[a0]? = some (6, 5)) → (Z[a1]? = some (10, 5)) → (∀ b, s2 = some b → Z[b]? = some (7, 7)) → rec I a0 a1 s2 x3 x4 x5 x6 = some res → Q (some (.int res.1)) (Z, res.2, L, O) → CT g (d + 7 + r) m6_share 0 0 [.ref a0, .ref a1, va_rf s2, .int x3, .int x4, .int x5, .int x6] (Z, I, L, O) Q) (hW : WT Z O) (hQ : (res.1 = 0 ∨ res.1 = 1) → Qx (some (.int res.1)) (Z, res.2, L, O)) : ∀ (m : Nat) (I : (Nat → Nat → Int32)) (b0 : Nat) (b1 : Nat) (s2 : Option Nat) (y3 : Int32) (y4 : Int32) (y5 : Int32) (y6 : Int32) (y7 : Int32) (y8 : Int32), (Z[b0]? = some (6, 5)) → (Z[b1]? = some (10, 5)) → (∀ b, s2 = some b → Z[b]? = some (7, 7)) → f6_share_c61 n O rec m I b0 b1 s2 y3 y4 y5 y6 y7 y8 = some res → Ok g (d + 7 + r + 1, RX6, cX6_share, 9, false, 0, 0, Z.length, pSl Z) Qx 61 [(0, .ref b0), (1, .ref b1), (2, va_rf s2), (3, .int y3), (4, .int y4), (5, .int y5), (6, .int y6), (7, .int y7), (8, .int y8)] [] (Z, I, L, O) := by
  intro m
  induction m with
  | zero => intro I b0 b1 s2 y3 y4 y5 y6 y7 y8 hZ_b0 hZ_b1 hS_s2 h; rw [f6_share_c61] at h; cases h
  | succ m ih =>
    intro I b0 b1 s2 y3 y4 y5 y6 y7 y8 hZ_b0 hZ_b1 hS_s2 h
    rw [f6_share_c61] at h
    refine ok_iload dX6_share_61 8 rfl ?_
    refine ok_iload dX6_share_63 7 rfl ?_
    refine ok_icmp_lt (t := 106) dX6_share_65 (by decide) (fun hc1 => ?_) (fun hc1 => ?_)
    · have h := (if_pos hc1).symm.trans h
      refine ok_iconst (v := 0) dX6_share_106 (by decide) ?_
      cases h
      exact ok_iret dX6_share_107 (hQ (Or.inl rfl))
    · have h := (if_neg hc1).symm.trans h
      refine ok_aload_n dX6_share_68 0 rfl ?_
      have hT2 : Z[(rO O b0 1)]? = some (13, 5) := (wt_f (ci := 6) (k := 1) hW hZ_b0 rfl).2
      refine ok_getR (ci := 6) (k := 1) dX6_share_69 flRX6_9 rfl hW hZ_b0 (by decide) ?_
      refine ok_iload dX6_share_72 5 rfl ?_
      refine ok_iload dX6_share_74 8 rfl ?_
      obtain ⟨hg3, h⟩ := gd h
      obtain ⟨I4, eI4, h⟩ := blE h
      refine ok_iast3 dX6_share_76 hT2 hg3 rfl eI4 ?_
      refine ok_aload_n dX6_share_77 0 rfl ?_
      refine ok_aload_n dX6_share_78 1 rfl ?_
      refine ok_aloadQ_n dX6_share_79 2 rfl ?_
      refine ok_iload_n dX6_share_80 3 rfl ?_
      refine ok_iload dX6_share_81 4 rfl ?_
      refine ok_iload dX6_share_83 5 rfl ?_
      refine ok_iconst (v := 1) dX6_share_85 (by decide) ?_
      refine ok_iadd dX6_share_86 ?_
      refine ok_iload dX6_share_87 6 rfl ?_
      refine ok_iload dX6_share_89 8 rfl ?_
      refine ok_isub dX6_share_91 ?_
      obtain ⟨r5, hr6, h⟩ := bd h
      refine ok_callV (d := (d + 7 + r)) (mt := m6_share) (mc := 0) (ms := 0) (As := [.ref b1, va_rf s2, .int y3, .int y4, .int (y5 + 1), .int (y6 - y8)]) (r := []) dX6_share_92 mo6_share mv6_share lkRX6_49 rfl hZ_b0 (q := (RX6, TX6, 5)) rfl rfl rfl (Nat.le_of_ble_eq_true rfl) (by show _ + 1 ≤ d + _ + r + 1; omega) (Nat.le_refl _) (Nat.le_refl _) (pRt_mono ?_)
      refine hrec I4 _ _ _ _ _ _ _ _ _ hZ_b0 hZ_b1 hS_s2 hr6 ?_
      intro hbr5
      show Ok g _ Qx 95 [(0, .ref b0), (1, .ref b1), (2, va_rf s2), (3, .int y3), (4, .int y4), (5, .int y5), (6, .int y6), (7, .int y7), (8, .int y8)] [.int r5.1] (Z, r5.2, L, O)
      refine ok_if_eq (t := 100) dX6_share_95 (by decide) (fun hc7 => ?_) (fun hc7 => ?_)
      · have h := (if_pos hc7).symm.trans h
        refine ok_iinc (u := (y8 + (-1))) (l' := [(8, .int (y8 + (-1))), (0, .ref b0), (1, .ref b1), (2, va_rf s2), (3, .int y3), (4, .int y4), (5, .int y5), (6, .int y6), (7, .int y7)]) dX6_share_100 8 rfl rfl (Nat.le_of_ble_eq_true rfl) rfl ?_
        refine ok_goto (t := 61) dX6_share_103 (by decide) ?_
        refine ok_sub [1, 2, 3, 4, 5, 6, 7, 8, 0] rfl ?_
        exact ih r5.2 b0 b1 s2 y3 y4 y5 y6 y7 (y8 + (-1)) hZ_b0 hZ_b1 hS_s2 h
      · have h := (if_neg hc7).symm.trans h
        refine ok_iconst (v := 1) dX6_share_98 (by decide) ?_
        cases h
        exact ok_iret dX6_share_99 (hQ (Or.inr rfl))
def f6_share_b (n : Nat) (I : (Nat → Nat → Int32)) (O : (Nat → Nat → Option Nat)) (rec : (Nat → Nat → Int32) → Nat → Nat → Option Nat → Int32 → Int32 → Int32 → Int32 → Option (Int32 × (Nat → Nat → Int32))) (a0 : Nat) (a1 : Nat) (s2 : Option Nat) (x3 : Int32) (x4 : Int32) (x5 : Int32) (x6 : Int32) : Option (Int32 × (Nat → Nat → Int32)) := (if (I a1 3) ≤ x5 then f6_share_c15 n O rec I a0 a1 s2 x3 x4 x6 else (if x5 < (5 : Int32) then (if (x5 + 1) = (I a1 3) then f6_share_c61 n O rec n I a0 a1 s2 x3 x4 x5 x6 x6 x6 else f6_share_c61 n O rec n I a0 a1 s2 x3 x4 x5 x6 (0 : Int32) x6) else f6_share_c15 n O rec I a0 a1 s2 x3 x4 x6))
set_option maxHeartbeats 4000000 in
set_option maxRecDepth 20000 in
theorem o6_share {g : pG} {Qx : Option Value → pW → Prop} {Z : pZ} {I : (Nat → Nat → Int32)} {L : (Nat → Nat → Int64)} {O : (Nat → Nat → Option Nat)} {n : Nat} {rec : (Nat → Nat → Int32) → Nat → Nat → Option Nat → Int32 → Int32 → Int32 → Int32 → Option (Int32 × (Nat → Nat → Int32))} {a0 : Nat} {a1 : Nat} {s2 : Option Nat} {x3 : Int32} {x4 : Int32} {x5 : Int32} {x6 : Int32} {res : Int32 × (Nat → Nat → Int32)} (d : Nat) (r : Nat) (hrec : ∀ (I : (Nat → Nat → Int32)) (a0 : Nat) (a1 : Nat) (s2 : Option Nat) (x3 : Int32) (x4 : Int32) (x5 : Int32) (x6 : Int32) (res : Int32 × (Nat → Nat → Int32)) (Q : Option Value → pW → Prop), (Z[a0]? = some (6, 5)) → (Z[a1]? = some (10, 5)) → (∀ b, s2 = some b → Z[b]? = some (7, 7)) → rec I a0 a1 s2 x3 x4 x5 x6 = some res → Q (some (.int res.1)) (Z, res.2, L, O) → CT g (d + 7 + r) m6_share 0 0 [.ref a0, .ref a1, va_rf s2, .int x3, .int x4, .int x5, .int x6] (Z, I, L, O) Q) (hW : WT Z O) (hZ0 : Z[a0]? = some (6, 5)) (hZ1 : Z[a1]? = some (10, 5)) (hS2 : ∀ b, s2 = some b → Z[b]? = some (7, 7)) (h : f6_share_b n I O rec a0 a1 s2 x3 x4 x5 x6 = some res) (hQ : (res.1 = 0 ∨ res.1 = 1) → Qx (some (.int res.1)) (Z, res.2, L, O)) : Ok g (d + 7 + r + 1, RX6, cX6_share, 9, false, 0, 0, Z.length, pSl Z) Qx 0 [(0, .ref a0), (1, .ref a1), (2, va_rf s2), (3, .int x3), (4, .int x4), (5, .int x5), (6, .int x6)] [] (Z, I, L, O) := by
  unfold f6_share_b at h
  refine ok_iload dX6_share_0 5 rfl ?_
  refine ok_aload_n dX6_share_2 1 rfl ?_
  refine ok_getI (ci := 10) (k := 3) dX6_share_3 flRX6_53 rfl hZ1 (by decide) ?_
  refine ok_icmp_ge (t := 15) dX6_share_6 (by decide) (fun hc1 => ?_) (fun hc1 => ?_)
  · have h := (if_pos hc1).symm.trans h
    refine ok_sub [0, 1, 2, 3, 4, 6] rfl ?_
    exact o6_share_c15 d r hrec hW hQ  I a0 a1 s2 x3 x4 x6 hZ0 hZ1 hS2 h
  · have h := (if_neg hc1).symm.trans h
    refine ok_iload dX6_share_9 5 rfl ?_
    refine ok_iconst (v := 5) dX6_share_11 (by decide) ?_
    refine ok_icmp_lt (t := 38) dX6_share_12 (by decide) (fun hc2 => ?_) (fun hc2 => ?_)
    · have h := (if_pos hc2).symm.trans h
      refine ok_iload dX6_share_38 5 rfl ?_
      refine ok_iconst (v := 1) dX6_share_40 (by decide) ?_
      refine ok_iadd dX6_share_41 ?_
      refine ok_aload_n dX6_share_42 1 rfl ?_
      refine ok_getI (ci := 10) (k := 3) dX6_share_43 flRX6_53 rfl hZ1 (by decide) ?_
      refine ok_icmp_ne (t := 54) dX6_share_46 (by decide) (fun hc3 => ?_) (fun hc3 => ?_)
      · have h := (if_neg hc3).symm.trans h
        refine ok_iconst (v := 0) dX6_share_54 (by decide) ?_
        refine ok_istore (l' := [(7, .int 0), (0, .ref a0), (1, .ref a1), (2, va_rf s2), (3, .int x3), (4, .int x4), (5, .int x5), (6, .int x6)]) dX6_share_55 (Nat.le_of_ble_eq_true rfl) rfl ?_
        refine ok_iload dX6_share_57 7 rfl ?_
        refine ok_istore (l' := [(8, .int x6), (7, .int 0), (0, .ref a0), (1, .ref a1), (2, va_rf s2), (3, .int x3), (4, .int x4), (5, .int x5), (6, .int x6)]) dX6_share_59 (Nat.le_of_ble_eq_true rfl) rfl ?_
        refine ok_sub [2, 3, 4, 5, 6, 7, 8, 1, 0] rfl ?_
        exact o6_share_c61 d r hrec hW hQ  n I a0 a1 s2 x3 x4 x5 x6 (0 : Int32) x6 hZ0 hZ1 hS2 h
      · have h := (if_pos hc3).symm.trans h
        refine ok_iload dX6_share_49 6 rfl ?_
        refine ok_goto (t := 55) dX6_share_51 (by decide) ?_
        refine ok_istore (l' := [(7, .int x6), (0, .ref a0), (1, .ref a1), (2, va_rf s2), (3, .int x3), (4, .int x4), (5, .int x5), (6, .int x6)]) dX6_share_55 (Nat.le_of_ble_eq_true rfl) rfl ?_
        refine ok_iload dX6_share_57 7 rfl ?_
        refine ok_istore (l' := [(8, .int x6), (7, .int x6), (0, .ref a0), (1, .ref a1), (2, va_rf s2), (3, .int x3), (4, .int x4), (5, .int x5), (6, .int x6)]) dX6_share_59 (Nat.le_of_ble_eq_true rfl) rfl ?_
        refine ok_sub [2, 3, 4, 5, 6, 7, 8, 1, 0] rfl ?_
        exact o6_share_c61 d r hrec hW hQ  n I a0 a1 s2 x3 x4 x5 x6 x6 x6 hZ0 hZ1 hS2 h
    · have h := (if_neg hc2).symm.trans h
      refine ok_sub [0, 1, 2, 3, 4, 6] rfl ?_
      exact o6_share_c15 d r hrec hW hQ  I a0 a1 s2 x3 x4 x6 hZ0 hZ1 hS2 h
def f6_rec (n : Nat) (O : (Nat → Nat → Option Nat)) : Nat → (Nat → Nat → Int32) → Nat → Nat → Option Nat → Int32 → Int32 → Int32 → Int32 → Option (Int32 × (Nat → Nat → Int32))
  | 0, _, _, _, _, _, _, _, _ => none
  | r + 1, I, a0, a1, s2, x3, x4, x5, x6 => f6_share_b n I O (f6_rec n O r) a0 a1 s2 x3 x4 x5 x6
set_option maxRecDepth 20000 in
theorem k6_rec {g : pG} {Z : pZ} {L : (Nat → Nat → Int64)} {O : (Nat → Nat → Option Nat)} {n : Nat} (d : Nat) (hW : WT Z O) : ∀ (r : Nat) (I : (Nat → Nat → Int32)) (a0 : Nat) (a1 : Nat) (s2 : Option Nat) (x3 : Int32) (x4 : Int32) (x5 : Int32) (x6 : Int32) (res : Int32 × (Nat → Nat → Int32)) (Q : Option Value → pW → Prop), (Z[a0]? = some (6, 5)) → (Z[a1]? = some (10, 5)) → (∀ b, s2 = some b → Z[b]? = some (7, 7)) → f6_rec n O r I a0 a1 s2 x3 x4 x5 x6 = some res → Q (some (.int res.1)) (Z, res.2, L, O) → CT g (d + 7 + r) m6_share 0 0 [.ref a0, .ref a1, va_rf s2, .int x3, .int x4, .int x5, .int x6] (Z, I, L, O) Q := by
  intro r
  induction r with
  | zero => intro I a0 a1 s2 x3 x4 x5 x6 res Q hZ0 hZ1 hS2 h hQ; exact nomatch (show (none : Option (Int32 × (Nat → Nat → Int32))) = some res from h)
  | succ r ih =>
    intro I a0 a1 s2 x3 x4 x5 x6 res Q hZ0 hZ1 hS2 h hQ
    exact ct_of_ok (mt := m6_share) (ini := false) mo6_share.2.2.2.2 (fun h => by cases h) (by cases s2 <;> exact (Nat.le_of_ble_eq_true rfl)) (by
        rw [show lv_args 0 [.ref a0, .ref a1, va_rf s2, .int x3, .int x4, .int x5, .int x6] = [(0, .ref a0), (1, .ref a1), (2, va_rf s2), (3, .int x3), (4, .int x4), (5, .int x5), (6, .int x6)] by cases s2 <;> rfl]
        exact o6_share (n := n) d r ih hW hZ0 hZ1 hS2 h (fun hb => ⟨hb, hQ, rfl, rfl⟩))
def f6_share (n : Nat) (I : (Nat → Nat → Int32)) (O : (Nat → Nat → Option Nat)) (a0 : Nat) (a1 : Nat) (s2 : Option Nat) (x3 : Int32) (x4 : Int32) (x5 : Int32) (x6 : Int32) : Option (Int32 × (Nat → Nat → Int32)) := f6_rec n O 10 I a0 a1 s2 x3 x4 x5 x6
theorem k6_share {g : pG} {Q : Option Value → pW → Prop} {Z : pZ} {I : (Nat → Nat → Int32)} {L : (Nat → Nat → Int64)} {O : (Nat → Nat → Option Nat)} {n : Nat} {a0 : Nat} {a1 : Nat} {s2 : Option Nat} {x3 : Int32} {x4 : Int32} {x5 : Int32} {x6 : Int32} {res : Int32 × (Nat → Nat → Int32)} (d : Nat) (hW : WT Z O) (hZ0 : Z[a0]? = some (6, 5)) (hZ1 : Z[a1]? = some (10, 5)) (hS2 : ∀ b, s2 = some b → Z[b]? = some (7, 7)) (h : f6_share n I O a0 a1 s2 x3 x4 x5 x6 = some res) (hQ : Q (some (.int res.1)) (Z, res.2, L, O)) : CT g (d + 17) m6_share 0 0 [.ref a0, .ref a1, va_rf s2, .int x3, .int x4, .int x5, .int x6] (Z, I, L, O) Q :=
  k6_rec d hW 10 I a0 a1 s2 x3 x4 x5 x6 res Q hZ0 hZ1 hS2 h hQ
theorem lkRX6_41 : Cond.methodLink RX6 41 yJ7_fill_53178 ∈ lw_tbl := tb_i 1166 (by decide +kernel)
theorem lkRX6_47 : Cond.methodLink RX6 47 yX10_soundings ∈ lw_tbl := tb_i 1167 (by decide +kernel)
theorem dX6_teach_0 : decode cX6_teach 0 = .ok (.aload_n 0, 1) := by decide +kernel
theorem dX6_teach_1 : decode cX6_teach 1 = .ok (.getfield 18, 3) := by decide +kernel
theorem dX6_teach_4 : decode cX6_teach 4 = .ok (.iconst 0, 1) := by decide +kernel
theorem dX6_teach_5 : decode cX6_teach 5 = .ok (.invokestatic 41, 3) := by decide +kernel
theorem dX6_teach_8 : decode cX6_teach 8 = .ok (.aload_n 0, 1) := by decide +kernel
theorem dX6_teach_9 : decode cX6_teach 9 = .ok (.getfield 9, 3) := by decide +kernel
theorem dX6_teach_12 : decode cX6_teach 12 = .ok (.iconst 0, 1) := by decide +kernel
theorem dX6_teach_13 : decode cX6_teach 13 = .ok (.invokestatic 41, 3) := by decide +kernel
theorem dX6_teach_16 : decode cX6_teach 16 = .ok (.iconst 0, 1) := by decide +kernel
theorem dX6_teach_17 : decode cX6_teach 17 = .ok (.istore 5, 2) := by decide +kernel
theorem dX6_teach_19 : decode cX6_teach 19 = .ok (.iload 5, 2) := by decide +kernel
theorem dX6_teach_21 : decode cX6_teach 21 = .ok (.iconst 5, 1) := by decide +kernel
theorem dX6_teach_22 : decode cX6_teach 22 = .ok (.if_icmp .ge 46, 3) := by decide +kernel
theorem dX6_teach_25 : decode cX6_teach 25 = .ok (.iconst 0, 1) := by decide +kernel
theorem dX6_teach_26 : decode cX6_teach 26 = .ok (.istore 6, 2) := by decide +kernel
theorem dX6_teach_28 : decode cX6_teach 28 = .ok (.iload 6, 2) := by decide +kernel
theorem dX6_teach_30 : decode cX6_teach 30 = .ok (.bipush 6, 2) := by decide +kernel
theorem dX6_teach_32 : decode cX6_teach 32 = .ok (.if_icmp .ge 30, 3) := by decide +kernel
theorem dX6_teach_35 : decode cX6_teach 35 = .ok (.aload_n 0, 1) := by decide +kernel
theorem dX6_teach_36 : decode cX6_teach 36 = .ok (.getfield 15, 3) := by decide +kernel
theorem dX6_teach_39 : decode cX6_teach 39 = .ok (.iload 5, 2) := by decide +kernel
theorem dX6_teach_41 : decode cX6_teach 41 = .ok (.bipush 6, 2) := by decide +kernel
theorem dX6_teach_43 : decode cX6_teach 43 = .ok (.imul, 1) := by decide +kernel
theorem dX6_teach_44 : decode cX6_teach 44 = .ok (.iload 6, 2) := by decide +kernel
theorem dX6_teach_46 : decode cX6_teach 46 = .ok (.iadd, 1) := by decide +kernel
theorem dX6_teach_47 : decode cX6_teach 47 = .ok (.aload_n 1, 1) := by decide +kernel
theorem dX6_teach_48 : decode cX6_teach 48 = .ok (.iload 5, 2) := by decide +kernel
theorem dX6_teach_50 : decode cX6_teach 50 = .ok (.iload 6, 2) := by decide +kernel
theorem dX6_teach_52 : decode cX6_teach 52 = .ok (.invokevirtual 47, 3) := by decide +kernel
theorem dX6_teach_55 : decode cX6_teach 55 = .ok (.iastore, 1) := by decide +kernel
theorem dX6_teach_56 : decode cX6_teach 56 = .ok (.iinc 6 1, 3) := by decide +kernel
theorem dX6_teach_59 : decode cX6_teach 59 = .ok (.goto (-31), 3) := by decide +kernel
theorem dX6_teach_62 : decode cX6_teach 62 = .ok (.iinc 5 1, 3) := by decide +kernel
theorem dX6_teach_65 : decode cX6_teach 65 = .ok (.goto (-46), 3) := by decide +kernel
theorem dX6_teach_68 : decode cX6_teach 68 = .ok (.iconst 0, 1) := by decide +kernel
theorem dX6_teach_69 : decode cX6_teach 69 = .ok (.istore 5, 2) := by decide +kernel
theorem dX6_teach_71 : decode cX6_teach 71 = .ok (.iload 5, 2) := by decide +kernel
theorem dX6_teach_73 : decode cX6_teach 73 = .ok (.bipush 8, 2) := by decide +kernel
theorem dX6_teach_75 : decode cX6_teach 75 = .ok (.if_icmp .gt 27, 3) := by decide +kernel
theorem dX6_teach_78 : decode cX6_teach 78 = .ok (.aload_n 0, 1) := by decide +kernel
theorem dX6_teach_79 : decode cX6_teach 79 = .ok (.aload_n 1, 1) := by decide +kernel
theorem dX6_teach_80 : decode cX6_teach 80 = .ok (.aload_n 2, 1) := by decide +kernel
theorem dX6_teach_81 : decode cX6_teach 81 = .ok (.iload_n 3, 1) := by decide +kernel
theorem dX6_teach_82 : decode cX6_teach 82 = .ok (.iload 4, 2) := by decide +kernel
theorem dX6_teach_84 : decode cX6_teach 84 = .ok (.iconst 0, 1) := by decide +kernel
theorem dX6_teach_85 : decode cX6_teach 85 = .ok (.iload 5, 2) := by decide +kernel
theorem dX6_teach_87 : decode cX6_teach 87 = .ok (.invokevirtual 49, 3) := by decide +kernel
theorem dX6_teach_90 : decode cX6_teach 90 = .ok (.ifCond .eq 6, 3) := by decide +kernel
theorem dX6_teach_93 : decode cX6_teach 93 = .ok (.iload 5, 2) := by decide +kernel
theorem dX6_teach_95 : decode cX6_teach 95 = .ok (.ireturn, 1) := by decide +kernel
theorem dX6_teach_96 : decode cX6_teach 96 = .ok (.iinc 5 1, 3) := by decide +kernel
theorem dX6_teach_99 : decode cX6_teach 99 = .ok (.goto (-28), 3) := by decide +kernel
theorem dX6_teach_102 : decode cX6_teach 102 = .ok (.iconst (-1), 1) := by decide +kernel
theorem dX6_teach_103 : decode cX6_teach 103 = .ok (.ireturn, 1) := by decide +kernel
def m6_teach : pMT := (yX6_teach, cX6_teach, 7, some .int)
theorem mo6_teach : mOK m6_teach 4 := ⟨tb_i 1165 (by decide +kernel), wi_RX6, ⟨wn_RX6.1, wn_RX6.2, by decide +kernel⟩, by decide, plainFor_of_name wp_RX6⟩
theorem mv6_teach : mV m6_teach := ⟨tb_i 1163 (by decide +kernel), tb_i 1164 (by decide +kernel)⟩
def f6_teach_c71 (n : Nat) (O : (Nat → Nat → Option Nat)) : Nat → (Nat → Nat → Int32) → Nat → Nat → Option Nat → Int32 → Int32 → Int32 → Option (Int32 × (Nat → Nat → Int32))
  | 0, _, _, _, _, _, _, _ => none
  | m + 1, I, b0, b1, s2, y3, y4, y5 => (if (8 : Int32) < y5 then some (((-1) : Int32), I) else (f6_share n I O b0 b1 s2 y3 y4 (0 : Int32) y5).bind fun r2 => (if r2.1 = 0 then f6_teach_c71 n O m r2.2 b0 b1 s2 y3 y4 (y5 + 1) else some (y5, r2.2)))
set_option maxHeartbeats 4000000 in
set_option maxRecDepth 20000 in
theorem o6_teach_c71 {g : pG} {Qx : Option Value → pW → Prop} {Z : pZ} {L : (Nat → Nat → Int64)} {O : (Nat → Nat → Option Nat)} {n : Nat} {res : Int32 × (Nat → Nat → Int32)} (d : Nat) (hW : WT Z O) (hQ : Qx (some (.int res.1)) (Z, res.2, L, O)) : ∀ (m : Nat) (I : (Nat → Nat → Int32)) (b0 : Nat) (b1 : Nat) (s2 : Option Nat) (y3 : Int32) (y4 : Int32) (y5 : Int32), (Z[b0]? = some (6, 5)) → (Z[b1]? = some (10, 5)) → (∀ b, s2 = some b → Z[b]? = some (7, 7)) → f6_teach_c71 n O m I b0 b1 s2 y3 y4 y5 = some res → Ok g (d + 18, RX6, cX6_teach, 7, false, 0, 0, Z.length, pSl Z) Qx 71 [(0, .ref b0), (1, .ref b1), (2, va_rf s2), (3, .int y3), (4, .int y4), (5, .int y5)] [] (Z, I, L, O) := by
  intro m
  induction m with
  | zero => intro I b0 b1 s2 y3 y4 y5 hZ_b0 hZ_b1 hS_s2 h; rw [f6_teach_c71] at h; cases h
  | succ m ih =>
    intro I b0 b1 s2 y3 y4 y5 hZ_b0 hZ_b1 hS_s2 h
    rw [f6_teach_c71] at h
    refine ok_iload dX6_teach_71 5 rfl ?_
    refine ok_bipush (v := 8) dX6_teach_73 (by decide) ?_
    refine ok_icmp_gt (t := 102) dX6_teach_75 (by decide) (fun hc1 => ?_) (fun hc1 => ?_)
    · have h := (if_pos hc1).symm.trans h
      refine ok_iconst (v := (-1)) dX6_teach_102 (by decide) ?_
      cases h
      exact ok_iret dX6_teach_103 hQ
    · have h := (if_neg hc1).symm.trans h
      refine ok_aload_n dX6_teach_78 0 rfl ?_
      refine ok_aload_n dX6_teach_79 1 rfl ?_
      refine ok_aloadQ_n dX6_teach_80 2 rfl ?_
      refine ok_iload_n dX6_teach_81 3 rfl ?_
      refine ok_iload dX6_teach_82 4 rfl ?_
      refine ok_iconst (v := 0) dX6_teach_84 (by decide) ?_
      refine ok_iload dX6_teach_85 5 rfl ?_
      obtain ⟨r2, hr3, h⟩ := bd h
      refine ok_callV (d := ((d + 0) + 17)) (mt := m6_share) (mc := 0) (ms := 0) (As := [.ref b1, va_rf s2, .int y3, .int y4, .int 0, .int y5]) (r := []) dX6_teach_87 mo6_share mv6_share lkRX6_49 rfl hZ_b0 (q := (RX6, TX6, 5)) rfl rfl rfl (Nat.le_of_ble_eq_true rfl) (by show _ + 1 ≤ d + _; omega) (Nat.le_refl _) (Nat.le_refl _) (pRt_mono ?_)
      refine k6_share (d + 0) hW hZ_b0 hZ_b1 hS_s2 hr3 ?_
      intro hbr2
      show Ok g _ Qx 90 [(0, .ref b0), (1, .ref b1), (2, va_rf s2), (3, .int y3), (4, .int y4), (5, .int y5)] [.int r2.1] (Z, r2.2, L, O)
      refine ok_if_eq (t := 96) dX6_teach_90 (by decide) (fun hc4 => ?_) (fun hc4 => ?_)
      · have h := (if_pos hc4).symm.trans h
        refine ok_iinc (u := (y5 + 1)) (l' := [(5, .int (y5 + 1)), (0, .ref b0), (1, .ref b1), (2, va_rf s2), (3, .int y3), (4, .int y4)]) dX6_teach_96 5 rfl rfl (Nat.le_of_ble_eq_true rfl) rfl ?_
        refine ok_goto (t := 71) dX6_teach_99 (by decide) ?_
        refine ok_sub [1, 2, 3, 4, 5, 0] rfl ?_
        exact ih r2.2 b0 b1 s2 y3 y4 (y5 + 1) hZ_b0 hZ_b1 hS_s2 h
      · have h := (if_neg hc4).symm.trans h
        refine ok_iload dX6_teach_93 5 rfl ?_
        cases h
        exact ok_iret dX6_teach_95 hQ
def f6_teach_c28 (n : Nat) (O : (Nat → Nat → Option Nat)) (k19 : ((Nat → Nat → Int32) → Nat → Nat → Option Nat → Int32 → Int32 → Int32 → Option (Int32 × (Nat → Nat → Int32)))) : Nat → (Nat → Nat → Int32) → Nat → Nat → Option Nat → Int32 → Int32 → Int32 → Int32 → Option (Int32 × (Nat → Nat → Int32))
  | 0, _, _, _, _, _, _, _, _ => none
  | m + 1, I, b0, b1, s2, y3, y4, y5, y6 => (if (6 : Int32) ≤ y6 then k19 I b0 b1 s2 y3 y4 (y5 + 1) else (f10_soundings n I O b1 y5 y6).bind fun r3 => (if ((y5 * 6) + y6) < 0 ∨ 30 ≤ ((y5 * 6) + y6).toNatClampNeg then none else bl (sI I (rO O b0 2) ((y5 * 6) + y6).toNatClampNeg r3) fun I6 => f6_teach_c28 n O k19 m I6 b0 b1 s2 y3 y4 y5 (y6 + 1)))
set_option maxHeartbeats 4000000 in
set_option maxRecDepth 20000 in
theorem o6_teach_c28 {g : pG} {Qx : Option Value → pW → Prop} {Z : pZ} {L : (Nat → Nat → Int64)} {O : (Nat → Nat → Option Nat)} {n : Nat} {k19 : ((Nat → Nat → Int32) → Nat → Nat → Option Nat → Int32 → Int32 → Int32 → Option (Int32 × (Nat → Nat → Int32)))} {res : Int32 × (Nat → Nat → Int32)} (d : Nat) (hW : WT Z O) (hQ : Qx (some (.int res.1)) (Z, res.2, L, O)) (hk19 : ∀ (I : (Nat → Nat → Int32)) (b0 : Nat) (b1 : Nat) (s2 : Option Nat) (y3 : Int32) (y4 : Int32) (y5 : Int32), (Z[b0]? = some (6, 5)) → (Z[b1]? = some (10, 5)) → (∀ b, s2 = some b → Z[b]? = some (7, 7)) → k19 I b0 b1 s2 y3 y4 y5 = some res → Ok g (d + 18, RX6, cX6_teach, 7, false, 0, 0, Z.length, pSl Z) Qx 19 [(0, .ref b0), (1, .ref b1), (2, va_rf s2), (3, .int y3), (4, .int y4), (5, .int y5)] [] (Z, I, L, O)) : ∀ (m : Nat) (I : (Nat → Nat → Int32)) (b0 : Nat) (b1 : Nat) (s2 : Option Nat) (y3 : Int32) (y4 : Int32) (y5 : Int32) (y6 : Int32), (Z[b0]? = some (6, 5)) → (Z[b1]? = some (10, 5)) → (∀ b, s2 = some b → Z[b]? = some (7, 7)) → f6_teach_c28 n O k19 m I b0 b1 s2 y3 y4 y5 y6 = some res → Ok g (d + 18, RX6, cX6_teach, 7, false, 0, 0, Z.length, pSl Z) Qx 28 [(0, .ref b0), (1, .ref b1), (2, va_rf s2), (3, .int y3), (4, .int y4), (5, .int y5), (6, .int y6)] [] (Z, I, L, O) := by
  intro m
  induction m with
  | zero => intro I b0 b1 s2 y3 y4 y5 y6 hZ_b0 hZ_b1 hS_s2 h; rw [f6_teach_c28] at h; cases h
  | succ m ih =>
    intro I b0 b1 s2 y3 y4 y5 y6 hZ_b0 hZ_b1 hS_s2 h
    rw [f6_teach_c28] at h
    refine ok_iload dX6_teach_28 6 rfl ?_
    refine ok_bipush (v := 6) dX6_teach_30 (by decide) ?_
    refine ok_icmp_ge (t := 62) dX6_teach_32 (by decide) (fun hc1 => ?_) (fun hc1 => ?_)
    · have h := (if_pos hc1).symm.trans h
      refine ok_iinc (u := (y5 + 1)) (l' := [(5, .int (y5 + 1)), (0, .ref b0), (1, .ref b1), (2, va_rf s2), (3, .int y3), (4, .int y4), (6, .int y6)]) dX6_teach_62 5 rfl rfl (Nat.le_of_ble_eq_true rfl) rfl ?_
      refine ok_goto (t := 19) dX6_teach_65 (by decide) ?_
      refine ok_sub [1, 2, 3, 4, 5, 0] rfl ?_
      exact hk19 I b0 b1 s2 y3 y4 (y5 + 1) hZ_b0 hZ_b1 hS_s2 h
    · have h := (if_neg hc1).symm.trans h
      refine ok_aload_n dX6_teach_35 0 rfl ?_
      have hT2 : Z[(rO O b0 2)]? = some (13, 30) := (wt_f (ci := 6) (k := 2) hW hZ_b0 rfl).2
      refine ok_getR (ci := 6) (k := 2) dX6_teach_36 flRX6_15 rfl hW hZ_b0 (by decide) ?_
      refine ok_iload dX6_teach_39 5 rfl ?_
      refine ok_bipush (v := 6) dX6_teach_41 (by decide) ?_
      refine ok_imul dX6_teach_43 ?_
      refine ok_iload dX6_teach_44 6 rfl ?_
      refine ok_iadd dX6_teach_46 ?_
      refine ok_aload_n dX6_teach_47 1 rfl ?_
      refine ok_iload dX6_teach_48 5 rfl ?_
      refine ok_iload dX6_teach_50 6 rfl ?_
      obtain ⟨r3, hr4, h⟩ := bd h
      refine ok_callV (d := ((d + 13) + 4)) (mt := m10_soundings) (mc := 0) (ms := 0) (As := [.int y5, .int y6]) (r := [.int ((y5 * 6) + y6), .ref (rO O b0 2)]) dX6_teach_52 mo10_soundings mv10_soundings lkRX6_47 rfl hZ_b1 (q := (RX10, TX10, 5)) rfl rfl rfl (Nat.le_of_ble_eq_true rfl) (by show _ + 1 ≤ d + _; omega) (Nat.le_refl _) (Nat.le_refl _) (pRt_mono ?_)
      refine k10_soundings (d + 13) hW hZ_b1 hr4 ?_
      intro _
      show Ok g _ Qx 55 [(0, .ref b0), (1, .ref b1), (2, va_rf s2), (3, .int y3), (4, .int y4), (5, .int y5), (6, .int y6)] [.int r3, .int ((y5 * 6) + y6), .ref (rO O b0 2)] (Z, I, L, O)
      obtain ⟨hg5, h⟩ := gd h
      obtain ⟨I6, eI6, h⟩ := blE h
      refine ok_iast3 dX6_teach_55 hT2 hg5 rfl eI6 ?_
      refine ok_iinc (u := (y6 + 1)) (l' := [(6, .int (y6 + 1)), (0, .ref b0), (1, .ref b1), (2, va_rf s2), (3, .int y3), (4, .int y4), (5, .int y5)]) dX6_teach_56 6 rfl rfl (Nat.le_of_ble_eq_true rfl) rfl ?_
      refine ok_goto (t := 28) dX6_teach_59 (by decide) ?_
      refine ok_sub [1, 2, 3, 4, 5, 6, 0] rfl ?_
      exact ih I6 b0 b1 s2 y3 y4 y5 (y6 + 1) hZ_b0 hZ_b1 hS_s2 h
def f6_teach_c19 (n : Nat) (O : (Nat → Nat → Option Nat)) : Nat → (Nat → Nat → Int32) → Nat → Nat → Option Nat → Int32 → Int32 → Int32 → Option (Int32 × (Nat → Nat → Int32))
  | 0, _, _, _, _, _, _, _ => none
  | m + 1, I, b0, b1, s2, y3, y4, y5 => (if (5 : Int32) ≤ y5 then f6_teach_c71 n O n I b0 b1 s2 y3 y4 (0 : Int32) else f6_teach_c28 n O (f6_teach_c19 n O m) n I b0 b1 s2 y3 y4 y5 (0 : Int32))
set_option maxHeartbeats 4000000 in
set_option maxRecDepth 20000 in
theorem o6_teach_c19 {g : pG} {Qx : Option Value → pW → Prop} {Z : pZ} {L : (Nat → Nat → Int64)} {O : (Nat → Nat → Option Nat)} {n : Nat} {res : Int32 × (Nat → Nat → Int32)} (d : Nat) (hW : WT Z O) (hQ : Qx (some (.int res.1)) (Z, res.2, L, O)) : ∀ (m : Nat) (I : (Nat → Nat → Int32)) (b0 : Nat) (b1 : Nat) (s2 : Option Nat) (y3 : Int32) (y4 : Int32) (y5 : Int32), (Z[b0]? = some (6, 5)) → (Z[b1]? = some (10, 5)) → (∀ b, s2 = some b → Z[b]? = some (7, 7)) → f6_teach_c19 n O m I b0 b1 s2 y3 y4 y5 = some res → Ok g (d + 18, RX6, cX6_teach, 7, false, 0, 0, Z.length, pSl Z) Qx 19 [(0, .ref b0), (1, .ref b1), (2, va_rf s2), (3, .int y3), (4, .int y4), (5, .int y5)] [] (Z, I, L, O) := by
  intro m
  induction m with
  | zero => intro I b0 b1 s2 y3 y4 y5 hZ_b0 hZ_b1 hS_s2 h; rw [f6_teach_c19] at h; cases h
  | succ m ih =>
    intro I b0 b1 s2 y3 y4 y5 hZ_b0 hZ_b1 hS_s2 h
    rw [f6_teach_c19] at h
    refine ok_iload dX6_teach_19 5 rfl ?_
    refine ok_iconst (v := 5) dX6_teach_21 (by decide) ?_
    refine ok_icmp_ge (t := 68) dX6_teach_22 (by decide) (fun hc1 => ?_) (fun hc1 => ?_)
    · have h := (if_pos hc1).symm.trans h
      refine ok_iconst (v := 0) dX6_teach_68 (by decide) ?_
      refine ok_istore (l' := [(5, .int 0), (0, .ref b0), (1, .ref b1), (2, va_rf s2), (3, .int y3), (4, .int y4)]) dX6_teach_69 (Nat.le_of_ble_eq_true rfl) rfl ?_
      refine ok_sub [1, 2, 3, 4, 5, 0] rfl ?_
      exact o6_teach_c71 d hW hQ  n I b0 b1 s2 y3 y4 (0 : Int32) hZ_b0 hZ_b1 hS_s2 h
    · have h := (if_neg hc1).symm.trans h
      refine ok_iconst (v := 0) dX6_teach_25 (by decide) ?_
      refine ok_istore (l' := [(6, .int 0), (0, .ref b0), (1, .ref b1), (2, va_rf s2), (3, .int y3), (4, .int y4), (5, .int y5)]) dX6_teach_26 (Nat.le_of_ble_eq_true rfl) rfl ?_
      refine ok_sub [1, 2, 3, 4, 5, 6, 0] rfl ?_
      exact o6_teach_c28 d hW hQ ih n I b0 b1 s2 y3 y4 y5 (0 : Int32) hZ_b0 hZ_b1 hS_s2 h
def f6_teach (n : Nat) (I : (Nat → Nat → Int32)) (O : (Nat → Nat → Option Nat)) (a0 : Nat) (a1 : Nat) (s2 : Option Nat) (x3 : Int32) (x4 : Int32) : Option (Int32 × (Nat → Nat → Int32)) := bl (flI I (rO O a0 3) 600 (0 : Int32)) fun I2 => bl (flI I2 (rO O a0 1) 5 (0 : Int32)) fun I4 => f6_teach_c19 n O n I4 a0 a1 s2 x3 x4 (0 : Int32)
set_option maxHeartbeats 4000000 in
set_option maxRecDepth 20000 in
theorem o6_teach {g : pG} {Qx : Option Value → pW → Prop} {Z : pZ} {I : (Nat → Nat → Int32)} {L : (Nat → Nat → Int64)} {O : (Nat → Nat → Option Nat)} {n : Nat} {a0 : Nat} {a1 : Nat} {s2 : Option Nat} {x3 : Int32} {x4 : Int32} {res : Int32 × (Nat → Nat → Int32)} (d : Nat) (hW : WT Z O) (hZ0 : Z[a0]? = some (6, 5)) (hZ1 : Z[a1]? = some (10, 5)) (hS2 : ∀ b, s2 = some b → Z[b]? = some (7, 7)) (h : f6_teach n I O a0 a1 s2 x3 x4 = some res) (hQ : Qx (some (.int res.1)) (Z, res.2, L, O)) : Ok g (d + 18, RX6, cX6_teach, 7, false, 0, 0, Z.length, pSl Z) Qx 0 [(0, .ref a0), (1, .ref a1), (2, va_rf s2), (3, .int x3), (4, .int x4)] [] (Z, I, L, O) := by
  unfold f6_teach at h
  refine ok_aload_n dX6_teach_0 0 rfl ?_
  have hT1 : Z[(rO O a0 3)]? = some (13, 600) := (wt_f (ci := 6) (k := 3) hW hZ0 rfl).2
  refine ok_getR (ci := 6) (k := 3) dX6_teach_1 flRX6_18 rfl hW hZ0 (by decide) ?_
  refine ok_iconst (v := 0) dX6_teach_4 (by decide) ?_
  obtain ⟨I2, eI2, h⟩ := blE h
  refine ok_callS (d := ((d + 13) + 4)) (mt := mJ7_fill_53178) (mc := 0) (ms := 0) (As := [.ref (rO O a0 3), .int 0]) (r := []) dX6_teach_5 moJ7_fill_53178 mvJ7_fill_53178 lkRX6_41 rfl rfl (Nat.le_of_ble_eq_true rfl) (by show _ + 1 ≤ d + _; omega) (Nat.le_refl _) (Nat.le_refl _) (pRt_mono ?_)
  refine kJ7_fillI hT1 (by decide) eI2 ?_
  intro _
  show Ok g _ Qx 8 [(0, .ref a0), (1, .ref a1), (2, va_rf s2), (3, .int x3), (4, .int x4)] [] (Z, I2, L, O)
  refine ok_aload_n dX6_teach_8 0 rfl ?_
  have hT3 : Z[(rO O a0 1)]? = some (13, 5) := (wt_f (ci := 6) (k := 1) hW hZ0 rfl).2
  refine ok_getR (ci := 6) (k := 1) dX6_teach_9 flRX6_9 rfl hW hZ0 (by decide) ?_
  refine ok_iconst (v := 0) dX6_teach_12 (by decide) ?_
  obtain ⟨I4, eI4, h⟩ := blE h
  refine ok_callS (d := ((d + 13) + 4)) (mt := mJ7_fill_53178) (mc := 0) (ms := 0) (As := [.ref (rO O a0 1), .int 0]) (r := []) dX6_teach_13 moJ7_fill_53178 mvJ7_fill_53178 lkRX6_41 rfl rfl (Nat.le_of_ble_eq_true rfl) (by show _ + 1 ≤ d + _; omega) (Nat.le_refl _) (Nat.le_refl _) (pRt_mono ?_)
  refine kJ7_fillI hT3 (by decide) eI4 ?_
  intro _
  show Ok g _ Qx 16 [(0, .ref a0), (1, .ref a1), (2, va_rf s2), (3, .int x3), (4, .int x4)] [] (Z, I4, L, O)
  refine ok_iconst (v := 0) dX6_teach_16 (by decide) ?_
  refine ok_istore (l' := [(5, .int 0), (0, .ref a0), (1, .ref a1), (2, va_rf s2), (3, .int x3), (4, .int x4)]) dX6_teach_17 (Nat.le_of_ble_eq_true rfl) rfl ?_
  refine ok_sub [1, 2, 3, 4, 5, 0] rfl ?_
  exact o6_teach_c19 d hW hQ  n I4 a0 a1 s2 x3 x4 (0 : Int32) hZ0 hZ1 hS2 h
theorem k6_teach {g : pG} {Q : Option Value → pW → Prop} {Z : pZ} {I : (Nat → Nat → Int32)} {L : (Nat → Nat → Int64)} {O : (Nat → Nat → Option Nat)} {n : Nat} {a0 : Nat} {a1 : Nat} {s2 : Option Nat} {x3 : Int32} {x4 : Int32} {res : Int32 × (Nat → Nat → Int32)} (d : Nat) (hW : WT Z O) (hZ0 : Z[a0]? = some (6, 5)) (hZ1 : Z[a1]? = some (10, 5)) (hS2 : ∀ b, s2 = some b → Z[b]? = some (7, 7)) (h : f6_teach n I O a0 a1 s2 x3 x4 = some res) (hQ : Q (some (.int res.1)) (Z, res.2, L, O)) : CT g (d + 18) m6_teach 0 0 [.ref a0, .ref a1, va_rf s2, .int x3, .int x4] (Z, I, L, O) Q :=
  ct_of_ok (mt := m6_teach) (ini := false) mo6_teach.2.2.2.2 (fun h => by cases h) (by cases s2 <;> exact (Nat.le_of_ble_eq_true rfl)) (by
    rw [show lv_args 0 [.ref a0, .ref a1, va_rf s2, .int x3, .int x4] = [(0, .ref a0), (1, .ref a1), (2, va_rf s2), (3, .int x3), (4, .int x4)] by cases s2 <;> rfl]
    exact o6_teach d hW hZ0 hZ1 hS2 h ⟨trivial, hQ, rfl, rfl⟩)
