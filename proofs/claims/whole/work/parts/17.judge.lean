theorem flRX1_9 : FL RX1 9 1 0 := ⟨(RX1, TX1, 3), rfl, by decide, tb_i 209 (by decide +kernel)⟩
theorem flRX1_15 : FL RX1 15 1 1 := ⟨(RX1, TX1, 3), rfl, by decide, tb_i 210 (by decide +kernel)⟩
theorem flRX1_55 : FL RX1 55 10 2 := ⟨(RX10, TX10, 5), rfl, by decide, tb_i 85 (by decide +kernel)⟩
theorem flRX1_59 : FL RX1 59 3 4 := ⟨(RX3, TX3, 6), rfl, by decide, tb_i 59 (by decide +kernel)⟩
theorem flRX1_80 : FL RX1 80 1 2 := ⟨(RX1, TX1, 3), rfl, by decide, tb_i 211 (by decide +kernel)⟩
theorem lkRX1_18 : Cond.methodLink RX1 18 yX10_wearAt ∈ lw_tbl := tb_i 713 (by decide +kernel)
theorem lkRX1_24 : Cond.methodLink RX1 24 yX7_hasLaw ∈ lw_tbl := tb_i 717 (by decide +kernel)
theorem lkRX1_30 : Cond.methodLink RX1 30 yX10_keyAt ∈ lw_tbl := tb_i 718 (by decide +kernel)
theorem lkRX1_33 : Cond.methodLink RX1 33 yX1_nameKey ∈ lw_tbl := tb_i 722 (by decide +kernel)
theorem lkRX1_37 : Cond.methodLink RX1 37 yX10_timesHeard ∈ lw_tbl := tb_i 726 (by decide +kernel)
theorem lkRX1_40 : Cond.methodLink RX1 40 yX1_nameChild ∈ lw_tbl := tb_i 731 (by decide +kernel)
theorem lkRX1_44 : Cond.methodLink RX1 44 yX1_namePlace ∈ lw_tbl := tb_i 735 (by decide +kernel)
theorem lkRX1_48 : Cond.methodLink RX1 48 yX1_evaluate ∈ lw_tbl := tb_i 739 (by decide +kernel)
theorem lkRX1_52 : Cond.methodLink RX1 52 yX1_within ∈ lw_tbl := tb_i 789 (by decide +kernel)
theorem lkRX1_65 : Cond.methodLink RX1 65 yJ9_min_7cf53 ∈ lw_tbl := tb_i 792 (by decide +kernel)
theorem lkRX1_70 : Cond.methodLink RX1 70 yJ9_max_7cf53 ∈ lw_tbl := tb_i 756 (by decide +kernel)
theorem lkRX1_73 : Cond.methodLink RX1 73 yX7_lawAt ∈ lw_tbl := tb_i 743 (by decide +kernel)
theorem lkRX1_77 : Cond.methodLink RX1 77 yX7_second ∈ lw_tbl := tb_i 744 (by decide +kernel)
theorem lkRX1_83 : Cond.methodLink RX1 83 yX7_first ∈ lw_tbl := tb_i 748 (by decide +kernel)
theorem lkRX1_86 : Cond.methodLink RX1 86 yX7_stepAt ∈ lw_tbl := tb_i 752 (by decide +kernel)
theorem lkRX1_89 : Cond.methodLink RX1 89 yX1_push ∈ lw_tbl := tb_i 757 (by decide +kernel)
theorem lkRX1_93 : Cond.methodLink RX1 93 yX1_pop ∈ lw_tbl := tb_i 761 (by decide +kernel)
theorem lkRX1_97 : Cond.methodLink RX1 97 yX10_holes ∈ lw_tbl := tb_i 765 (by decide +kernel)
theorem lkRX1_100 : Cond.methodLink RX1 100 yX1_digitsTogether ∈ lw_tbl := tb_i 769 (by decide +kernel)
theorem lkRX1_103 : Cond.methodLink RX1 103 yX1_reckon ∈ lw_tbl := tb_i 775 (by decide +kernel)
theorem lkRX1_107 : Cond.methodLink RX1 107 yX1_holds ∈ lw_tbl := tb_i 786 (by decide +kernel)
theorem lkRX1_115 : Cond.methodLink RX1 115 yJ9_min_f86c9 ∈ lw_tbl := tb_i 780 (by decide +kernel)
theorem lkRX1_118 : Cond.methodLink RX1 118 yJ9_max_f86c9 ∈ lw_tbl := tb_i 783 (by decide +kernel)
theorem lkRX1_120 : Cond.methodLink RX1 120 yJ9_abs_0f7a4 ∈ lw_tbl := tb_i 772 (by decide +kernel)
theorem dX1_digitsTogether_0 : decode cX1_digitsTogether 0 = .ok (.iconst 0, 1) := by decide +kernel
theorem dX1_digitsTogether_1 : decode cX1_digitsTogether 1 = .ok (.istore_n 1, 1) := by decide +kernel
theorem dX1_digitsTogether_2 : decode cX1_digitsTogether 2 = .ok (.iload_n 0, 1) := by decide +kernel
theorem dX1_digitsTogether_3 : decode cX1_digitsTogether 3 = .ok (.invokestatic 120, 3) := by decide +kernel
theorem dX1_digitsTogether_6 : decode cX1_digitsTogether 6 = .ok (.istore_n 2, 1) := by decide +kernel
theorem dX1_digitsTogether_7 : decode cX1_digitsTogether 7 = .ok (.iconst 0, 1) := by decide +kernel
theorem dX1_digitsTogether_8 : decode cX1_digitsTogether 8 = .ok (.istore_n 3, 1) := by decide +kernel
theorem dX1_digitsTogether_9 : decode cX1_digitsTogether 9 = .ok (.iload_n 3, 1) := by decide +kernel
theorem dX1_digitsTogether_10 : decode cX1_digitsTogether 10 = .ok (.bipush 10, 2) := by decide +kernel
theorem dX1_digitsTogether_12 : decode cX1_digitsTogether 12 = .ok (.if_icmp .ge 25, 3) := by decide +kernel
theorem dX1_digitsTogether_15 : decode cX1_digitsTogether 15 = .ok (.iload_n 2, 1) := by decide +kernel
theorem dX1_digitsTogether_16 : decode cX1_digitsTogether 16 = .ok (.ifCond .le 21, 3) := by decide +kernel
theorem dX1_digitsTogether_19 : decode cX1_digitsTogether 19 = .ok (.iload_n 1, 1) := by decide +kernel
theorem dX1_digitsTogether_20 : decode cX1_digitsTogether 20 = .ok (.iload_n 2, 1) := by decide +kernel
theorem dX1_digitsTogether_21 : decode cX1_digitsTogether 21 = .ok (.bipush 10, 2) := by decide +kernel
theorem dX1_digitsTogether_23 : decode cX1_digitsTogether 23 = .ok (.irem, 1) := by decide +kernel
theorem dX1_digitsTogether_24 : decode cX1_digitsTogether 24 = .ok (.iadd, 1) := by decide +kernel
theorem dX1_digitsTogether_25 : decode cX1_digitsTogether 25 = .ok (.istore_n 1, 1) := by decide +kernel
theorem dX1_digitsTogether_26 : decode cX1_digitsTogether 26 = .ok (.iload_n 2, 1) := by decide +kernel
theorem dX1_digitsTogether_27 : decode cX1_digitsTogether 27 = .ok (.bipush 10, 2) := by decide +kernel
theorem dX1_digitsTogether_29 : decode cX1_digitsTogether 29 = .ok (.idiv, 1) := by decide +kernel
theorem dX1_digitsTogether_30 : decode cX1_digitsTogether 30 = .ok (.istore_n 2, 1) := by decide +kernel
theorem dX1_digitsTogether_31 : decode cX1_digitsTogether 31 = .ok (.iinc 3 1, 3) := by decide +kernel
theorem dX1_digitsTogether_34 : decode cX1_digitsTogether 34 = .ok (.goto (-25), 3) := by decide +kernel
theorem dX1_digitsTogether_37 : decode cX1_digitsTogether 37 = .ok (.iload_n 1, 1) := by decide +kernel
theorem dX1_digitsTogether_38 : decode cX1_digitsTogether 38 = .ok (.ireturn, 1) := by decide +kernel
theorem wi_RX1 : Cond.initialized RX1 ∈ lw_tbl := tb_i 7 (by decide +kernel)
theorem wn_RX1 : RX1 ≠ "java/lang/invoke/MethodHandle" ∧ RX1 ≠ "java/lang/invoke/VarHandle" := ⟨by decide +kernel, by decide +kernel⟩
theorem wp_RX1 : plainName RX1 = true := by decide +kernel
def m1_digitsTogether : pMT := (yX1_digitsTogether, cX1_digitsTogether, 4, some .int)
theorem mo1_digitsTogether : mOK m1_digitsTogether 1 := ⟨tb_i 771 (by decide +kernel), wi_RX1, ⟨wn_RX1.1, wn_RX1.2, by decide +kernel⟩, by decide, plainFor_of_name wp_RX1⟩
theorem mv1_digitsTogether : mS m1_digitsTogether := (tb_i 770 (by decide +kernel) : Cond.static yX1_digitsTogether ∈ lw_tbl)
def f1_digitsTogether_c9 (n : Nat) : Nat → Int32 → Int32 → Int32 → Option (Int32)
  | 0, _, _, _ => none
  | m + 1, y1, y2, y3 => (if (10 : Int32) ≤ y3 then some (y1) else (if y2 ≤ 0 then some (y1) else bl ((y1 + (y2 - y2 / 10 * 10)) : Int32) fun z3 => f1_digitsTogether_c9 n m z3 (y2 / 10) (y3 + 1)))
set_option maxHeartbeats 4000000 in
set_option maxRecDepth 20000 in
theorem o1_digitsTogether_c9 {g : pG} {Qx : Option Value → pW → Prop} {Z : pZ} {I : (Nat → Nat → Int32)} {L : (Nat → Nat → Int64)} {O : (Nat → Nat → Option Nat)} {n : Nat} {res : Int32} (d : Nat) (hW : WT Z O) (hQ : Qx (some (.int res)) (Z, I, L, O)) : ∀ (m : Nat) (y1 : Int32) (y2 : Int32) (y3 : Int32), f1_digitsTogether_c9 n m y1 y2 y3 = some res → Ok g (d + 3, RX1, cX1_digitsTogether, 4, false, 0, 0, Z.length, pSl Z) Qx 9 [(1, .int y1), (2, .int y2), (3, .int y3)] [] (Z, I, L, O) := by
  intro m
  induction m with
  | zero => intro y1 y2 y3 h; rw [f1_digitsTogether_c9] at h; cases h
  | succ m ih =>
    intro y1 y2 y3 h
    rw [f1_digitsTogether_c9] at h
    refine ok_iload_n dX1_digitsTogether_9 2 rfl ?_
    refine ok_bipush (v := 10) dX1_digitsTogether_10 (by decide) ?_
    refine ok_icmp_ge (t := 37) dX1_digitsTogether_12 (by decide) (fun hc1 => ?_) (fun hc1 => ?_)
    · have h := (if_pos hc1).symm.trans h
      refine ok_iload_n dX1_digitsTogether_37 0 rfl ?_
      cases h
      exact ok_iret dX1_digitsTogether_38 hQ
    · have h := (if_neg hc1).symm.trans h
      refine ok_iload_n dX1_digitsTogether_15 1 rfl ?_
      refine ok_if_le (t := 37) dX1_digitsTogether_16 (by decide) (fun hc2 => ?_) (fun hc2 => ?_)
      · have h := (if_pos hc2).symm.trans h
        refine ok_iload_n dX1_digitsTogether_37 0 rfl ?_
        cases h
        exact ok_iret dX1_digitsTogether_38 hQ
      · have h := (if_neg hc2).symm.trans h
        refine ok_iload_n dX1_digitsTogether_19 0 rfl ?_
        refine ok_iload_n dX1_digitsTogether_20 1 rfl ?_
        refine ok_bipush (v := 10) dX1_digitsTogether_21 (by decide) ?_
        refine ok_irem dX1_digitsTogether_23 (by decide) ?_
        refine ok_iadd dX1_digitsTogether_24 ?_
        obtain ⟨z3, ez3, h⟩ := blE h
        refine ok_nm ez3 ?_
        refine ok_istore_n (l' := [(1, .int z3), (2, .int y2), (3, .int y3)]) dX1_digitsTogether_25 rfl (Nat.le_of_ble_eq_true rfl) rfl ?_
        refine ok_iload_n dX1_digitsTogether_26 1 rfl ?_
        refine ok_bipush (v := 10) dX1_digitsTogether_27 (by decide) ?_
        refine ok_idiv dX1_digitsTogether_29 (by decide) ?_
        refine ok_istore_n (l' := [(2, .int (y2 / 10)), (1, .int z3), (3, .int y3)]) dX1_digitsTogether_30 rfl (Nat.le_of_ble_eq_true rfl) rfl ?_
        refine ok_iinc (u := (y3 + 1)) (l' := [(3, .int (y3 + 1)), (2, .int (y2 / 10)), (1, .int z3)]) dX1_digitsTogether_31 2 rfl rfl (Nat.le_of_ble_eq_true rfl) rfl ?_
        refine ok_goto (t := 9) dX1_digitsTogether_34 (by decide) ?_
        refine ok_sub [2, 1, 0] rfl ?_
        exact ih z3 (y2 / 10) (y3 + 1)  h
def f1_digitsTogether (n : Nat) (x0 : Int32) : Option (Int32) := (fJ9_abs_0f7a4 x0).bind fun r1 => f1_digitsTogether_c9 n n (0 : Int32) r1 (0 : Int32)
set_option maxHeartbeats 4000000 in
set_option maxRecDepth 20000 in
theorem o1_digitsTogether {g : pG} {Qx : Option Value → pW → Prop} {Z : pZ} {I : (Nat → Nat → Int32)} {L : (Nat → Nat → Int64)} {O : (Nat → Nat → Option Nat)} {n : Nat} {x0 : Int32} {res : Int32} (d : Nat) (hW : WT Z O) (h : f1_digitsTogether n x0 = some res) (hQ : Qx (some (.int res)) (Z, I, L, O)) : Ok g (d + 3, RX1, cX1_digitsTogether, 4, false, 0, 0, Z.length, pSl Z) Qx 0 [(0, .int x0)] [] (Z, I, L, O) := by
  unfold f1_digitsTogether at h
  refine ok_iconst (v := 0) dX1_digitsTogether_0 (by decide) ?_
  refine ok_istore_n (l' := [(1, .int 0), (0, .int x0)]) dX1_digitsTogether_1 rfl (Nat.le_of_ble_eq_true rfl) rfl ?_
  refine ok_iload_n dX1_digitsTogether_2 1 rfl ?_
  obtain ⟨r1, hr2, h⟩ := bd h
  refine ok_callS (d := ((d + 0) + 2)) (mt := mJ9_abs_0f7a4) (mc := 0) (ms := 0) (As := [.int x0]) (r := []) dX1_digitsTogether_3 moJ9_abs_0f7a4 mvJ9_abs_0f7a4 lkRX1_120 rfl rfl (Nat.le_of_ble_eq_true rfl) (by show _ + 1 ≤ d + _; omega) (Nat.le_refl _) (Nat.le_refl _) (pRt_mono ?_)
  refine kJ9_abs_0f7a4 (d + 0) hW  hr2 ?_
  intro _
  show Ok g _ Qx 6 [(1, .int 0), (0, .int x0)] [.int r1] (Z, I, L, O)
  refine ok_istore_n (l' := [(2, .int r1), (1, .int 0), (0, .int x0)]) dX1_digitsTogether_6 rfl (Nat.le_of_ble_eq_true rfl) rfl ?_
  refine ok_iconst (v := 0) dX1_digitsTogether_7 (by decide) ?_
  refine ok_istore_n (l' := [(3, .int 0), (2, .int r1), (1, .int 0), (0, .int x0)]) dX1_digitsTogether_8 rfl (Nat.le_of_ble_eq_true rfl) rfl ?_
  refine ok_sub [2, 1, 0] rfl ?_
  exact o1_digitsTogether_c9 d hW hQ  n (0 : Int32) r1 (0 : Int32)  h
theorem k1_digitsTogether {g : pG} {Q : Option Value → pW → Prop} {Z : pZ} {I : (Nat → Nat → Int32)} {L : (Nat → Nat → Int64)} {O : (Nat → Nat → Option Nat)} {n : Nat} {x0 : Int32} {res : Int32} (d : Nat) (hW : WT Z O) (h : f1_digitsTogether n x0 = some res) (hQ : Q (some (.int res)) (Z, I, L, O)) : CT g (d + 3) m1_digitsTogether 0 0 [.int x0] (Z, I, L, O) Q :=
  ct_of_ok (mt := m1_digitsTogether) (ini := false) mo1_digitsTogether.2.2.2.2 (fun h => by cases h) (Nat.le_of_ble_eq_true rfl) (o1_digitsTogether d hW  h ⟨trivial, hQ, rfl, rfl⟩)
theorem dX1_holds_0 : decode cX1_holds 0 = .ok (.iload_n 0, 1) := by decide +kernel
theorem dX1_holds_1 : decode cX1_holds 1 = .ok (.lookupswitch 169 #[(20, 89), (21, 75), (35, 136), (60, 103), (61, 125), (62, 114), (316, 147), (318, 158)], 75) := by decide +kernel
theorem dX1_holds_76 : decode cX1_holds 76 = .ok (.iload_n 1, 1) := by decide +kernel
theorem dX1_holds_77 : decode cX1_holds 77 = .ok (.ifCond .eq 11, 3) := by decide +kernel
theorem dX1_holds_80 : decode cX1_holds 80 = .ok (.iload_n 2, 1) := by decide +kernel
theorem dX1_holds_81 : decode cX1_holds 81 = .ok (.ifCond .eq 7, 3) := by decide +kernel
theorem dX1_holds_84 : decode cX1_holds 84 = .ok (.iconst 1, 1) := by decide +kernel
theorem dX1_holds_85 : decode cX1_holds 85 = .ok (.goto 4, 3) := by decide +kernel
theorem dX1_holds_88 : decode cX1_holds 88 = .ok (.iconst 0, 1) := by decide +kernel
theorem dX1_holds_89 : decode cX1_holds 89 = .ok (.ireturn, 1) := by decide +kernel
theorem dX1_holds_90 : decode cX1_holds 90 = .ok (.iload_n 1, 1) := by decide +kernel
theorem dX1_holds_91 : decode cX1_holds 91 = .ok (.ifCond .ne 7, 3) := by decide +kernel
theorem dX1_holds_94 : decode cX1_holds 94 = .ok (.iload_n 2, 1) := by decide +kernel
theorem dX1_holds_95 : decode cX1_holds 95 = .ok (.ifCond .eq 7, 3) := by decide +kernel
theorem dX1_holds_98 : decode cX1_holds 98 = .ok (.iconst 1, 1) := by decide +kernel
theorem dX1_holds_99 : decode cX1_holds 99 = .ok (.goto 4, 3) := by decide +kernel
theorem dX1_holds_102 : decode cX1_holds 102 = .ok (.iconst 0, 1) := by decide +kernel
theorem dX1_holds_103 : decode cX1_holds 103 = .ok (.ireturn, 1) := by decide +kernel
theorem dX1_holds_104 : decode cX1_holds 104 = .ok (.iload_n 1, 1) := by decide +kernel
theorem dX1_holds_105 : decode cX1_holds 105 = .ok (.iload_n 2, 1) := by decide +kernel
theorem dX1_holds_106 : decode cX1_holds 106 = .ok (.if_icmp .ge 7, 3) := by decide +kernel
theorem dX1_holds_109 : decode cX1_holds 109 = .ok (.iconst 1, 1) := by decide +kernel
theorem dX1_holds_110 : decode cX1_holds 110 = .ok (.goto 4, 3) := by decide +kernel
theorem dX1_holds_113 : decode cX1_holds 113 = .ok (.iconst 0, 1) := by decide +kernel
theorem dX1_holds_114 : decode cX1_holds 114 = .ok (.ireturn, 1) := by decide +kernel
theorem dX1_holds_115 : decode cX1_holds 115 = .ok (.iload_n 1, 1) := by decide +kernel
theorem dX1_holds_116 : decode cX1_holds 116 = .ok (.iload_n 2, 1) := by decide +kernel
theorem dX1_holds_117 : decode cX1_holds 117 = .ok (.if_icmp .le 7, 3) := by decide +kernel
theorem dX1_holds_120 : decode cX1_holds 120 = .ok (.iconst 1, 1) := by decide +kernel
theorem dX1_holds_121 : decode cX1_holds 121 = .ok (.goto 4, 3) := by decide +kernel
theorem dX1_holds_124 : decode cX1_holds 124 = .ok (.iconst 0, 1) := by decide +kernel
theorem dX1_holds_125 : decode cX1_holds 125 = .ok (.ireturn, 1) := by decide +kernel
theorem dX1_holds_126 : decode cX1_holds 126 = .ok (.iload_n 1, 1) := by decide +kernel
theorem dX1_holds_127 : decode cX1_holds 127 = .ok (.iload_n 2, 1) := by decide +kernel
theorem dX1_holds_128 : decode cX1_holds 128 = .ok (.if_icmp .ne 7, 3) := by decide +kernel
theorem dX1_holds_131 : decode cX1_holds 131 = .ok (.iconst 1, 1) := by decide +kernel
theorem dX1_holds_132 : decode cX1_holds 132 = .ok (.goto 4, 3) := by decide +kernel
theorem dX1_holds_135 : decode cX1_holds 135 = .ok (.iconst 0, 1) := by decide +kernel
theorem dX1_holds_136 : decode cX1_holds 136 = .ok (.ireturn, 1) := by decide +kernel
theorem dX1_holds_137 : decode cX1_holds 137 = .ok (.iload_n 1, 1) := by decide +kernel
theorem dX1_holds_138 : decode cX1_holds 138 = .ok (.iload_n 2, 1) := by decide +kernel
theorem dX1_holds_139 : decode cX1_holds 139 = .ok (.if_icmp .eq 7, 3) := by decide +kernel
theorem dX1_holds_142 : decode cX1_holds 142 = .ok (.iconst 1, 1) := by decide +kernel
theorem dX1_holds_143 : decode cX1_holds 143 = .ok (.goto 4, 3) := by decide +kernel
theorem dX1_holds_146 : decode cX1_holds 146 = .ok (.iconst 0, 1) := by decide +kernel
theorem dX1_holds_147 : decode cX1_holds 147 = .ok (.ireturn, 1) := by decide +kernel
theorem dX1_holds_148 : decode cX1_holds 148 = .ok (.iload_n 1, 1) := by decide +kernel
theorem dX1_holds_149 : decode cX1_holds 149 = .ok (.iload_n 2, 1) := by decide +kernel
theorem dX1_holds_150 : decode cX1_holds 150 = .ok (.if_icmp .gt 7, 3) := by decide +kernel
theorem dX1_holds_153 : decode cX1_holds 153 = .ok (.iconst 1, 1) := by decide +kernel
theorem dX1_holds_154 : decode cX1_holds 154 = .ok (.goto 4, 3) := by decide +kernel
theorem dX1_holds_157 : decode cX1_holds 157 = .ok (.iconst 0, 1) := by decide +kernel
theorem dX1_holds_158 : decode cX1_holds 158 = .ok (.ireturn, 1) := by decide +kernel
theorem dX1_holds_159 : decode cX1_holds 159 = .ok (.iload_n 1, 1) := by decide +kernel
theorem dX1_holds_160 : decode cX1_holds 160 = .ok (.iload_n 2, 1) := by decide +kernel
theorem dX1_holds_161 : decode cX1_holds 161 = .ok (.if_icmp .lt 7, 3) := by decide +kernel
theorem dX1_holds_164 : decode cX1_holds 164 = .ok (.iconst 1, 1) := by decide +kernel
theorem dX1_holds_165 : decode cX1_holds 165 = .ok (.goto 4, 3) := by decide +kernel
theorem dX1_holds_168 : decode cX1_holds 168 = .ok (.iconst 0, 1) := by decide +kernel
theorem dX1_holds_169 : decode cX1_holds 169 = .ok (.ireturn, 1) := by decide +kernel
theorem dX1_holds_170 : decode cX1_holds 170 = .ok (.iconst 0, 1) := by decide +kernel
theorem dX1_holds_171 : decode cX1_holds 171 = .ok (.ireturn, 1) := by decide +kernel
def m1_holds : pMT := (yX1_holds, cX1_holds, 3, some .boolean)
theorem mo1_holds : mOK m1_holds 3 := ⟨tb_i 788 (by decide +kernel), wi_RX1, ⟨wn_RX1.1, wn_RX1.2, by decide +kernel⟩, by decide, plainFor_of_name wp_RX1⟩
theorem mv1_holds : mS m1_holds := (tb_i 787 (by decide +kernel) : Cond.static yX1_holds ∈ lw_tbl)
def f1_holds (x0 : Int32) (x1 : Int32) (x2 : Int32) : Option (Int32) := (if x0 = 20 then (if x1 = 0 then (if x2 = 0 then some ((0 : Int32)) else some ((1 : Int32))) else some ((1 : Int32))) else (if x0 = 21 then (if x1 = 0 then some ((0 : Int32)) else (if x2 = 0 then some ((0 : Int32)) else some ((1 : Int32)))) else (if x0 = 35 then (if x1 = x2 then some ((0 : Int32)) else some ((1 : Int32))) else (if x0 = 60 then (if x2 ≤ x1 then some ((0 : Int32)) else some ((1 : Int32))) else (if x0 = 61 then (if x1 = x2 then some ((1 : Int32)) else some ((0 : Int32))) else (if x0 = 62 then (if x1 ≤ x2 then some ((0 : Int32)) else some ((1 : Int32))) else (if x0 = 316 then (if x2 < x1 then some ((0 : Int32)) else some ((1 : Int32))) else (if x0 = 318 then (if x1 < x2 then some ((0 : Int32)) else some ((1 : Int32))) else some ((0 : Int32))))))))))
set_option maxHeartbeats 4000000 in
set_option maxRecDepth 20000 in
theorem o1_holds {g : pG} {Qx : Option Value → pW → Prop} {Z : pZ} {I : (Nat → Nat → Int32)} {L : (Nat → Nat → Int64)} {O : (Nat → Nat → Option Nat)} {x0 : Int32} {x1 : Int32} {x2 : Int32} {res : Int32} (d : Nat) (hW : WT Z O) (h : f1_holds x0 x1 x2 = some res) (hQ : (res = 0 ∨ res = 1) → Qx (some (.int res)) (Z, I, L, O)) : Ok g (d + 2, RX1, cX1_holds, 3, false, 0, 0, Z.length, pSl Z) Qx 0 [(0, .int x0), (1, .int x1), (2, .int x2)] [] (Z, I, L, O) := by
  unfold f1_holds at h
  refine ok_iload_n dX1_holds_0 0 rfl ?_
  by_cases hc1 : x0 = 20
  · have h := (if_pos hc1).symm.trans h
    refine ok_lookEq (t := 90) (off := 89) dX1_holds_1 (by decide) hc1 (by decide) (by decide) ?_
    refine ok_iload_n dX1_holds_90 1 rfl ?_
    refine ok_if_ne (t := 98) dX1_holds_91 (by decide) (fun hc2 => ?_) (fun hc2 => ?_)
    · have h := (if_neg hc2).symm.trans h
      refine ok_iconst (v := 1) dX1_holds_98 (by decide) ?_
      refine ok_goto (t := 103) dX1_holds_99 (by decide) ?_
      cases h
      exact ok_iret dX1_holds_103 (hQ (Or.inr rfl))
    · have h := (if_pos hc2).symm.trans h
      refine ok_iload_n dX1_holds_94 2 rfl ?_
      refine ok_if_eq (t := 102) dX1_holds_95 (by decide) (fun hc3 => ?_) (fun hc3 => ?_)
      · have h := (if_pos hc3).symm.trans h
        refine ok_iconst (v := 0) dX1_holds_102 (by decide) ?_
        cases h
        exact ok_iret dX1_holds_103 (hQ (Or.inl rfl))
      · have h := (if_neg hc3).symm.trans h
        refine ok_iconst (v := 1) dX1_holds_98 (by decide) ?_
        refine ok_goto (t := 103) dX1_holds_99 (by decide) ?_
        cases h
        exact ok_iret dX1_holds_103 (hQ (Or.inr rfl))
  · have h := (if_neg hc1).symm.trans h
    by_cases hc4 : x0 = 21
    · have h := (if_pos hc4).symm.trans h
      refine ok_lookEq (t := 76) (off := 75) dX1_holds_1 (by decide) hc4 (by decide) (by decide) ?_
      refine ok_iload_n dX1_holds_76 1 rfl ?_
      refine ok_if_eq (t := 88) dX1_holds_77 (by decide) (fun hc5 => ?_) (fun hc5 => ?_)
      · have h := (if_pos hc5).symm.trans h
        refine ok_iconst (v := 0) dX1_holds_88 (by decide) ?_
        cases h
        exact ok_iret dX1_holds_89 (hQ (Or.inl rfl))
      · have h := (if_neg hc5).symm.trans h
        refine ok_iload_n dX1_holds_80 2 rfl ?_
        refine ok_if_eq (t := 88) dX1_holds_81 (by decide) (fun hc6 => ?_) (fun hc6 => ?_)
        · have h := (if_pos hc6).symm.trans h
          refine ok_iconst (v := 0) dX1_holds_88 (by decide) ?_
          cases h
          exact ok_iret dX1_holds_89 (hQ (Or.inl rfl))
        · have h := (if_neg hc6).symm.trans h
          refine ok_iconst (v := 1) dX1_holds_84 (by decide) ?_
          refine ok_goto (t := 89) dX1_holds_85 (by decide) ?_
          cases h
          exact ok_iret dX1_holds_89 (hQ (Or.inr rfl))
    · have h := (if_neg hc4).symm.trans h
      by_cases hc7 : x0 = 35
      · have h := (if_pos hc7).symm.trans h
        refine ok_lookEq (t := 137) (off := 136) dX1_holds_1 (by decide) hc7 (by decide) (by decide) ?_
        refine ok_iload_n dX1_holds_137 1 rfl ?_
        refine ok_iload_n dX1_holds_138 2 rfl ?_
        refine ok_icmp_eq (t := 146) dX1_holds_139 (by decide) (fun hc8 => ?_) (fun hc8 => ?_)
        · have h := (if_pos hc8).symm.trans h
          refine ok_iconst (v := 0) dX1_holds_146 (by decide) ?_
          cases h
          exact ok_iret dX1_holds_147 (hQ (Or.inl rfl))
        · have h := (if_neg hc8).symm.trans h
          refine ok_iconst (v := 1) dX1_holds_142 (by decide) ?_
          refine ok_goto (t := 147) dX1_holds_143 (by decide) ?_
          cases h
          exact ok_iret dX1_holds_147 (hQ (Or.inr rfl))
      · have h := (if_neg hc7).symm.trans h
        by_cases hc9 : x0 = 60
        · have h := (if_pos hc9).symm.trans h
          refine ok_lookEq (t := 104) (off := 103) dX1_holds_1 (by decide) hc9 (by decide) (by decide) ?_
          refine ok_iload_n dX1_holds_104 1 rfl ?_
          refine ok_iload_n dX1_holds_105 2 rfl ?_
          refine ok_icmp_ge (t := 113) dX1_holds_106 (by decide) (fun hc10 => ?_) (fun hc10 => ?_)
          · have h := (if_pos hc10).symm.trans h
            refine ok_iconst (v := 0) dX1_holds_113 (by decide) ?_
            cases h
            exact ok_iret dX1_holds_114 (hQ (Or.inl rfl))
          · have h := (if_neg hc10).symm.trans h
            refine ok_iconst (v := 1) dX1_holds_109 (by decide) ?_
            refine ok_goto (t := 114) dX1_holds_110 (by decide) ?_
            cases h
            exact ok_iret dX1_holds_114 (hQ (Or.inr rfl))
        · have h := (if_neg hc9).symm.trans h
          by_cases hc11 : x0 = 61
          · have h := (if_pos hc11).symm.trans h
            refine ok_lookEq (t := 126) (off := 125) dX1_holds_1 (by decide) hc11 (by decide) (by decide) ?_
            refine ok_iload_n dX1_holds_126 1 rfl ?_
            refine ok_iload_n dX1_holds_127 2 rfl ?_
            refine ok_icmp_ne (t := 135) dX1_holds_128 (by decide) (fun hc12 => ?_) (fun hc12 => ?_)
            · have h := (if_neg hc12).symm.trans h
              refine ok_iconst (v := 0) dX1_holds_135 (by decide) ?_
              cases h
              exact ok_iret dX1_holds_136 (hQ (Or.inl rfl))
            · have h := (if_pos hc12).symm.trans h
              refine ok_iconst (v := 1) dX1_holds_131 (by decide) ?_
              refine ok_goto (t := 136) dX1_holds_132 (by decide) ?_
              cases h
              exact ok_iret dX1_holds_136 (hQ (Or.inr rfl))
          · have h := (if_neg hc11).symm.trans h
            by_cases hc13 : x0 = 62
            · have h := (if_pos hc13).symm.trans h
              refine ok_lookEq (t := 115) (off := 114) dX1_holds_1 (by decide) hc13 (by decide) (by decide) ?_
              refine ok_iload_n dX1_holds_115 1 rfl ?_
              refine ok_iload_n dX1_holds_116 2 rfl ?_
              refine ok_icmp_le (t := 124) dX1_holds_117 (by decide) (fun hc14 => ?_) (fun hc14 => ?_)
              · have h := (if_pos hc14).symm.trans h
                refine ok_iconst (v := 0) dX1_holds_124 (by decide) ?_
                cases h
                exact ok_iret dX1_holds_125 (hQ (Or.inl rfl))
              · have h := (if_neg hc14).symm.trans h
                refine ok_iconst (v := 1) dX1_holds_120 (by decide) ?_
                refine ok_goto (t := 125) dX1_holds_121 (by decide) ?_
                cases h
                exact ok_iret dX1_holds_125 (hQ (Or.inr rfl))
            · have h := (if_neg hc13).symm.trans h
              by_cases hc15 : x0 = 316
              · have h := (if_pos hc15).symm.trans h
                refine ok_lookEq (t := 148) (off := 147) dX1_holds_1 (by decide) hc15 (by decide) (by decide) ?_
                refine ok_iload_n dX1_holds_148 1 rfl ?_
                refine ok_iload_n dX1_holds_149 2 rfl ?_
                refine ok_icmp_gt (t := 157) dX1_holds_150 (by decide) (fun hc16 => ?_) (fun hc16 => ?_)
                · have h := (if_pos hc16).symm.trans h
                  refine ok_iconst (v := 0) dX1_holds_157 (by decide) ?_
                  cases h
                  exact ok_iret dX1_holds_158 (hQ (Or.inl rfl))
                · have h := (if_neg hc16).symm.trans h
                  refine ok_iconst (v := 1) dX1_holds_153 (by decide) ?_
                  refine ok_goto (t := 158) dX1_holds_154 (by decide) ?_
                  cases h
                  exact ok_iret dX1_holds_158 (hQ (Or.inr rfl))
              · have h := (if_neg hc15).symm.trans h
                by_cases hc17 : x0 = 318
                · have h := (if_pos hc17).symm.trans h
                  refine ok_lookEq (t := 159) (off := 158) dX1_holds_1 (by decide) hc17 (by decide) (by decide) ?_
                  refine ok_iload_n dX1_holds_159 1 rfl ?_
                  refine ok_iload_n dX1_holds_160 2 rfl ?_
                  refine ok_icmp_lt (t := 168) dX1_holds_161 (by decide) (fun hc18 => ?_) (fun hc18 => ?_)
                  · have h := (if_pos hc18).symm.trans h
                    refine ok_iconst (v := 0) dX1_holds_168 (by decide) ?_
                    cases h
                    exact ok_iret dX1_holds_169 (hQ (Or.inl rfl))
                  · have h := (if_neg hc18).symm.trans h
                    refine ok_iconst (v := 1) dX1_holds_164 (by decide) ?_
                    refine ok_goto (t := 169) dX1_holds_165 (by decide) ?_
                    cases h
                    exact ok_iret dX1_holds_169 (hQ (Or.inr rfl))
                · have h := (if_neg hc17).symm.trans h
                  refine ok_look (t := 170) (off := 169) dX1_holds_1 (by decide) (by have n20 := neI hc1 (a := 20) (by decide); have n21 := neI hc4 (a := 21) (by decide); have n35 := neI hc7 (a := 35) (by decide); have n60 := neI hc9 (a := 60) (by decide); have n61 := neI hc11 (a := 61) (by decide); have n62 := neI hc13 (a := 62) (by decide); have n316 := neI hc15 (a := 316) (by decide); have n318 := neI hc17 (a := 318) (by decide); exact (lkc n20).trans ((lkc n21).trans ((lkc n35).trans ((lkc n60).trans ((lkc n61).trans ((lkc n62).trans ((lkc n316).trans ((lkc n318).trans (rfl))))))))) (by decide) ?_
                  refine ok_iconst (v := 0) dX1_holds_170 (by decide) ?_
                  cases h
                  exact ok_iret dX1_holds_171 (hQ (Or.inl rfl))
theorem k1_holds {g : pG} {Q : Option Value → pW → Prop} {Z : pZ} {I : (Nat → Nat → Int32)} {L : (Nat → Nat → Int64)} {O : (Nat → Nat → Option Nat)} {x0 : Int32} {x1 : Int32} {x2 : Int32} {res : Int32} (d : Nat) (hW : WT Z O) (h : f1_holds x0 x1 x2 = some res) (hQ : Q (some (.int res)) (Z, I, L, O)) : CT g (d + 2) m1_holds 0 0 [.int x0, .int x1, .int x2] (Z, I, L, O) Q :=
  ct_of_ok (mt := m1_holds) (ini := false) mo1_holds.2.2.2.2 (fun h => by cases h) (Nat.le_of_ble_eq_true rfl) (o1_holds d hW  h (fun hb => ⟨hb, hQ, rfl, rfl⟩))
theorem dX1_pop_0 : decode cX1_pop 0 = .ok (.aload_n 0, 1) := by decide +kernel
theorem dX1_pop_1 : decode cX1_pop 1 = .ok (.getfield 80, 3) := by decide +kernel
theorem dX1_pop_4 : decode cX1_pop 4 = .ok (.ifCond .le 15, 3) := by decide +kernel
theorem dX1_pop_7 : decode cX1_pop 7 = .ok (.aload_n 0, 1) := by decide +kernel
theorem dX1_pop_8 : decode cX1_pop 8 = .ok (.getfield 80, 3) := by decide +kernel
theorem dX1_pop_11 : decode cX1_pop 11 = .ok (.aload_n 0, 1) := by decide +kernel
theorem dX1_pop_12 : decode cX1_pop 12 = .ok (.getfield 9, 3) := by decide +kernel
theorem dX1_pop_15 : decode cX1_pop 15 = .ok (.arraylength, 1) := by decide +kernel
theorem dX1_pop_16 : decode cX1_pop 16 = .ok (.if_icmp .le 5, 3) := by decide +kernel
theorem dX1_pop_19 : decode cX1_pop 19 = .ok (.iconst 0, 1) := by decide +kernel
theorem dX1_pop_20 : decode cX1_pop 20 = .ok (.ireturn, 1) := by decide +kernel
theorem dX1_pop_21 : decode cX1_pop 21 = .ok (.aload_n 0, 1) := by decide +kernel
theorem dX1_pop_22 : decode cX1_pop 22 = .ok (.dup, 1) := by decide +kernel
theorem dX1_pop_23 : decode cX1_pop 23 = .ok (.getfield 80, 3) := by decide +kernel
theorem dX1_pop_26 : decode cX1_pop 26 = .ok (.iconst 1, 1) := by decide +kernel
theorem dX1_pop_27 : decode cX1_pop 27 = .ok (.isub, 1) := by decide +kernel
theorem dX1_pop_28 : decode cX1_pop 28 = .ok (.putfield 80, 3) := by decide +kernel
theorem dX1_pop_31 : decode cX1_pop 31 = .ok (.aload_n 0, 1) := by decide +kernel
theorem dX1_pop_32 : decode cX1_pop 32 = .ok (.getfield 9, 3) := by decide +kernel
theorem dX1_pop_35 : decode cX1_pop 35 = .ok (.aload_n 0, 1) := by decide +kernel
theorem dX1_pop_36 : decode cX1_pop 36 = .ok (.getfield 80, 3) := by decide +kernel
theorem dX1_pop_39 : decode cX1_pop 39 = .ok (.iaload, 1) := by decide +kernel
theorem dX1_pop_40 : decode cX1_pop 40 = .ok (.ireturn, 1) := by decide +kernel
def m1_pop : pMT := (yX1_pop, cX1_pop, 1, some .int)
theorem mo1_pop : mOK m1_pop 0 := ⟨tb_i 764 (by decide +kernel), wi_RX1, ⟨wn_RX1.1, wn_RX1.2, by decide +kernel⟩, by decide, plainFor_of_name wp_RX1⟩
theorem mv1_pop : mV m1_pop := ⟨tb_i 763 (by decide +kernel), tb_p 34 (by decide +kernel)⟩
def f1_pop (I : (Nat → Nat → Int32)) (O : (Nat → Nat → Option Nat)) (a0 : Nat) : Option (Int32 × (Nat → Nat → Int32)) := (if (I a0 2) ≤ 0 then some ((0 : Int32), I) else (if (I a0 2) ≤ (64 : Int32) then bl (sI I a0 2 ((I a0 2) - 1)) fun I4 => (if (I4 a0 2) < 0 ∨ 64 ≤ (I4 a0 2).toNatClampNeg then none else some ((I4 (rO O a0 0) (I4 a0 2).toNatClampNeg), I4)) else some ((0 : Int32), I)))
set_option maxHeartbeats 4000000 in
set_option maxRecDepth 20000 in
theorem o1_pop {g : pG} {Qx : Option Value → pW → Prop} {Z : pZ} {I : (Nat → Nat → Int32)} {L : (Nat → Nat → Int64)} {O : (Nat → Nat → Option Nat)} {a0 : Nat} {res : Int32 × (Nat → Nat → Int32)} (d : Nat) (hW : WT Z O) (hZ0 : Z[a0]? = some (1, 3)) (h : f1_pop I O a0 = some res) (hQ : Qx (some (.int res.1)) (Z, res.2, L, O)) : Ok g (d + 2, RX1, cX1_pop, 1, false, 0, 0, Z.length, pSl Z) Qx 0 [(0, .ref a0)] [] (Z, I, L, O) := by
  unfold f1_pop at h
  refine ok_aload_n dX1_pop_0 0 rfl ?_
  refine ok_getI (ci := 1) (k := 2) dX1_pop_1 flRX1_80 rfl hZ0 (by decide) ?_
  refine ok_if_le (t := 19) dX1_pop_4 (by decide) (fun hc1 => ?_) (fun hc1 => ?_)
  · have h := (if_pos hc1).symm.trans h
    refine ok_iconst (v := 0) dX1_pop_19 (by decide) ?_
    cases h
    exact ok_iret dX1_pop_20 hQ
  · have h := (if_neg hc1).symm.trans h
    refine ok_aload_n dX1_pop_7 0 rfl ?_
    refine ok_getI (ci := 1) (k := 2) dX1_pop_8 flRX1_80 rfl hZ0 (by decide) ?_
    refine ok_aload_n dX1_pop_11 0 rfl ?_
    have hT2 : Z[(rO O a0 0)]? = some (13, 64) := (wt_f (ci := 1) (k := 0) hW hZ0 rfl).2
    refine ok_getR (ci := 1) (k := 0) dX1_pop_12 flRX1_9 rfl hW hZ0 (by decide) ?_
    refine ok_alen (v := 64) dX1_pop_15 hT2 (Or.inl rfl) (by decide) ?_
    refine ok_icmp_le (t := 21) dX1_pop_16 (by decide) (fun hc3 => ?_) (fun hc3 => ?_)
    · have h := (if_pos hc3).symm.trans h
      refine ok_aload_n dX1_pop_21 0 rfl ?_
      refine ok_dup dX1_pop_22 rfl ?_
      refine ok_getI (ci := 1) (k := 2) dX1_pop_23 flRX1_80 rfl hZ0 (by decide) ?_
      refine ok_iconst (v := 1) dX1_pop_26 (by decide) ?_
      refine ok_isub dX1_pop_27 ?_
      obtain ⟨I4, eI4, h⟩ := blE h
      refine ok_putI2 (ci := 1) (k := 2) dX1_pop_28 flRX1_80 rfl (Or.inl rfl) hZ0 (by decide) eI4 ?_
      refine ok_aload_n dX1_pop_31 0 rfl ?_
      refine ok_getR (ci := 1) (k := 0) dX1_pop_32 flRX1_9 rfl hW hZ0 (by decide) ?_
      refine ok_aload_n dX1_pop_35 0 rfl ?_
      refine ok_getI (ci := 1) (k := 2) dX1_pop_36 flRX1_80 rfl hZ0 (by decide) ?_
      obtain ⟨hg5, h⟩ := gd h
      refine ok_iald2 (N := (I4 a0 2).toNatClampNeg) dX1_pop_39 hT2 hg5 rfl ?_
      cases h
      exact ok_iret dX1_pop_40 hQ
    · have h := (if_neg hc3).symm.trans h
      refine ok_iconst (v := 0) dX1_pop_19 (by decide) ?_
      cases h
      exact ok_iret dX1_pop_20 hQ
theorem k1_pop {g : pG} {Q : Option Value → pW → Prop} {Z : pZ} {I : (Nat → Nat → Int32)} {L : (Nat → Nat → Int64)} {O : (Nat → Nat → Option Nat)} {a0 : Nat} {res : Int32 × (Nat → Nat → Int32)} (d : Nat) (hW : WT Z O) (hZ0 : Z[a0]? = some (1, 3)) (h : f1_pop I O a0 = some res) (hQ : Q (some (.int res.1)) (Z, res.2, L, O)) : CT g (d + 2) m1_pop 0 0 [.ref a0] (Z, I, L, O) Q :=
  ct_of_ok (mt := m1_pop) (ini := false) mo1_pop.2.2.2.2 (fun h => by cases h) (Nat.le_of_ble_eq_true rfl) (o1_pop d hW hZ0 h ⟨trivial, hQ, rfl, rfl⟩)
theorem dX1_push_0 : decode cX1_push 0 = .ok (.aload_n 0, 1) := by decide +kernel
theorem dX1_push_1 : decode cX1_push 1 = .ok (.getfield 80, 3) := by decide +kernel
theorem dX1_push_4 : decode cX1_push 4 = .ok (.ifCond .lt 35, 3) := by decide +kernel
theorem dX1_push_7 : decode cX1_push 7 = .ok (.aload_n 0, 1) := by decide +kernel
theorem dX1_push_8 : decode cX1_push 8 = .ok (.getfield 80, 3) := by decide +kernel
theorem dX1_push_11 : decode cX1_push 11 = .ok (.aload_n 0, 1) := by decide +kernel
theorem dX1_push_12 : decode cX1_push 12 = .ok (.getfield 9, 3) := by decide +kernel
theorem dX1_push_15 : decode cX1_push 15 = .ok (.arraylength, 1) := by decide +kernel
theorem dX1_push_16 : decode cX1_push 16 = .ok (.if_icmp .ge 23, 3) := by decide +kernel
theorem dX1_push_19 : decode cX1_push 19 = .ok (.aload_n 0, 1) := by decide +kernel
theorem dX1_push_20 : decode cX1_push 20 = .ok (.getfield 9, 3) := by decide +kernel
theorem dX1_push_23 : decode cX1_push 23 = .ok (.aload_n 0, 1) := by decide +kernel
theorem dX1_push_24 : decode cX1_push 24 = .ok (.getfield 80, 3) := by decide +kernel
theorem dX1_push_27 : decode cX1_push 27 = .ok (.iload_n 1, 1) := by decide +kernel
theorem dX1_push_28 : decode cX1_push 28 = .ok (.iastore, 1) := by decide +kernel
theorem dX1_push_29 : decode cX1_push 29 = .ok (.aload_n 0, 1) := by decide +kernel
theorem dX1_push_30 : decode cX1_push 30 = .ok (.dup, 1) := by decide +kernel
theorem dX1_push_31 : decode cX1_push 31 = .ok (.getfield 80, 3) := by decide +kernel
theorem dX1_push_34 : decode cX1_push 34 = .ok (.iconst 1, 1) := by decide +kernel
theorem dX1_push_35 : decode cX1_push 35 = .ok (.iadd, 1) := by decide +kernel
theorem dX1_push_36 : decode cX1_push 36 = .ok (.putfield 80, 3) := by decide +kernel
theorem dX1_push_39 : decode cX1_push 39 = .ok (.return_, 1) := by decide +kernel
def m1_push : pMT := (yX1_push, cX1_push, 2, none)
theorem mo1_push : mOK m1_push 1 := ⟨tb_i 760 (by decide +kernel), wi_RX1, ⟨wn_RX1.1, wn_RX1.2, by decide +kernel⟩, by decide, plainFor_of_name wp_RX1⟩
theorem mv1_push : mV m1_push := ⟨tb_i 759 (by decide +kernel), tb_p 33 (by decide +kernel)⟩
def f1_push (I : (Nat → Nat → Int32)) (O : (Nat → Nat → Option Nat)) (a0 : Nat) (x1 : Int32) : Option ((Nat → Nat → Int32)) := (if (I a0 2) < 0 then some (I) else (if (64 : Int32) ≤ (I a0 2) then some (I) else (if (I a0 2) < 0 ∨ 64 ≤ (I a0 2).toNatClampNeg then none else bl (sI I (rO O a0 0) (I a0 2).toNatClampNeg x1) fun I5 => bl (sI I5 a0 2 ((I5 a0 2) + 1)) fun I6 => some (I6))))
set_option maxHeartbeats 4000000 in
set_option maxRecDepth 20000 in
theorem o1_push {g : pG} {Qx : Option Value → pW → Prop} {Z : pZ} {I : (Nat → Nat → Int32)} {L : (Nat → Nat → Int64)} {O : (Nat → Nat → Option Nat)} {a0 : Nat} {x1 : Int32} {res : (Nat → Nat → Int32)} (d : Nat) (hW : WT Z O) (hZ0 : Z[a0]? = some (1, 3)) (h : f1_push I O a0 x1 = some res) (hQ : Qx none (Z, res, L, O)) : Ok g (d + 2, RX1, cX1_push, 2, false, 0, 0, Z.length, pSl Z) Qx 0 [(0, .ref a0), (1, .int x1)] [] (Z, I, L, O) := by
  unfold f1_push at h
  refine ok_aload_n dX1_push_0 0 rfl ?_
  refine ok_getI (ci := 1) (k := 2) dX1_push_1 flRX1_80 rfl hZ0 (by decide) ?_
  refine ok_if_lt (t := 39) dX1_push_4 (by decide) (fun hc1 => ?_) (fun hc1 => ?_)
  · have h := (if_pos hc1).symm.trans h
    cases h
    exact ok_vret dX1_push_39 hQ
  · have h := (if_neg hc1).symm.trans h
    refine ok_aload_n dX1_push_7 0 rfl ?_
    refine ok_getI (ci := 1) (k := 2) dX1_push_8 flRX1_80 rfl hZ0 (by decide) ?_
    refine ok_aload_n dX1_push_11 0 rfl ?_
    have hT2 : Z[(rO O a0 0)]? = some (13, 64) := (wt_f (ci := 1) (k := 0) hW hZ0 rfl).2
    refine ok_getR (ci := 1) (k := 0) dX1_push_12 flRX1_9 rfl hW hZ0 (by decide) ?_
    refine ok_alen (v := 64) dX1_push_15 hT2 (Or.inl rfl) (by decide) ?_
    refine ok_icmp_ge (t := 39) dX1_push_16 (by decide) (fun hc3 => ?_) (fun hc3 => ?_)
    · have h := (if_pos hc3).symm.trans h
      cases h
      exact ok_vret dX1_push_39 hQ
    · have h := (if_neg hc3).symm.trans h
      refine ok_aload_n dX1_push_19 0 rfl ?_
      refine ok_getR (ci := 1) (k := 0) dX1_push_20 flRX1_9 rfl hW hZ0 (by decide) ?_
      refine ok_aload_n dX1_push_23 0 rfl ?_
      refine ok_getI (ci := 1) (k := 2) dX1_push_24 flRX1_80 rfl hZ0 (by decide) ?_
      refine ok_iload_n dX1_push_27 1 rfl ?_
      obtain ⟨hg4, h⟩ := gd h
      obtain ⟨I5, eI5, h⟩ := blE h
      refine ok_iast3 dX1_push_28 hT2 hg4 rfl eI5 ?_
      refine ok_aload_n dX1_push_29 0 rfl ?_
      refine ok_dup dX1_push_30 rfl ?_
      refine ok_getI (ci := 1) (k := 2) dX1_push_31 flRX1_80 rfl hZ0 (by decide) ?_
      refine ok_iconst (v := 1) dX1_push_34 (by decide) ?_
      refine ok_iadd dX1_push_35 ?_
      obtain ⟨I6, eI6, h⟩ := blE h
      refine ok_putI2 (ci := 1) (k := 2) dX1_push_36 flRX1_80 rfl (Or.inl rfl) hZ0 (by decide) eI6 ?_
      cases h
      exact ok_vret dX1_push_39 hQ
theorem k1_push {g : pG} {Q : Option Value → pW → Prop} {Z : pZ} {I : (Nat → Nat → Int32)} {L : (Nat → Nat → Int64)} {O : (Nat → Nat → Option Nat)} {a0 : Nat} {x1 : Int32} {res : (Nat → Nat → Int32)} (d : Nat) (hW : WT Z O) (hZ0 : Z[a0]? = some (1, 3)) (h : f1_push I O a0 x1 = some res) (hQ : Q none (Z, res, L, O)) : CT g (d + 2) m1_push 0 0 [.ref a0, .int x1] (Z, I, L, O) Q :=
  ct_of_ok (mt := m1_push) (ini := false) mo1_push.2.2.2.2 (fun h => by cases h) (Nat.le_of_ble_eq_true rfl) (o1_push d hW hZ0 h ⟨trivial, hQ, rfl, rfl⟩)
theorem dX1_reckon_0 : decode cX1_reckon 0 = .ok (.iload_n 1, 1) := by decide +kernel
theorem dX1_reckon_1 : decode cX1_reckon 1 = .ok (.i2l, 1) := by decide +kernel
theorem dX1_reckon_2 : decode cX1_reckon 2 = .ok (.iload_n 2, 1) := by decide +kernel
theorem dX1_reckon_3 : decode cX1_reckon 3 = .ok (.i2l, 1) := by decide +kernel
theorem dX1_reckon_4 : decode cX1_reckon 4 = .ok (.ladd, 1) := by decide +kernel
theorem dX1_reckon_5 : decode cX1_reckon 5 = .ok (.lstore_n 3, 1) := by decide +kernel
theorem dX1_reckon_6 : decode cX1_reckon 6 = .ok (.iload_n 0, 1) := by decide +kernel
theorem dX1_reckon_7 : decode cX1_reckon 7 = .ok (.bipush 45, 2) := by decide +kernel
theorem dX1_reckon_9 : decode cX1_reckon 9 = .ok (.if_icmp .ne 12, 3) := by decide +kernel
theorem dX1_reckon_12 : decode cX1_reckon 12 = .ok (.iload_n 1, 1) := by decide +kernel
theorem dX1_reckon_13 : decode cX1_reckon 13 = .ok (.i2l, 1) := by decide +kernel
theorem dX1_reckon_14 : decode cX1_reckon 14 = .ok (.iload_n 2, 1) := by decide +kernel
theorem dX1_reckon_15 : decode cX1_reckon 15 = .ok (.i2l, 1) := by decide +kernel
theorem dX1_reckon_16 : decode cX1_reckon 16 = .ok (.lsub, 1) := by decide +kernel
theorem dX1_reckon_17 : decode cX1_reckon 17 = .ok (.lstore_n 3, 1) := by decide +kernel
theorem dX1_reckon_18 : decode cX1_reckon 18 = .ok (.goto 37, 3) := by decide +kernel
theorem dX1_reckon_21 : decode cX1_reckon 21 = .ok (.iload_n 0, 1) := by decide +kernel
theorem dX1_reckon_22 : decode cX1_reckon 22 = .ok (.bipush 42, 2) := by decide +kernel
theorem dX1_reckon_24 : decode cX1_reckon 24 = .ok (.if_icmp .ne 12, 3) := by decide +kernel
theorem dX1_reckon_27 : decode cX1_reckon 27 = .ok (.iload_n 1, 1) := by decide +kernel
theorem dX1_reckon_28 : decode cX1_reckon 28 = .ok (.i2l, 1) := by decide +kernel
theorem dX1_reckon_29 : decode cX1_reckon 29 = .ok (.iload_n 2, 1) := by decide +kernel
theorem dX1_reckon_30 : decode cX1_reckon 30 = .ok (.i2l, 1) := by decide +kernel
theorem dX1_reckon_31 : decode cX1_reckon 31 = .ok (.lmul, 1) := by decide +kernel
theorem dX1_reckon_32 : decode cX1_reckon 32 = .ok (.lstore_n 3, 1) := by decide +kernel
theorem dX1_reckon_33 : decode cX1_reckon 33 = .ok (.goto 22, 3) := by decide +kernel
theorem dX1_reckon_36 : decode cX1_reckon 36 = .ok (.iload_n 0, 1) := by decide +kernel
theorem dX1_reckon_37 : decode cX1_reckon 37 = .ok (.bipush 47, 2) := by decide +kernel
theorem dX1_reckon_39 : decode cX1_reckon 39 = .ok (.if_icmp .ne 16, 3) := by decide +kernel
theorem dX1_reckon_42 : decode cX1_reckon 42 = .ok (.iload_n 2, 1) := by decide +kernel
theorem dX1_reckon_43 : decode cX1_reckon 43 = .ok (.ifCond .ne 7, 3) := by decide +kernel
theorem dX1_reckon_46 : decode cX1_reckon 46 = .ok (.lconst 0, 1) := by decide +kernel
theorem dX1_reckon_47 : decode cX1_reckon 47 = .ok (.goto 7, 3) := by decide +kernel
theorem dX1_reckon_50 : decode cX1_reckon 50 = .ok (.iload_n 1, 1) := by decide +kernel
theorem dX1_reckon_51 : decode cX1_reckon 51 = .ok (.iload_n 2, 1) := by decide +kernel
theorem dX1_reckon_52 : decode cX1_reckon 52 = .ok (.idiv, 1) := by decide +kernel
theorem dX1_reckon_53 : decode cX1_reckon 53 = .ok (.i2l, 1) := by decide +kernel
theorem dX1_reckon_54 : decode cX1_reckon 54 = .ok (.lstore_n 3, 1) := by decide +kernel
theorem dX1_reckon_55 : decode cX1_reckon 55 = .ok (.ldc2_w 111, 3) := by decide +kernel
theorem dX1_reckon_58 : decode cX1_reckon 58 = .ok (.ldc2_w 113, 3) := by decide +kernel
theorem dX1_reckon_61 : decode cX1_reckon 61 = .ok (.lload_n 3, 1) := by decide +kernel
theorem dX1_reckon_62 : decode cX1_reckon 62 = .ok (.invokestatic 115, 3) := by decide +kernel
theorem dX1_reckon_65 : decode cX1_reckon 65 = .ok (.invokestatic 118, 3) := by decide +kernel
theorem dX1_reckon_68 : decode cX1_reckon 68 = .ok (.l2i, 1) := by decide +kernel
theorem dX1_reckon_69 : decode cX1_reckon 69 = .ok (.ireturn, 1) := by decide +kernel
def m1_reckon : pMT := (yX1_reckon, cX1_reckon, 5, some .int)
theorem mo1_reckon : mOK m1_reckon 3 := ⟨tb_i 777 (by decide +kernel), wi_RX1, ⟨wn_RX1.1, wn_RX1.2, by decide +kernel⟩, by decide, plainFor_of_name wp_RX1⟩
theorem mv1_reckon : mS m1_reckon := (tb_i 776 (by decide +kernel) : Cond.static yX1_reckon ∈ lw_tbl)
def f1_reckon (x0 : Int32) (x1 : Int32) (x2 : Int32) : Option (Int32) := bl ((x1.toInt64 + x2.toInt64) : Int64) fun z1 => (if x0 = (45 : Int32) then bl ((x1.toInt64 - x2.toInt64) : Int64) fun z24 => (fJ9_min_f86c9 (1000000 : Int64) z24).bind fun r25 => (fJ9_max_f86c9 (-1000000 : Int64) r25).bind fun r27 => some (r27.toInt32) else (if x0 = (42 : Int32) then bl ((x1.toInt64 * x2.toInt64) : Int64) fun z19 => (fJ9_min_f86c9 (1000000 : Int64) z19).bind fun r20 => (fJ9_max_f86c9 (-1000000 : Int64) r20).bind fun r22 => some (r22.toInt32) else (if x0 = (47 : Int32) then (if x2 = 0 then (fJ9_min_f86c9 (1000000 : Int64) (0 : Int64)).bind fun r15 => (fJ9_max_f86c9 (-1000000 : Int64) r15).bind fun r17 => some (r17.toInt32) else if x2 = 0 then none else (fJ9_min_f86c9 (1000000 : Int64) (x1 / x2).toInt64).bind fun r11 => (fJ9_max_f86c9 (-1000000 : Int64) r11).bind fun r13 => some (r13.toInt32)) else (fJ9_min_f86c9 (1000000 : Int64) z1).bind fun r5 => (fJ9_max_f86c9 (-1000000 : Int64) r5).bind fun r7 => some (r7.toInt32))))
set_option maxHeartbeats 4000000 in
set_option maxRecDepth 20000 in
theorem o1_reckon {g : pG} {Qx : Option Value → pW → Prop} {Z : pZ} {I : (Nat → Nat → Int32)} {L : (Nat → Nat → Int64)} {O : (Nat → Nat → Option Nat)} {x0 : Int32} {x1 : Int32} {x2 : Int32} {res : Int32} (d : Nat) (hW : WT Z O) (h : f1_reckon x0 x1 x2 = some res) (hQ : Qx (some (.int res)) (Z, I, L, O)) : Ok g (d + 3, RX1, cX1_reckon, 5, false, 0, 0, Z.length, pSl Z) Qx 0 [(0, .int x0), (1, .int x1), (2, .int x2)] [] (Z, I, L, O) := by
  unfold f1_reckon at h
  refine ok_iload_n dX1_reckon_0 1 rfl ?_
  refine ok_i2l dX1_reckon_1 ?_
  refine ok_iload_n dX1_reckon_2 2 rfl ?_
  refine ok_i2l dX1_reckon_3 ?_
  refine ok_ladd dX1_reckon_4 ?_
  obtain ⟨z1, ez1, h⟩ := blE h
  refine ok_nmJ ez1 ?_
  refine ok_lstore_n (l' := [(3, .long z1), (0, .int x0), (1, .int x1), (2, .int x2)]) dX1_reckon_5 rfl (Nat.le_of_ble_eq_true rfl) rfl ?_
  refine ok_iload_n dX1_reckon_6 1 rfl ?_
  refine ok_bipush (v := 45) dX1_reckon_7 (by decide) ?_
  refine ok_icmp_ne (t := 21) dX1_reckon_9 (by decide) (fun hc2 => ?_) (fun hc2 => ?_)
  · have h := (if_neg hc2).symm.trans h
    refine ok_iload_n dX1_reckon_21 1 rfl ?_
    refine ok_bipush (v := 42) dX1_reckon_22 (by decide) ?_
    refine ok_icmp_ne (t := 36) dX1_reckon_24 (by decide) (fun hc3 => ?_) (fun hc3 => ?_)
    · have h := (if_neg hc3).symm.trans h
      refine ok_iload_n dX1_reckon_36 1 rfl ?_
      refine ok_bipush (v := 47) dX1_reckon_37 (by decide) ?_
      refine ok_icmp_ne (t := 55) dX1_reckon_39 (by decide) (fun hc4 => ?_) (fun hc4 => ?_)
      · have h := (if_neg hc4).symm.trans h
        refine ok_ldc2 (v := (-1000000)) dX1_reckon_55 (tb_i (c := Cond.constantLong RX1 111 (-1000000)) 778 (by decide +kernel)) ?_
        refine ok_ldc2 (v := 1000000) dX1_reckon_58 (tb_i (c := Cond.constantLong RX1 113 (1000000)) 779 (by decide +kernel)) ?_
        refine ok_lload_n dX1_reckon_61 0 rfl ?_
        obtain ⟨r5, hr6, h⟩ := bd h
        refine ok_callS (d := ((d + 0) + 2)) (mt := mJ9_min_f86c9) (mc := 0) (ms := 0) (As := [.long 1000000, .long z1]) (r := [.long (-1000000)]) dX1_reckon_62 moJ9_min_f86c9 mvJ9_min_f86c9 lkRX1_115 rfl rfl (Nat.le_of_ble_eq_true rfl) (by show _ + 1 ≤ d + _; omega) (Nat.le_refl _) (Nat.le_refl _) (pRt_mono ?_)
        refine kJ9_min_f86c9 (d + 0) hW  hr6 ?_
        intro _
        show Ok g _ Qx 65 [(3, .long z1), (0, .int x0), (1, .int x1), (2, .int x2)] [.long r5, .long (-1000000)] (Z, I, L, O)
        obtain ⟨r7, hr8, h⟩ := bd h
        refine ok_callS (d := ((d + 0) + 2)) (mt := mJ9_max_f86c9) (mc := 0) (ms := 0) (As := [.long (-1000000), .long r5]) (r := []) dX1_reckon_65 moJ9_max_f86c9 mvJ9_max_f86c9 lkRX1_118 rfl rfl (Nat.le_of_ble_eq_true rfl) (by show _ + 1 ≤ d + _; omega) (Nat.le_refl _) (Nat.le_refl _) (pRt_mono ?_)
        refine kJ9_max_f86c9 (d + 0) hW  hr8 ?_
        intro _
        show Ok g _ Qx 68 [(3, .long z1), (0, .int x0), (1, .int x1), (2, .int x2)] [.long r7] (Z, I, L, O)
        refine ok_l2i dX1_reckon_68 ?_
        cases h
        exact ok_iret dX1_reckon_69 hQ
      · have h := (if_pos hc4).symm.trans h
        refine ok_iload_n dX1_reckon_42 3 rfl ?_
        refine ok_if_ne (t := 50) dX1_reckon_43 (by decide) (fun hc9 => ?_) (fun hc9 => ?_)
        · have h := (if_neg hc9).symm.trans h
          refine ok_iload_n dX1_reckon_50 2 rfl ?_
          refine ok_iload_n dX1_reckon_51 3 rfl ?_
          obtain ⟨hg10, h⟩ := gd h
          refine ok_idiv dX1_reckon_52 hg10 ?_
          refine ok_i2l dX1_reckon_53 ?_
          refine ok_lstore_n (l' := [(3, .long (x1 / x2).toInt64), (0, .int x0), (1, .int x1), (2, .int x2)]) dX1_reckon_54 rfl (Nat.le_of_ble_eq_true rfl) rfl ?_
          refine ok_ldc2 (v := (-1000000)) dX1_reckon_55 (tb_i (c := Cond.constantLong RX1 111 (-1000000)) 778 (by decide +kernel)) ?_
          refine ok_ldc2 (v := 1000000) dX1_reckon_58 (tb_i (c := Cond.constantLong RX1 113 (1000000)) 779 (by decide +kernel)) ?_
          refine ok_lload_n dX1_reckon_61 0 rfl ?_
          obtain ⟨r11, hr12, h⟩ := bd h
          refine ok_callS (d := ((d + 0) + 2)) (mt := mJ9_min_f86c9) (mc := 0) (ms := 0) (As := [.long 1000000, .long (x1 / x2).toInt64]) (r := [.long (-1000000)]) dX1_reckon_62 moJ9_min_f86c9 mvJ9_min_f86c9 lkRX1_115 rfl rfl (Nat.le_of_ble_eq_true rfl) (by show _ + 1 ≤ d + _; omega) (Nat.le_refl _) (Nat.le_refl _) (pRt_mono ?_)
          refine kJ9_min_f86c9 (d + 0) hW  hr12 ?_
          intro _
          show Ok g _ Qx 65 [(3, .long (x1 / x2).toInt64), (0, .int x0), (1, .int x1), (2, .int x2)] [.long r11, .long (-1000000)] (Z, I, L, O)
          obtain ⟨r13, hr14, h⟩ := bd h
          refine ok_callS (d := ((d + 0) + 2)) (mt := mJ9_max_f86c9) (mc := 0) (ms := 0) (As := [.long (-1000000), .long r11]) (r := []) dX1_reckon_65 moJ9_max_f86c9 mvJ9_max_f86c9 lkRX1_118 rfl rfl (Nat.le_of_ble_eq_true rfl) (by show _ + 1 ≤ d + _; omega) (Nat.le_refl _) (Nat.le_refl _) (pRt_mono ?_)
          refine kJ9_max_f86c9 (d + 0) hW  hr14 ?_
          intro _
          show Ok g _ Qx 68 [(3, .long (x1 / x2).toInt64), (0, .int x0), (1, .int x1), (2, .int x2)] [.long r13] (Z, I, L, O)
          refine ok_l2i dX1_reckon_68 ?_
          cases h
          exact ok_iret dX1_reckon_69 hQ
        · have h := (if_pos hc9).symm.trans h
          refine ok_lconst (v := 0) dX1_reckon_46 (by decide) ?_
          refine ok_goto (t := 54) dX1_reckon_47 (by decide) ?_
          refine ok_lstore_n (l' := [(3, .long 0), (0, .int x0), (1, .int x1), (2, .int x2)]) dX1_reckon_54 rfl (Nat.le_of_ble_eq_true rfl) rfl ?_
          refine ok_ldc2 (v := (-1000000)) dX1_reckon_55 (tb_i (c := Cond.constantLong RX1 111 (-1000000)) 778 (by decide +kernel)) ?_
          refine ok_ldc2 (v := 1000000) dX1_reckon_58 (tb_i (c := Cond.constantLong RX1 113 (1000000)) 779 (by decide +kernel)) ?_
          refine ok_lload_n dX1_reckon_61 0 rfl ?_
          obtain ⟨r15, hr16, h⟩ := bd h
          refine ok_callS (d := ((d + 0) + 2)) (mt := mJ9_min_f86c9) (mc := 0) (ms := 0) (As := [.long 1000000, .long 0]) (r := [.long (-1000000)]) dX1_reckon_62 moJ9_min_f86c9 mvJ9_min_f86c9 lkRX1_115 rfl rfl (Nat.le_of_ble_eq_true rfl) (by show _ + 1 ≤ d + _; omega) (Nat.le_refl _) (Nat.le_refl _) (pRt_mono ?_)
          refine kJ9_min_f86c9 (d + 0) hW  hr16 ?_
          intro _
          show Ok g _ Qx 65 [(3, .long 0), (0, .int x0), (1, .int x1), (2, .int x2)] [.long r15, .long (-1000000)] (Z, I, L, O)
          obtain ⟨r17, hr18, h⟩ := bd h
          refine ok_callS (d := ((d + 0) + 2)) (mt := mJ9_max_f86c9) (mc := 0) (ms := 0) (As := [.long (-1000000), .long r15]) (r := []) dX1_reckon_65 moJ9_max_f86c9 mvJ9_max_f86c9 lkRX1_118 rfl rfl (Nat.le_of_ble_eq_true rfl) (by show _ + 1 ≤ d + _; omega) (Nat.le_refl _) (Nat.le_refl _) (pRt_mono ?_)
          refine kJ9_max_f86c9 (d + 0) hW  hr18 ?_
          intro _
          show Ok g _ Qx 68 [(3, .long 0), (0, .int x0), (1, .int x1), (2, .int x2)] [.long r17] (Z, I, L, O)
          refine ok_l2i dX1_reckon_68 ?_
          cases h
          exact ok_iret dX1_reckon_69 hQ
    · have h := (if_pos hc3).symm.trans h
      refine ok_iload_n dX1_reckon_27 2 rfl ?_
      refine ok_i2l dX1_reckon_28 ?_
      refine ok_iload_n dX1_reckon_29 3 rfl ?_
      refine ok_i2l dX1_reckon_30 ?_
      refine ok_lmul dX1_reckon_31 ?_
      obtain ⟨z19, ez19, h⟩ := blE h
      refine ok_nmJ ez19 ?_
      refine ok_lstore_n (l' := [(3, .long z19), (0, .int x0), (1, .int x1), (2, .int x2)]) dX1_reckon_32 rfl (Nat.le_of_ble_eq_true rfl) rfl ?_
      refine ok_goto (t := 55) dX1_reckon_33 (by decide) ?_
      refine ok_ldc2 (v := (-1000000)) dX1_reckon_55 (tb_i (c := Cond.constantLong RX1 111 (-1000000)) 778 (by decide +kernel)) ?_
      refine ok_ldc2 (v := 1000000) dX1_reckon_58 (tb_i (c := Cond.constantLong RX1 113 (1000000)) 779 (by decide +kernel)) ?_
      refine ok_lload_n dX1_reckon_61 0 rfl ?_
      obtain ⟨r20, hr21, h⟩ := bd h
      refine ok_callS (d := ((d + 0) + 2)) (mt := mJ9_min_f86c9) (mc := 0) (ms := 0) (As := [.long 1000000, .long z19]) (r := [.long (-1000000)]) dX1_reckon_62 moJ9_min_f86c9 mvJ9_min_f86c9 lkRX1_115 rfl rfl (Nat.le_of_ble_eq_true rfl) (by show _ + 1 ≤ d + _; omega) (Nat.le_refl _) (Nat.le_refl _) (pRt_mono ?_)
      refine kJ9_min_f86c9 (d + 0) hW  hr21 ?_
      intro _
      show Ok g _ Qx 65 [(3, .long z19), (0, .int x0), (1, .int x1), (2, .int x2)] [.long r20, .long (-1000000)] (Z, I, L, O)
      obtain ⟨r22, hr23, h⟩ := bd h
      refine ok_callS (d := ((d + 0) + 2)) (mt := mJ9_max_f86c9) (mc := 0) (ms := 0) (As := [.long (-1000000), .long r20]) (r := []) dX1_reckon_65 moJ9_max_f86c9 mvJ9_max_f86c9 lkRX1_118 rfl rfl (Nat.le_of_ble_eq_true rfl) (by show _ + 1 ≤ d + _; omega) (Nat.le_refl _) (Nat.le_refl _) (pRt_mono ?_)
      refine kJ9_max_f86c9 (d + 0) hW  hr23 ?_
      intro _
      show Ok g _ Qx 68 [(3, .long z19), (0, .int x0), (1, .int x1), (2, .int x2)] [.long r22] (Z, I, L, O)
      refine ok_l2i dX1_reckon_68 ?_
      cases h
      exact ok_iret dX1_reckon_69 hQ
  · have h := (if_pos hc2).symm.trans h
    refine ok_iload_n dX1_reckon_12 2 rfl ?_
    refine ok_i2l dX1_reckon_13 ?_
    refine ok_iload_n dX1_reckon_14 3 rfl ?_
    refine ok_i2l dX1_reckon_15 ?_
    refine ok_lsub dX1_reckon_16 ?_
    obtain ⟨z24, ez24, h⟩ := blE h
    refine ok_nmJ ez24 ?_
    refine ok_lstore_n (l' := [(3, .long z24), (0, .int x0), (1, .int x1), (2, .int x2)]) dX1_reckon_17 rfl (Nat.le_of_ble_eq_true rfl) rfl ?_
    refine ok_goto (t := 55) dX1_reckon_18 (by decide) ?_
    refine ok_ldc2 (v := (-1000000)) dX1_reckon_55 (tb_i (c := Cond.constantLong RX1 111 (-1000000)) 778 (by decide +kernel)) ?_
    refine ok_ldc2 (v := 1000000) dX1_reckon_58 (tb_i (c := Cond.constantLong RX1 113 (1000000)) 779 (by decide +kernel)) ?_
    refine ok_lload_n dX1_reckon_61 0 rfl ?_
    obtain ⟨r25, hr26, h⟩ := bd h
    refine ok_callS (d := ((d + 0) + 2)) (mt := mJ9_min_f86c9) (mc := 0) (ms := 0) (As := [.long 1000000, .long z24]) (r := [.long (-1000000)]) dX1_reckon_62 moJ9_min_f86c9 mvJ9_min_f86c9 lkRX1_115 rfl rfl (Nat.le_of_ble_eq_true rfl) (by show _ + 1 ≤ d + _; omega) (Nat.le_refl _) (Nat.le_refl _) (pRt_mono ?_)
    refine kJ9_min_f86c9 (d + 0) hW  hr26 ?_
    intro _
    show Ok g _ Qx 65 [(3, .long z24), (0, .int x0), (1, .int x1), (2, .int x2)] [.long r25, .long (-1000000)] (Z, I, L, O)
    obtain ⟨r27, hr28, h⟩ := bd h
    refine ok_callS (d := ((d + 0) + 2)) (mt := mJ9_max_f86c9) (mc := 0) (ms := 0) (As := [.long (-1000000), .long r25]) (r := []) dX1_reckon_65 moJ9_max_f86c9 mvJ9_max_f86c9 lkRX1_118 rfl rfl (Nat.le_of_ble_eq_true rfl) (by show _ + 1 ≤ d + _; omega) (Nat.le_refl _) (Nat.le_refl _) (pRt_mono ?_)
    refine kJ9_max_f86c9 (d + 0) hW  hr28 ?_
    intro _
    show Ok g _ Qx 68 [(3, .long z24), (0, .int x0), (1, .int x1), (2, .int x2)] [.long r27] (Z, I, L, O)
    refine ok_l2i dX1_reckon_68 ?_
    cases h
    exact ok_iret dX1_reckon_69 hQ
theorem k1_reckon {g : pG} {Q : Option Value → pW → Prop} {Z : pZ} {I : (Nat → Nat → Int32)} {L : (Nat → Nat → Int64)} {O : (Nat → Nat → Option Nat)} {x0 : Int32} {x1 : Int32} {x2 : Int32} {res : Int32} (d : Nat) (hW : WT Z O) (h : f1_reckon x0 x1 x2 = some res) (hQ : Q (some (.int res)) (Z, I, L, O)) : CT g (d + 3) m1_reckon 0 0 [.int x0, .int x1, .int x2] (Z, I, L, O) Q :=
  ct_of_ok (mt := m1_reckon) (ini := false) mo1_reckon.2.2.2.2 (fun h => by cases h) (Nat.le_of_ble_eq_true rfl) (o1_reckon d hW  h ⟨trivial, hQ, rfl, rfl⟩)
theorem dX1_evaluate_0 : decode cX1_evaluate 0 = .ok (.aload_n 1, 1) := by decide +kernel
theorem dX1_evaluate_1 : decode cX1_evaluate 1 = .ok (.iload_n 2, 1) := by decide +kernel
theorem dX1_evaluate_2 : decode cX1_evaluate 2 = .ok (.invokevirtual 73, 3) := by decide +kernel
theorem dX1_evaluate_5 : decode cX1_evaluate 5 = .ok (.istore 4, 2) := by decide +kernel
theorem dX1_evaluate_7 : decode cX1_evaluate 7 = .ok (.aload_n 1, 1) := by decide +kernel
theorem dX1_evaluate_8 : decode cX1_evaluate 8 = .ok (.iload 4, 2) := by decide +kernel
theorem dX1_evaluate_10 : decode cX1_evaluate 10 = .ok (.invokevirtual 77, 3) := by decide +kernel
theorem dX1_evaluate_13 : decode cX1_evaluate 13 = .ok (.istore 5, 2) := by decide +kernel
theorem dX1_evaluate_15 : decode cX1_evaluate 15 = .ok (.aload_n 0, 1) := by decide +kernel
theorem dX1_evaluate_16 : decode cX1_evaluate 16 = .ok (.iconst 0, 1) := by decide +kernel
theorem dX1_evaluate_17 : decode cX1_evaluate 17 = .ok (.putfield 80, 3) := by decide +kernel
theorem dX1_evaluate_20 : decode cX1_evaluate 20 = .ok (.aload_n 1, 1) := by decide +kernel
theorem dX1_evaluate_21 : decode cX1_evaluate 21 = .ok (.iload 4, 2) := by decide +kernel
theorem dX1_evaluate_23 : decode cX1_evaluate 23 = .ok (.invokevirtual 83, 3) := by decide +kernel
theorem dX1_evaluate_26 : decode cX1_evaluate 26 = .ok (.istore 6, 2) := by decide +kernel
theorem dX1_evaluate_28 : decode cX1_evaluate 28 = .ok (.iload 6, 2) := by decide +kernel
theorem dX1_evaluate_30 : decode cX1_evaluate 30 = .ok (.iload 5, 2) := by decide +kernel
theorem dX1_evaluate_32 : decode cX1_evaluate 32 = .ok (.if_icmp .ge 377, 3) := by decide +kernel
theorem dX1_evaluate_35 : decode cX1_evaluate 35 = .ok (.aload_n 1, 1) := by decide +kernel
theorem dX1_evaluate_36 : decode cX1_evaluate 36 = .ok (.iload 6, 2) := by decide +kernel
theorem dX1_evaluate_38 : decode cX1_evaluate 38 = .ok (.invokevirtual 86, 3) := by decide +kernel
theorem dX1_evaluate_41 : decode cX1_evaluate 41 = .ok (.istore 7, 2) := by decide +kernel
theorem dX1_evaluate_43 : decode cX1_evaluate 43 = .ok (.iload 7, 2) := by decide +kernel
theorem dX1_evaluate_45 : decode cX1_evaluate 45 = .ok (.sipush 1024, 3) := by decide +kernel
theorem dX1_evaluate_48 : decode cX1_evaluate 48 = .ok (.irem, 1) := by decide +kernel
theorem dX1_evaluate_49 : decode cX1_evaluate 49 = .ok (.istore 8, 2) := by decide +kernel
theorem dX1_evaluate_51 : decode cX1_evaluate 51 = .ok (.iload 6, 2) := by decide +kernel
theorem dX1_evaluate_53 : decode cX1_evaluate 53 = .ok (.iload 7, 2) := by decide +kernel
theorem dX1_evaluate_55 : decode cX1_evaluate 55 = .ok (.sipush 1024, 3) := by decide +kernel
theorem dX1_evaluate_58 : decode cX1_evaluate 58 = .ok (.idiv, 1) := by decide +kernel
theorem dX1_evaluate_59 : decode cX1_evaluate 59 = .ok (.iconst 1, 1) := by decide +kernel
theorem dX1_evaluate_60 : decode cX1_evaluate 60 = .ok (.isub, 1) := by decide +kernel
theorem dX1_evaluate_61 : decode cX1_evaluate 61 = .ok (.invokestatic 70, 3) := by decide +kernel
theorem dX1_evaluate_64 : decode cX1_evaluate 64 = .ok (.istore 9, 2) := by decide +kernel
theorem dX1_evaluate_66 : decode cX1_evaluate 66 = .ok (.iload 8, 2) := by decide +kernel
theorem dX1_evaluate_68 : decode cX1_evaluate 68 = .ok (.tableswitch 275 14 47 #[206, 191, 275, 165, 184, 275, 275, 275, 232, 275, 275, 275, 275, 275, 152, 220, 275, 275, 275, 275, 275, 275, 275, 275, 275, 275, 275, 275, 251, 251, 275, 251, 275, 251], 152) := by decide +kernel
theorem dX1_evaluate_220 : decode cX1_evaluate 220 = .ok (.aload_n 0, 1) := by decide +kernel
theorem dX1_evaluate_221 : decode cX1_evaluate 221 = .ok (.iload 7, 2) := by decide +kernel
theorem dX1_evaluate_223 : decode cX1_evaluate 223 = .ok (.sipush 1024, 3) := by decide +kernel
theorem dX1_evaluate_226 : decode cX1_evaluate 226 = .ok (.idiv, 1) := by decide +kernel
theorem dX1_evaluate_227 : decode cX1_evaluate 227 = .ok (.invokevirtual 89, 3) := by decide +kernel
theorem dX1_evaluate_230 : decode cX1_evaluate 230 = .ok (.goto 173, 3) := by decide +kernel
theorem dX1_evaluate_233 : decode cX1_evaluate 233 = .ok (.aload_n 0, 1) := by decide +kernel
theorem dX1_evaluate_234 : decode cX1_evaluate 234 = .ok (.invokevirtual 93, 3) := by decide +kernel
theorem dX1_evaluate_237 : decode cX1_evaluate 237 = .ok (.ifCond .ne 8, 3) := by decide +kernel
theorem dX1_evaluate_240 : decode cX1_evaluate 240 = .ok (.iload 9, 2) := by decide +kernel
theorem dX1_evaluate_242 : decode cX1_evaluate 242 = .ok (.goto 5, 3) := by decide +kernel
theorem dX1_evaluate_245 : decode cX1_evaluate 245 = .ok (.iload 6, 2) := by decide +kernel
theorem dX1_evaluate_247 : decode cX1_evaluate 247 = .ok (.istore 6, 2) := by decide +kernel
theorem dX1_evaluate_249 : decode cX1_evaluate 249 = .ok (.goto 154, 3) := by decide +kernel
theorem dX1_evaluate_252 : decode cX1_evaluate 252 = .ok (.iload 9, 2) := by decide +kernel
theorem dX1_evaluate_254 : decode cX1_evaluate 254 = .ok (.istore 6, 2) := by decide +kernel
theorem dX1_evaluate_256 : decode cX1_evaluate 256 = .ok (.goto 147, 3) := by decide +kernel
theorem dX1_evaluate_259 : decode cX1_evaluate 259 = .ok (.aload_n 0, 1) := by decide +kernel
theorem dX1_evaluate_260 : decode cX1_evaluate 260 = .ok (.aload_n 3, 1) := by decide +kernel
theorem dX1_evaluate_261 : decode cX1_evaluate 261 = .ok (.aload_n 0, 1) := by decide +kernel
theorem dX1_evaluate_262 : decode cX1_evaluate 262 = .ok (.invokevirtual 93, 3) := by decide +kernel
theorem dX1_evaluate_265 : decode cX1_evaluate 265 = .ok (.invokevirtual 97, 3) := by decide +kernel
theorem dX1_evaluate_268 : decode cX1_evaluate 268 = .ok (.invokevirtual 89, 3) := by decide +kernel
theorem dX1_evaluate_271 : decode cX1_evaluate 271 = .ok (.goto 132, 3) := by decide +kernel
theorem dX1_evaluate_274 : decode cX1_evaluate 274 = .ok (.aload_n 0, 1) := by decide +kernel
theorem dX1_evaluate_275 : decode cX1_evaluate 275 = .ok (.aload_n 0, 1) := by decide +kernel
theorem dX1_evaluate_276 : decode cX1_evaluate 276 = .ok (.invokevirtual 93, 3) := by decide +kernel
theorem dX1_evaluate_279 : decode cX1_evaluate 279 = .ok (.invokestatic 100, 3) := by decide +kernel
theorem dX1_evaluate_282 : decode cX1_evaluate 282 = .ok (.invokevirtual 89, 3) := by decide +kernel
theorem dX1_evaluate_285 : decode cX1_evaluate 285 = .ok (.goto 118, 3) := by decide +kernel
theorem dX1_evaluate_288 : decode cX1_evaluate 288 = .ok (.aload_n 0, 1) := by decide +kernel
theorem dX1_evaluate_289 : decode cX1_evaluate 289 = .ok (.aload_n 0, 1) := by decide +kernel
theorem dX1_evaluate_290 : decode cX1_evaluate 290 = .ok (.invokevirtual 93, 3) := by decide +kernel
theorem dX1_evaluate_293 : decode cX1_evaluate 293 = .ok (.ineg, 1) := by decide +kernel
theorem dX1_evaluate_294 : decode cX1_evaluate 294 = .ok (.invokevirtual 89, 3) := by decide +kernel
theorem dX1_evaluate_297 : decode cX1_evaluate 297 = .ok (.goto 106, 3) := by decide +kernel
theorem dX1_evaluate_300 : decode cX1_evaluate 300 = .ok (.aload_n 0, 1) := by decide +kernel
theorem dX1_evaluate_301 : decode cX1_evaluate 301 = .ok (.aload_n 0, 1) := by decide +kernel
theorem dX1_evaluate_302 : decode cX1_evaluate 302 = .ok (.invokevirtual 93, 3) := by decide +kernel
theorem dX1_evaluate_305 : decode cX1_evaluate 305 = .ok (.ifCond .ne 7, 3) := by decide +kernel
theorem dX1_evaluate_308 : decode cX1_evaluate 308 = .ok (.iconst 1, 1) := by decide +kernel
theorem dX1_evaluate_309 : decode cX1_evaluate 309 = .ok (.goto 4, 3) := by decide +kernel
theorem dX1_evaluate_312 : decode cX1_evaluate 312 = .ok (.iconst 0, 1) := by decide +kernel
theorem dX1_evaluate_313 : decode cX1_evaluate 313 = .ok (.invokevirtual 89, 3) := by decide +kernel
theorem dX1_evaluate_316 : decode cX1_evaluate 316 = .ok (.goto 87, 3) := by decide +kernel
theorem dX1_evaluate_319 : decode cX1_evaluate 319 = .ok (.aload_n 0, 1) := by decide +kernel
theorem dX1_evaluate_320 : decode cX1_evaluate 320 = .ok (.invokevirtual 93, 3) := by decide +kernel
theorem dX1_evaluate_323 : decode cX1_evaluate 323 = .ok (.istore 10, 2) := by decide +kernel
theorem dX1_evaluate_325 : decode cX1_evaluate 325 = .ok (.aload_n 0, 1) := by decide +kernel
theorem dX1_evaluate_326 : decode cX1_evaluate 326 = .ok (.iload 8, 2) := by decide +kernel
theorem dX1_evaluate_328 : decode cX1_evaluate 328 = .ok (.aload_n 0, 1) := by decide +kernel
theorem dX1_evaluate_329 : decode cX1_evaluate 329 = .ok (.invokevirtual 93, 3) := by decide +kernel
theorem dX1_evaluate_332 : decode cX1_evaluate 332 = .ok (.iload 10, 2) := by decide +kernel
theorem dX1_evaluate_334 : decode cX1_evaluate 334 = .ok (.invokestatic 103, 3) := by decide +kernel
theorem dX1_evaluate_337 : decode cX1_evaluate 337 = .ok (.invokevirtual 89, 3) := by decide +kernel
theorem dX1_evaluate_340 : decode cX1_evaluate 340 = .ok (.goto 63, 3) := by decide +kernel
theorem dX1_evaluate_343 : decode cX1_evaluate 343 = .ok (.iload 8, 2) := by decide +kernel
theorem dX1_evaluate_345 : decode cX1_evaluate 345 = .ok (.bipush 7, 2) := by decide +kernel
theorem dX1_evaluate_347 : decode cX1_evaluate 347 = .ok (.if_icmp .lt 27, 3) := by decide +kernel
theorem dX1_evaluate_350 : decode cX1_evaluate 350 = .ok (.iload 8, 2) := by decide +kernel
theorem dX1_evaluate_352 : decode cX1_evaluate 352 = .ok (.bipush 13, 2) := by decide +kernel
theorem dX1_evaluate_354 : decode cX1_evaluate 354 = .ok (.if_icmp .gt 20, 3) := by decide +kernel
theorem dX1_evaluate_357 : decode cX1_evaluate 357 = .ok (.aload_n 0, 1) := by decide +kernel
theorem dX1_evaluate_358 : decode cX1_evaluate 358 = .ok (.aload_n 0, 1) := by decide +kernel
theorem dX1_evaluate_359 : decode cX1_evaluate 359 = .ok (.getfield 15, 3) := by decide +kernel
theorem dX1_evaluate_362 : decode cX1_evaluate 362 = .ok (.iload 8, 2) := by decide +kernel
theorem dX1_evaluate_364 : decode cX1_evaluate 364 = .ok (.bipush 7, 2) := by decide +kernel
theorem dX1_evaluate_366 : decode cX1_evaluate 366 = .ok (.isub, 1) := by decide +kernel
theorem dX1_evaluate_367 : decode cX1_evaluate 367 = .ok (.iaload, 1) := by decide +kernel
theorem dX1_evaluate_368 : decode cX1_evaluate 368 = .ok (.invokevirtual 89, 3) := by decide +kernel
theorem dX1_evaluate_371 : decode cX1_evaluate 371 = .ok (.goto 32, 3) := by decide +kernel
theorem dX1_evaluate_374 : decode cX1_evaluate 374 = .ok (.aload_n 0, 1) := by decide +kernel
theorem dX1_evaluate_375 : decode cX1_evaluate 375 = .ok (.invokevirtual 93, 3) := by decide +kernel
theorem dX1_evaluate_378 : decode cX1_evaluate 378 = .ok (.istore 11, 2) := by decide +kernel
theorem dX1_evaluate_380 : decode cX1_evaluate 380 = .ok (.aload_n 0, 1) := by decide +kernel
theorem dX1_evaluate_381 : decode cX1_evaluate 381 = .ok (.iload 8, 2) := by decide +kernel
theorem dX1_evaluate_383 : decode cX1_evaluate 383 = .ok (.aload_n 0, 1) := by decide +kernel
theorem dX1_evaluate_384 : decode cX1_evaluate 384 = .ok (.invokevirtual 93, 3) := by decide +kernel
theorem dX1_evaluate_387 : decode cX1_evaluate 387 = .ok (.iload 11, 2) := by decide +kernel
theorem dX1_evaluate_389 : decode cX1_evaluate 389 = .ok (.invokestatic 107, 3) := by decide +kernel
theorem dX1_evaluate_392 : decode cX1_evaluate 392 = .ok (.ifCond .eq 7, 3) := by decide +kernel
theorem dX1_evaluate_395 : decode cX1_evaluate 395 = .ok (.iconst 1, 1) := by decide +kernel
theorem dX1_evaluate_396 : decode cX1_evaluate 396 = .ok (.goto 4, 3) := by decide +kernel
theorem dX1_evaluate_399 : decode cX1_evaluate 399 = .ok (.iconst 0, 1) := by decide +kernel
theorem dX1_evaluate_400 : decode cX1_evaluate 400 = .ok (.invokevirtual 89, 3) := by decide +kernel
theorem dX1_evaluate_403 : decode cX1_evaluate 403 = .ok (.iinc 6 1, 3) := by decide +kernel
theorem dX1_evaluate_406 : decode cX1_evaluate 406 = .ok (.goto (-378), 3) := by decide +kernel
theorem dX1_evaluate_409 : decode cX1_evaluate 409 = .ok (.aload_n 0, 1) := by decide +kernel
theorem dX1_evaluate_410 : decode cX1_evaluate 410 = .ok (.invokevirtual 93, 3) := by decide +kernel
theorem dX1_evaluate_413 : decode cX1_evaluate 413 = .ok (.ireturn, 1) := by decide +kernel
def m1_evaluate : pMT := (yX1_evaluate, cX1_evaluate, 12, some .int)
theorem mo1_evaluate : mOK m1_evaluate 3 := ⟨tb_i 742 (by decide +kernel), wi_RX1, ⟨wn_RX1.1, wn_RX1.2, by decide +kernel⟩, by decide, plainFor_of_name wp_RX1⟩
theorem mv1_evaluate : mV m1_evaluate := ⟨tb_i 741 (by decide +kernel), tb_p 32 (by decide +kernel)⟩
def f1_evaluate_c374 (n : Nat) (O : (Nat → Nat → Option Nat)) (k28 : ((Nat → Nat → Int32) → Nat → Nat → Nat → Int32 → Int32 → Option (Int32 × (Nat → Nat → Int32)))) (I : (Nat → Nat → Int32)) (b0 : Nat) (b1 : Nat) (b3 : Nat) (y5 : Int32) (y6 : Int32) (y8 : Int32) : Option (Int32 × (Nat → Nat → Int32)) := (f1_pop I O b0).bind fun r1 => (f1_pop r1.2 O b0).bind fun r3 => (f1_holds y8 r3.1 r1.1).bind fun r5 => (if r5 = 0 then (f1_push r3.2 O b0 (0 : Int32)).bind fun r8 => k28 r8 b0 b1 b3 y5 (y6 + 1) else (f1_push r3.2 O b0 (1 : Int32)).bind fun r10 => k28 r10 b0 b1 b3 y5 (y6 + 1))
set_option maxHeartbeats 4000000 in
set_option maxRecDepth 20000 in
theorem o1_evaluate_c374 {g : pG} {Qx : Option Value → pW → Prop} {Z : pZ} {L : (Nat → Nat → Int64)} {O : (Nat → Nat → Option Nat)} {n : Nat} {k28 : ((Nat → Nat → Int32) → Nat → Nat → Nat → Int32 → Int32 → Option (Int32 × (Nat → Nat → Int32)))} {res : Int32 × (Nat → Nat → Int32)} (d : Nat) (hW : WT Z O) (hQ : Qx (some (.int res.1)) (Z, res.2, L, O)) (hk28 : ∀ (I : (Nat → Nat → Int32)) (b0 : Nat) (b1 : Nat) (b3 : Nat) (y5 : Int32) (y6 : Int32), (Z[b0]? = some (1, 3)) → (Z[b1]? = some (7, 7)) → (Z[b3]? = some (10, 5)) → k28 I b0 b1 b3 y5 y6 = some res → Ok g (d + 4, RX1, cX1_evaluate, 12, false, 0, 0, Z.length, pSl Z) Qx 28 [(0, .ref b0), (1, .ref b1), (3, .ref b3), (5, .int y5), (6, .int y6)] [] (Z, I, L, O)) (I : (Nat → Nat → Int32)) (b0 : Nat) (b1 : Nat) (b3 : Nat) (y5 : Int32) (y6 : Int32) (y8 : Int32) (hZ_b0 : Z[b0]? = some (1, 3)) (hZ_b1 : Z[b1]? = some (7, 7)) (hZ_b3 : Z[b3]? = some (10, 5)) (h : f1_evaluate_c374 n O k28 I b0 b1 b3 y5 y6 y8 = some res) : Ok g (d + 4, RX1, cX1_evaluate, 12, false, 0, 0, Z.length, pSl Z) Qx 374 [(0, .ref b0), (1, .ref b1), (3, .ref b3), (5, .int y5), (6, .int y6), (8, .int y8)] [] (Z, I, L, O) := by
  unfold f1_evaluate_c374 at h
  refine ok_aload_n dX1_evaluate_374 0 rfl ?_
  obtain ⟨r1, hr2, h⟩ := bd h
  refine ok_callV (d := ((d + 1) + 2)) (mt := m1_pop) (mc := 0) (ms := 0) (As := []) (r := []) dX1_evaluate_375 mo1_pop mv1_pop lkRX1_93 rfl hZ_b0 (q := (RX1, TX1, 3)) rfl rfl rfl (Nat.le_of_ble_eq_true rfl) (by show _ + 1 ≤ d + _; omega) (Nat.le_refl _) (Nat.le_refl _) (pRt_mono ?_)
  refine k1_pop (d + 1) hW hZ_b0 hr2 ?_
  intro _
  show Ok g _ Qx 378 [(0, .ref b0), (1, .ref b1), (3, .ref b3), (5, .int y5), (6, .int y6), (8, .int y8)] [.int r1.1] (Z, r1.2, L, O)
  refine ok_istore (l' := [(11, .int r1.1), (0, .ref b0), (1, .ref b1), (3, .ref b3), (5, .int y5), (6, .int y6), (8, .int y8)]) dX1_evaluate_378 (Nat.le_of_ble_eq_true rfl) rfl ?_
  refine ok_aload_n dX1_evaluate_380 1 rfl ?_
  refine ok_iload dX1_evaluate_381 6 rfl ?_
  refine ok_aload_n dX1_evaluate_383 1 rfl ?_
  obtain ⟨r3, hr4, h⟩ := bd h
  refine ok_callV (d := ((d + 1) + 2)) (mt := m1_pop) (mc := 0) (ms := 0) (As := []) (r := [.int y8, .ref b0]) dX1_evaluate_384 mo1_pop mv1_pop lkRX1_93 rfl hZ_b0 (q := (RX1, TX1, 3)) rfl rfl rfl (Nat.le_of_ble_eq_true rfl) (by show _ + 1 ≤ d + _; omega) (Nat.le_refl _) (Nat.le_refl _) (pRt_mono ?_)
  refine k1_pop (d + 1) hW hZ_b0 hr4 ?_
  intro _
  show Ok g _ Qx 387 [(11, .int r1.1), (0, .ref b0), (1, .ref b1), (3, .ref b3), (5, .int y5), (6, .int y6), (8, .int y8)] [.int r3.1, .int y8, .ref b0] (Z, r3.2, L, O)
  refine ok_iload dX1_evaluate_387 0 rfl ?_
  obtain ⟨r5, hr6, h⟩ := bd h
  refine ok_callS (d := ((d + 1) + 2)) (mt := m1_holds) (mc := 0) (ms := 0) (As := [.int y8, .int r3.1, .int r1.1]) (r := [.ref b0]) dX1_evaluate_389 mo1_holds mv1_holds lkRX1_107 rfl rfl (Nat.le_of_ble_eq_true rfl) (by show _ + 1 ≤ d + _; omega) (Nat.le_refl _) (Nat.le_refl _) (pRt_mono ?_)
  refine k1_holds (d + 1) hW  hr6 ?_
  intro hbr5
  show Ok g _ Qx 392 [(11, .int r1.1), (0, .ref b0), (1, .ref b1), (3, .ref b3), (5, .int y5), (6, .int y6), (8, .int y8)] [.int r5, .ref b0] (Z, r3.2, L, O)
  refine ok_if_eq (t := 399) dX1_evaluate_392 (by decide) (fun hc7 => ?_) (fun hc7 => ?_)
  · have h := (if_pos hc7).symm.trans h
    refine ok_iconst (v := 0) dX1_evaluate_399 (by decide) ?_
    obtain ⟨r8, hr9, h⟩ := bd h
    refine ok_callV (d := ((d + 1) + 2)) (mt := m1_push) (mc := 0) (ms := 0) (As := [.int 0]) (r := []) dX1_evaluate_400 mo1_push mv1_push lkRX1_89 rfl hZ_b0 (q := (RX1, TX1, 3)) rfl rfl rfl (Nat.le_of_ble_eq_true rfl) (by show _ + 1 ≤ d + _; omega) (Nat.le_refl _) (Nat.le_refl _) (pRt_mono ?_)
    refine k1_push (d + 1) hW hZ_b0 hr9 ?_
    intro _
    show Ok g _ Qx 403 [(11, .int r1.1), (0, .ref b0), (1, .ref b1), (3, .ref b3), (5, .int y5), (6, .int y6), (8, .int y8)] [] (Z, r8, L, O)
    refine ok_iinc (u := (y6 + 1)) (l' := [(6, .int (y6 + 1)), (11, .int r1.1), (0, .ref b0), (1, .ref b1), (3, .ref b3), (5, .int y5), (8, .int y8)]) dX1_evaluate_403 5 rfl rfl (Nat.le_of_ble_eq_true rfl) rfl ?_
    refine ok_goto (t := 28) dX1_evaluate_406 (by decide) ?_
    refine ok_sub [2, 3, 4, 5, 0] rfl ?_
    exact hk28 r8 b0 b1 b3 y5 (y6 + 1) hZ_b0 hZ_b1 hZ_b3 h
  · have h := (if_neg hc7).symm.trans h
    refine ok_iconst (v := 1) dX1_evaluate_395 (by decide) ?_
    refine ok_goto (t := 400) dX1_evaluate_396 (by decide) ?_
    obtain ⟨r10, hr11, h⟩ := bd h
    refine ok_callV (d := ((d + 1) + 2)) (mt := m1_push) (mc := 0) (ms := 0) (As := [.int 1]) (r := []) dX1_evaluate_400 mo1_push mv1_push lkRX1_89 rfl hZ_b0 (q := (RX1, TX1, 3)) rfl rfl rfl (Nat.le_of_ble_eq_true rfl) (by show _ + 1 ≤ d + _; omega) (Nat.le_refl _) (Nat.le_refl _) (pRt_mono ?_)
    refine k1_push (d + 1) hW hZ_b0 hr11 ?_
    intro _
    show Ok g _ Qx 403 [(11, .int r1.1), (0, .ref b0), (1, .ref b1), (3, .ref b3), (5, .int y5), (6, .int y6), (8, .int y8)] [] (Z, r10, L, O)
    refine ok_iinc (u := (y6 + 1)) (l' := [(6, .int (y6 + 1)), (11, .int r1.1), (0, .ref b0), (1, .ref b1), (3, .ref b3), (5, .int y5), (8, .int y8)]) dX1_evaluate_403 5 rfl rfl (Nat.le_of_ble_eq_true rfl) rfl ?_
    refine ok_goto (t := 28) dX1_evaluate_406 (by decide) ?_
    refine ok_sub [2, 3, 4, 5, 0] rfl ?_
    exact hk28 r10 b0 b1 b3 y5 (y6 + 1) hZ_b0 hZ_b1 hZ_b3 h
def f1_evaluate_c28 (n : Nat) (O : (Nat → Nat → Option Nat)) : Nat → (Nat → Nat → Int32) → Nat → Nat → Nat → Int32 → Int32 → Option (Int32 × (Nat → Nat → Int32))
  | 0, _, _, _, _, _, _ => none
  | m + 1, I, b0, b1, b3, y5, y6 => (if y5 ≤ y6 then (f1_pop I O b0).bind fun r2 => some (r2.1, r2.2) else (f7_stepAt I O b1 y6).bind fun r4 => (fJ9_max_7cf53 y6 ((r4 / 1024) - 1)).bind fun r6 => (if (r4 - r4 / 1024 * 1024) = 14 then (f1_pop I O b0).bind fun r9 => (f1_digitsTogether n r9.1).bind fun r11 => (f1_push r9.2 O b0 r11).bind fun r13 => f1_evaluate_c28 n O m r13 b0 b1 b3 y5 (y6 + 1) else (if (r4 - r4 / 1024 * 1024) = 15 then (f1_pop I O b0).bind fun r16 => (f10_holes n r16.2 O b3 r16.1).bind fun r18 => (f1_push r16.2 O b0 r18).bind fun r20 => f1_evaluate_c28 n O m r20 b0 b1 b3 y5 (y6 + 1) else (if (r4 - r4 / 1024 * 1024) = 17 then (f1_pop I O b0).bind fun r23 => (if r23.1 = 0 then f1_evaluate_c28 n O m r23.2 b0 b1 b3 y5 (r6 + 1) else f1_evaluate_c28 n O m r23.2 b0 b1 b3 y5 (y6 + 1)) else (if (r4 - r4 / 1024 * 1024) = 18 then f1_evaluate_c28 n O m I b0 b1 b3 y5 (r6 + 1) else (if (r4 - r4 / 1024 * 1024) = 22 then (f1_pop I O b0).bind fun r28 => (if r28.1 = 0 then (f1_push r28.2 O b0 (1 : Int32)).bind fun r33 => f1_evaluate_c28 n O m r33 b0 b1 b3 y5 (y6 + 1) else (f1_push r28.2 O b0 (0 : Int32)).bind fun r31 => f1_evaluate_c28 n O m r31 b0 b1 b3 y5 (y6 + 1)) else (if (r4 - r4 / 1024 * 1024) = 28 then (f1_push I O b0 (r4 / 1024)).bind fun r36 => f1_evaluate_c28 n O m r36 b0 b1 b3 y5 (y6 + 1) else (if (r4 - r4 / 1024 * 1024) = 29 then (f1_pop I O b0).bind fun r39 => (f1_push r39.2 O b0 (-r39.1)).bind fun r41 => f1_evaluate_c28 n O m r41 b0 b1 b3 y5 (y6 + 1) else (if (r4 - r4 / 1024 * 1024) = 42 then (f1_pop I O b0).bind fun r44 => (f1_pop r44.2 O b0).bind fun r46 => (f1_reckon (r4 - r4 / 1024 * 1024) r46.1 r44.1).bind fun r48 => (f1_push r46.2 O b0 r48).bind fun r50 => f1_evaluate_c28 n O m r50 b0 b1 b3 y5 (y6 + 1) else (if (r4 - r4 / 1024 * 1024) = 43 then (f1_pop I O b0).bind fun r53 => (f1_pop r53.2 O b0).bind fun r55 => (f1_reckon (r4 - r4 / 1024 * 1024) r55.1 r53.1).bind fun r57 => (f1_push r55.2 O b0 r57).bind fun r59 => f1_evaluate_c28 n O m r59 b0 b1 b3 y5 (y6 + 1) else (if (r4 - r4 / 1024 * 1024) = 45 then (f1_pop I O b0).bind fun r62 => (f1_pop r62.2 O b0).bind fun r64 => (f1_reckon (r4 - r4 / 1024 * 1024) r64.1 r62.1).bind fun r66 => (f1_push r64.2 O b0 r66).bind fun r68 => f1_evaluate_c28 n O m r68 b0 b1 b3 y5 (y6 + 1) else (if (r4 - r4 / 1024 * 1024) = 47 then (f1_pop I O b0).bind fun r71 => (f1_pop r71.2 O b0).bind fun r73 => (f1_reckon (r4 - r4 / 1024 * 1024) r73.1 r71.1).bind fun r75 => (f1_push r73.2 O b0 r75).bind fun r77 => f1_evaluate_c28 n O m r77 b0 b1 b3 y5 (y6 + 1) else (if (r4 - r4 / 1024 * 1024) < (7 : Int32) then f1_evaluate_c374 n O (f1_evaluate_c28 n O m) I b0 b1 b3 y5 y6 (r4 - r4 / 1024 * 1024) else (if (13 : Int32) < (r4 - r4 / 1024 * 1024) then f1_evaluate_c374 n O (f1_evaluate_c28 n O m) I b0 b1 b3 y5 y6 (r4 - r4 / 1024 * 1024) else (if ((r4 - r4 / 1024 * 1024) - 7) < 0 ∨ 7 ≤ ((r4 - r4 / 1024 * 1024) - 7).toNatClampNeg then none else (f1_push I O b0 (I (rO O b0 1) ((r4 - r4 / 1024 * 1024) - 7).toNatClampNeg)).bind fun r83 => f1_evaluate_c28 n O m r83 b0 b1 b3 y5 (y6 + 1))))))))))))))))
set_option maxHeartbeats 4000000 in
set_option maxRecDepth 20000 in
theorem o1_evaluate_c28 {g : pG} {Qx : Option Value → pW → Prop} {Z : pZ} {L : (Nat → Nat → Int64)} {O : (Nat → Nat → Option Nat)} {n : Nat} {res : Int32 × (Nat → Nat → Int32)} (d : Nat) (hW : WT Z O) (hQ : Qx (some (.int res.1)) (Z, res.2, L, O)) : ∀ (m : Nat) (I : (Nat → Nat → Int32)) (b0 : Nat) (b1 : Nat) (b3 : Nat) (y5 : Int32) (y6 : Int32), (Z[b0]? = some (1, 3)) → (Z[b1]? = some (7, 7)) → (Z[b3]? = some (10, 5)) → f1_evaluate_c28 n O m I b0 b1 b3 y5 y6 = some res → Ok g (d + 4, RX1, cX1_evaluate, 12, false, 0, 0, Z.length, pSl Z) Qx 28 [(0, .ref b0), (1, .ref b1), (3, .ref b3), (5, .int y5), (6, .int y6)] [] (Z, I, L, O) := by
  intro m
  induction m with
  | zero => intro I b0 b1 b3 y5 y6 hZ_b0 hZ_b1 hZ_b3 h; rw [f1_evaluate_c28] at h; cases h
  | succ m ih =>
    intro I b0 b1 b3 y5 y6 hZ_b0 hZ_b1 hZ_b3 h
    rw [f1_evaluate_c28] at h
    refine ok_iload dX1_evaluate_28 4 rfl ?_
    refine ok_iload dX1_evaluate_30 3 rfl ?_
    refine ok_icmp_ge (t := 409) dX1_evaluate_32 (by decide) (fun hc1 => ?_) (fun hc1 => ?_)
    · have h := (if_pos hc1).symm.trans h
      refine ok_aload_n dX1_evaluate_409 0 rfl ?_
      obtain ⟨r2, hr3, h⟩ := bd h
      refine ok_callV (d := ((d + 1) + 2)) (mt := m1_pop) (mc := 0) (ms := 0) (As := []) (r := []) dX1_evaluate_410 mo1_pop mv1_pop lkRX1_93 rfl hZ_b0 (q := (RX1, TX1, 3)) rfl rfl rfl (Nat.le_of_ble_eq_true rfl) (by show _ + 1 ≤ d + _; omega) (Nat.le_refl _) (Nat.le_refl _) (pRt_mono ?_)
      refine k1_pop (d + 1) hW hZ_b0 hr3 ?_
      intro _
      show Ok g _ Qx 413 [(0, .ref b0), (1, .ref b1), (3, .ref b3), (5, .int y5), (6, .int y6)] [.int r2.1] (Z, r2.2, L, O)
      cases h
      exact ok_iret dX1_evaluate_413 hQ
    · have h := (if_neg hc1).symm.trans h
      refine ok_aload_n dX1_evaluate_35 1 rfl ?_
      refine ok_iload dX1_evaluate_36 4 rfl ?_
      obtain ⟨r4, hr5, h⟩ := bd h
      refine ok_callV (d := ((d + 1) + 2)) (mt := m7_stepAt) (mc := 0) (ms := 0) (As := [.int y6]) (r := []) dX1_evaluate_38 mo7_stepAt mv7_stepAt lkRX1_86 rfl hZ_b1 (q := (RX7, TX7, 7)) rfl rfl rfl (Nat.le_of_ble_eq_true rfl) (by show _ + 1 ≤ d + _; omega) (Nat.le_refl _) (Nat.le_refl _) (pRt_mono ?_)
      refine k7_stepAt (d + 1) hW hZ_b1 hr5 ?_
      intro _
      show Ok g _ Qx 41 [(0, .ref b0), (1, .ref b1), (3, .ref b3), (5, .int y5), (6, .int y6)] [.int r4] (Z, I, L, O)
      refine ok_istore (l' := [(7, .int r4), (0, .ref b0), (1, .ref b1), (3, .ref b3), (5, .int y5), (6, .int y6)]) dX1_evaluate_41 (Nat.le_of_ble_eq_true rfl) rfl ?_
      refine ok_iload dX1_evaluate_43 0 rfl ?_
      refine ok_sipush (v := 1024) dX1_evaluate_45 (by decide) ?_
      refine ok_irem dX1_evaluate_48 (by decide) ?_
      refine ok_istore (l' := [(8, .int (r4 - r4 / 1024 * 1024)), (7, .int r4), (0, .ref b0), (1, .ref b1), (3, .ref b3), (5, .int y5), (6, .int y6)]) dX1_evaluate_49 (Nat.le_of_ble_eq_true rfl) rfl ?_
      refine ok_iload dX1_evaluate_51 6 rfl ?_
      refine ok_iload dX1_evaluate_53 1 rfl ?_
      refine ok_sipush (v := 1024) dX1_evaluate_55 (by decide) ?_
      refine ok_idiv dX1_evaluate_58 (by decide) ?_
      refine ok_iconst (v := 1) dX1_evaluate_59 (by decide) ?_
      refine ok_isub dX1_evaluate_60 ?_
      obtain ⟨r6, hr7, h⟩ := bd h
      refine ok_callS (d := ((d + 1) + 2)) (mt := mJ9_max_7cf53) (mc := 0) (ms := 0) (As := [.int y6, .int ((r4 / 1024) - 1)]) (r := []) dX1_evaluate_61 moJ9_max_7cf53 mvJ9_max_7cf53 lkRX1_70 rfl rfl (Nat.le_of_ble_eq_true rfl) (by show _ + 1 ≤ d + _; omega) (Nat.le_refl _) (Nat.le_refl _) (pRt_mono ?_)
      refine kJ9_max_7cf53 (d + 1) hW  hr7 ?_
      intro _
      show Ok g _ Qx 64 [(8, .int (r4 - r4 / 1024 * 1024)), (7, .int r4), (0, .ref b0), (1, .ref b1), (3, .ref b3), (5, .int y5), (6, .int y6)] [.int r6] (Z, I, L, O)
      refine ok_istore (l' := [(9, .int r6), (8, .int (r4 - r4 / 1024 * 1024)), (7, .int r4), (0, .ref b0), (1, .ref b1), (3, .ref b3), (5, .int y5), (6, .int y6)]) dX1_evaluate_64 (Nat.le_of_ble_eq_true rfl) rfl ?_
      refine ok_iload dX1_evaluate_66 1 rfl ?_
      by_cases hc8 : (r4 - r4 / 1024 * 1024) = 14
      · have h := (if_pos hc8).symm.trans h
        refine ok_tabEq (t := 274) (off := 206) dX1_evaluate_68 hc8 (by decide) (by decide) (by decide) (by decide) ?_
        refine ok_aload_n dX1_evaluate_274 3 rfl ?_
        refine ok_aload_n dX1_evaluate_275 3 rfl ?_
        obtain ⟨r9, hr10, h⟩ := bd h
        refine ok_callV (d := ((d + 1) + 2)) (mt := m1_pop) (mc := 0) (ms := 0) (As := []) (r := [.ref b0]) dX1_evaluate_276 mo1_pop mv1_pop lkRX1_93 rfl hZ_b0 (q := (RX1, TX1, 3)) rfl rfl rfl (Nat.le_of_ble_eq_true rfl) (by show _ + 1 ≤ d + _; omega) (Nat.le_refl _) (Nat.le_refl _) (pRt_mono ?_)
        refine k1_pop (d + 1) hW hZ_b0 hr10 ?_
        intro _
        show Ok g _ Qx 279 [(9, .int r6), (8, .int (r4 - r4 / 1024 * 1024)), (7, .int r4), (0, .ref b0), (1, .ref b1), (3, .ref b3), (5, .int y5), (6, .int y6)] [.int r9.1, .ref b0] (Z, r9.2, L, O)
        obtain ⟨r11, hr12, h⟩ := bd h
        refine ok_callS (d := ((d + 0) + 3)) (mt := m1_digitsTogether) (mc := 0) (ms := 0) (As := [.int r9.1]) (r := [.ref b0]) dX1_evaluate_279 mo1_digitsTogether mv1_digitsTogether lkRX1_100 rfl rfl (Nat.le_of_ble_eq_true rfl) (by show _ + 1 ≤ d + _; omega) (Nat.le_refl _) (Nat.le_refl _) (pRt_mono ?_)
        refine k1_digitsTogether (d + 0) hW  hr12 ?_
        intro _
        show Ok g _ Qx 282 [(9, .int r6), (8, .int (r4 - r4 / 1024 * 1024)), (7, .int r4), (0, .ref b0), (1, .ref b1), (3, .ref b3), (5, .int y5), (6, .int y6)] [.int r11, .ref b0] (Z, r9.2, L, O)
        obtain ⟨r13, hr14, h⟩ := bd h
        refine ok_callV (d := ((d + 1) + 2)) (mt := m1_push) (mc := 0) (ms := 0) (As := [.int r11]) (r := []) dX1_evaluate_282 mo1_push mv1_push lkRX1_89 rfl hZ_b0 (q := (RX1, TX1, 3)) rfl rfl rfl (Nat.le_of_ble_eq_true rfl) (by show _ + 1 ≤ d + _; omega) (Nat.le_refl _) (Nat.le_refl _) (pRt_mono ?_)
        refine k1_push (d + 1) hW hZ_b0 hr14 ?_
        intro _
        show Ok g _ Qx 285 [(9, .int r6), (8, .int (r4 - r4 / 1024 * 1024)), (7, .int r4), (0, .ref b0), (1, .ref b1), (3, .ref b3), (5, .int y5), (6, .int y6)] [] (Z, r13, L, O)
        refine ok_goto (t := 403) dX1_evaluate_285 (by decide) ?_
        refine ok_iinc (u := (y6 + 1)) (l' := [(6, .int (y6 + 1)), (9, .int r6), (8, .int (r4 - r4 / 1024 * 1024)), (7, .int r4), (0, .ref b0), (1, .ref b1), (3, .ref b3), (5, .int y5)]) dX1_evaluate_403 7 rfl rfl (Nat.le_of_ble_eq_true rfl) rfl ?_
        refine ok_goto (t := 28) dX1_evaluate_406 (by decide) ?_
        refine ok_sub [4, 5, 6, 7, 0] rfl ?_
        exact ih r13 b0 b1 b3 y5 (y6 + 1) hZ_b0 hZ_b1 hZ_b3 h
      · have h := (if_neg hc8).symm.trans h
        by_cases hc15 : (r4 - r4 / 1024 * 1024) = 15
        · have h := (if_pos hc15).symm.trans h
          refine ok_tabEq (t := 259) (off := 191) dX1_evaluate_68 hc15 (by decide) (by decide) (by decide) (by decide) ?_
          refine ok_aload_n dX1_evaluate_259 3 rfl ?_
          refine ok_aload_n dX1_evaluate_260 5 rfl ?_
          refine ok_aload_n dX1_evaluate_261 3 rfl ?_
          obtain ⟨r16, hr17, h⟩ := bd h
          refine ok_callV (d := ((d + 1) + 2)) (mt := m1_pop) (mc := 0) (ms := 0) (As := []) (r := [.ref b3, .ref b0]) dX1_evaluate_262 mo1_pop mv1_pop lkRX1_93 rfl hZ_b0 (q := (RX1, TX1, 3)) rfl rfl rfl (Nat.le_of_ble_eq_true rfl) (by show _ + 1 ≤ d + _; omega) (Nat.le_refl _) (Nat.le_refl _) (pRt_mono ?_)
          refine k1_pop (d + 1) hW hZ_b0 hr17 ?_
          intro _
          show Ok g _ Qx 265 [(9, .int r6), (8, .int (r4 - r4 / 1024 * 1024)), (7, .int r4), (0, .ref b0), (1, .ref b1), (3, .ref b3), (5, .int y5), (6, .int y6)] [.int r16.1, .ref b3, .ref b0] (Z, r16.2, L, O)
          obtain ⟨r18, hr19, h⟩ := bd h
          refine ok_callV (d := ((d + 1) + 2)) (mt := m10_holes) (mc := 0) (ms := 0) (As := [.int r16.1]) (r := [.ref b0]) dX1_evaluate_265 mo10_holes mv10_holes lkRX1_97 rfl hZ_b3 (q := (RX10, TX10, 5)) rfl rfl rfl (Nat.le_of_ble_eq_true rfl) (by show _ + 1 ≤ d + _; omega) (Nat.le_refl _) (Nat.le_refl _) (pRt_mono ?_)
          refine k10_holes (d + 1) hW hZ_b3 hr19 ?_
          intro _
          show Ok g _ Qx 268 [(9, .int r6), (8, .int (r4 - r4 / 1024 * 1024)), (7, .int r4), (0, .ref b0), (1, .ref b1), (3, .ref b3), (5, .int y5), (6, .int y6)] [.int r18, .ref b0] (Z, r16.2, L, O)
          obtain ⟨r20, hr21, h⟩ := bd h
          refine ok_callV (d := ((d + 1) + 2)) (mt := m1_push) (mc := 0) (ms := 0) (As := [.int r18]) (r := []) dX1_evaluate_268 mo1_push mv1_push lkRX1_89 rfl hZ_b0 (q := (RX1, TX1, 3)) rfl rfl rfl (Nat.le_of_ble_eq_true rfl) (by show _ + 1 ≤ d + _; omega) (Nat.le_refl _) (Nat.le_refl _) (pRt_mono ?_)
          refine k1_push (d + 1) hW hZ_b0 hr21 ?_
          intro _
          show Ok g _ Qx 271 [(9, .int r6), (8, .int (r4 - r4 / 1024 * 1024)), (7, .int r4), (0, .ref b0), (1, .ref b1), (3, .ref b3), (5, .int y5), (6, .int y6)] [] (Z, r20, L, O)
          refine ok_goto (t := 403) dX1_evaluate_271 (by decide) ?_
          refine ok_iinc (u := (y6 + 1)) (l' := [(6, .int (y6 + 1)), (9, .int r6), (8, .int (r4 - r4 / 1024 * 1024)), (7, .int r4), (0, .ref b0), (1, .ref b1), (3, .ref b3), (5, .int y5)]) dX1_evaluate_403 7 rfl rfl (Nat.le_of_ble_eq_true rfl) rfl ?_
          refine ok_goto (t := 28) dX1_evaluate_406 (by decide) ?_
          refine ok_sub [4, 5, 6, 7, 0] rfl ?_
          exact ih r20 b0 b1 b3 y5 (y6 + 1) hZ_b0 hZ_b1 hZ_b3 h
        · have h := (if_neg hc15).symm.trans h
          by_cases hc22 : (r4 - r4 / 1024 * 1024) = 17
          · have h := (if_pos hc22).symm.trans h
            refine ok_tabEq (t := 233) (off := 165) dX1_evaluate_68 hc22 (by decide) (by decide) (by decide) (by decide) ?_
            refine ok_aload_n dX1_evaluate_233 3 rfl ?_
            obtain ⟨r23, hr24, h⟩ := bd h
            refine ok_callV (d := ((d + 1) + 2)) (mt := m1_pop) (mc := 0) (ms := 0) (As := []) (r := []) dX1_evaluate_234 mo1_pop mv1_pop lkRX1_93 rfl hZ_b0 (q := (RX1, TX1, 3)) rfl rfl rfl (Nat.le_of_ble_eq_true rfl) (by show _ + 1 ≤ d + _; omega) (Nat.le_refl _) (Nat.le_refl _) (pRt_mono ?_)
            refine k1_pop (d + 1) hW hZ_b0 hr24 ?_
            intro _
            show Ok g _ Qx 237 [(9, .int r6), (8, .int (r4 - r4 / 1024 * 1024)), (7, .int r4), (0, .ref b0), (1, .ref b1), (3, .ref b3), (5, .int y5), (6, .int y6)] [.int r23.1] (Z, r23.2, L, O)
            refine ok_if_ne (t := 245) dX1_evaluate_237 (by decide) (fun hc25 => ?_) (fun hc25 => ?_)
            · have h := (if_neg hc25).symm.trans h
              refine ok_iload dX1_evaluate_245 7 rfl ?_
              refine ok_istore (l' := [(6, .int y6), (9, .int r6), (8, .int (r4 - r4 / 1024 * 1024)), (7, .int r4), (0, .ref b0), (1, .ref b1), (3, .ref b3), (5, .int y5)]) dX1_evaluate_247 (Nat.le_of_ble_eq_true rfl) rfl ?_
              refine ok_goto (t := 403) dX1_evaluate_249 (by decide) ?_
              refine ok_iinc (u := (y6 + 1)) (l' := [(6, .int (y6 + 1)), (9, .int r6), (8, .int (r4 - r4 / 1024 * 1024)), (7, .int r4), (0, .ref b0), (1, .ref b1), (3, .ref b3), (5, .int y5)]) dX1_evaluate_403 0 rfl rfl (Nat.le_of_ble_eq_true rfl) rfl ?_
              refine ok_goto (t := 28) dX1_evaluate_406 (by decide) ?_
              refine ok_sub [4, 5, 6, 7, 0] rfl ?_
              exact ih r23.2 b0 b1 b3 y5 (y6 + 1) hZ_b0 hZ_b1 hZ_b3 h
            · have h := (if_pos hc25).symm.trans h
              refine ok_iload dX1_evaluate_240 0 rfl ?_
              refine ok_goto (t := 247) dX1_evaluate_242 (by decide) ?_
              refine ok_istore (l' := [(6, .int r6), (9, .int r6), (8, .int (r4 - r4 / 1024 * 1024)), (7, .int r4), (0, .ref b0), (1, .ref b1), (3, .ref b3), (5, .int y5)]) dX1_evaluate_247 (Nat.le_of_ble_eq_true rfl) rfl ?_
              refine ok_goto (t := 403) dX1_evaluate_249 (by decide) ?_
              refine ok_iinc (u := (r6 + 1)) (l' := [(6, .int (r6 + 1)), (9, .int r6), (8, .int (r4 - r4 / 1024 * 1024)), (7, .int r4), (0, .ref b0), (1, .ref b1), (3, .ref b3), (5, .int y5)]) dX1_evaluate_403 0 rfl rfl (Nat.le_of_ble_eq_true rfl) rfl ?_
              refine ok_goto (t := 28) dX1_evaluate_406 (by decide) ?_
              refine ok_sub [4, 5, 6, 7, 0] rfl ?_
              exact ih r23.2 b0 b1 b3 y5 (r6 + 1) hZ_b0 hZ_b1 hZ_b3 h
          · have h := (if_neg hc22).symm.trans h
            by_cases hc26 : (r4 - r4 / 1024 * 1024) = 18
            · have h := (if_pos hc26).symm.trans h
              refine ok_tabEq (t := 252) (off := 184) dX1_evaluate_68 hc26 (by decide) (by decide) (by decide) (by decide) ?_
              refine ok_iload dX1_evaluate_252 0 rfl ?_
              refine ok_istore (l' := [(6, .int r6), (9, .int r6), (8, .int (r4 - r4 / 1024 * 1024)), (7, .int r4), (0, .ref b0), (1, .ref b1), (3, .ref b3), (5, .int y5)]) dX1_evaluate_254 (Nat.le_of_ble_eq_true rfl) rfl ?_
              refine ok_goto (t := 403) dX1_evaluate_256 (by decide) ?_
              refine ok_iinc (u := (r6 + 1)) (l' := [(6, .int (r6 + 1)), (9, .int r6), (8, .int (r4 - r4 / 1024 * 1024)), (7, .int r4), (0, .ref b0), (1, .ref b1), (3, .ref b3), (5, .int y5)]) dX1_evaluate_403 0 rfl rfl (Nat.le_of_ble_eq_true rfl) rfl ?_
              refine ok_goto (t := 28) dX1_evaluate_406 (by decide) ?_
              refine ok_sub [4, 5, 6, 7, 0] rfl ?_
              exact ih I b0 b1 b3 y5 (r6 + 1) hZ_b0 hZ_b1 hZ_b3 h
            · have h := (if_neg hc26).symm.trans h
              by_cases hc27 : (r4 - r4 / 1024 * 1024) = 22
              · have h := (if_pos hc27).symm.trans h
                refine ok_tabEq (t := 300) (off := 232) dX1_evaluate_68 hc27 (by decide) (by decide) (by decide) (by decide) ?_
                refine ok_aload_n dX1_evaluate_300 3 rfl ?_
                refine ok_aload_n dX1_evaluate_301 3 rfl ?_
                obtain ⟨r28, hr29, h⟩ := bd h
                refine ok_callV (d := ((d + 1) + 2)) (mt := m1_pop) (mc := 0) (ms := 0) (As := []) (r := [.ref b0]) dX1_evaluate_302 mo1_pop mv1_pop lkRX1_93 rfl hZ_b0 (q := (RX1, TX1, 3)) rfl rfl rfl (Nat.le_of_ble_eq_true rfl) (by show _ + 1 ≤ d + _; omega) (Nat.le_refl _) (Nat.le_refl _) (pRt_mono ?_)
                refine k1_pop (d + 1) hW hZ_b0 hr29 ?_
                intro _
                show Ok g _ Qx 305 [(9, .int r6), (8, .int (r4 - r4 / 1024 * 1024)), (7, .int r4), (0, .ref b0), (1, .ref b1), (3, .ref b3), (5, .int y5), (6, .int y6)] [.int r28.1, .ref b0] (Z, r28.2, L, O)
                refine ok_if_ne (t := 312) dX1_evaluate_305 (by decide) (fun hc30 => ?_) (fun hc30 => ?_)
                · have h := (if_neg hc30).symm.trans h
                  refine ok_iconst (v := 0) dX1_evaluate_312 (by decide) ?_
                  obtain ⟨r31, hr32, h⟩ := bd h
                  refine ok_callV (d := ((d + 1) + 2)) (mt := m1_push) (mc := 0) (ms := 0) (As := [.int 0]) (r := []) dX1_evaluate_313 mo1_push mv1_push lkRX1_89 rfl hZ_b0 (q := (RX1, TX1, 3)) rfl rfl rfl (Nat.le_of_ble_eq_true rfl) (by show _ + 1 ≤ d + _; omega) (Nat.le_refl _) (Nat.le_refl _) (pRt_mono ?_)
                  refine k1_push (d + 1) hW hZ_b0 hr32 ?_
                  intro _
                  show Ok g _ Qx 316 [(9, .int r6), (8, .int (r4 - r4 / 1024 * 1024)), (7, .int r4), (0, .ref b0), (1, .ref b1), (3, .ref b3), (5, .int y5), (6, .int y6)] [] (Z, r31, L, O)
                  refine ok_goto (t := 403) dX1_evaluate_316 (by decide) ?_
                  refine ok_iinc (u := (y6 + 1)) (l' := [(6, .int (y6 + 1)), (9, .int r6), (8, .int (r4 - r4 / 1024 * 1024)), (7, .int r4), (0, .ref b0), (1, .ref b1), (3, .ref b3), (5, .int y5)]) dX1_evaluate_403 7 rfl rfl (Nat.le_of_ble_eq_true rfl) rfl ?_
                  refine ok_goto (t := 28) dX1_evaluate_406 (by decide) ?_
                  refine ok_sub [4, 5, 6, 7, 0] rfl ?_
                  exact ih r31 b0 b1 b3 y5 (y6 + 1) hZ_b0 hZ_b1 hZ_b3 h
                · have h := (if_pos hc30).symm.trans h
                  refine ok_iconst (v := 1) dX1_evaluate_308 (by decide) ?_
                  refine ok_goto (t := 313) dX1_evaluate_309 (by decide) ?_
                  obtain ⟨r33, hr34, h⟩ := bd h
                  refine ok_callV (d := ((d + 1) + 2)) (mt := m1_push) (mc := 0) (ms := 0) (As := [.int 1]) (r := []) dX1_evaluate_313 mo1_push mv1_push lkRX1_89 rfl hZ_b0 (q := (RX1, TX1, 3)) rfl rfl rfl (Nat.le_of_ble_eq_true rfl) (by show _ + 1 ≤ d + _; omega) (Nat.le_refl _) (Nat.le_refl _) (pRt_mono ?_)
                  refine k1_push (d + 1) hW hZ_b0 hr34 ?_
                  intro _
                  show Ok g _ Qx 316 [(9, .int r6), (8, .int (r4 - r4 / 1024 * 1024)), (7, .int r4), (0, .ref b0), (1, .ref b1), (3, .ref b3), (5, .int y5), (6, .int y6)] [] (Z, r33, L, O)
                  refine ok_goto (t := 403) dX1_evaluate_316 (by decide) ?_
                  refine ok_iinc (u := (y6 + 1)) (l' := [(6, .int (y6 + 1)), (9, .int r6), (8, .int (r4 - r4 / 1024 * 1024)), (7, .int r4), (0, .ref b0), (1, .ref b1), (3, .ref b3), (5, .int y5)]) dX1_evaluate_403 7 rfl rfl (Nat.le_of_ble_eq_true rfl) rfl ?_
                  refine ok_goto (t := 28) dX1_evaluate_406 (by decide) ?_
                  refine ok_sub [4, 5, 6, 7, 0] rfl ?_
                  exact ih r33 b0 b1 b3 y5 (y6 + 1) hZ_b0 hZ_b1 hZ_b3 h
              · have h := (if_neg hc27).symm.trans h
                by_cases hc35 : (r4 - r4 / 1024 * 1024) = 28
                · have h := (if_pos hc35).symm.trans h
                  refine ok_tabEq (t := 220) (off := 152) dX1_evaluate_68 hc35 (by decide) (by decide) (by decide) (by decide) ?_
                  refine ok_aload_n dX1_evaluate_220 3 rfl ?_
                  refine ok_iload dX1_evaluate_221 2 rfl ?_
                  refine ok_sipush (v := 1024) dX1_evaluate_223 (by decide) ?_
                  refine ok_idiv dX1_evaluate_226 (by decide) ?_
                  obtain ⟨r36, hr37, h⟩ := bd h
                  refine ok_callV (d := ((d + 1) + 2)) (mt := m1_push) (mc := 0) (ms := 0) (As := [.int (r4 / 1024)]) (r := []) dX1_evaluate_227 mo1_push mv1_push lkRX1_89 rfl hZ_b0 (q := (RX1, TX1, 3)) rfl rfl rfl (Nat.le_of_ble_eq_true rfl) (by show _ + 1 ≤ d + _; omega) (Nat.le_refl _) (Nat.le_refl _) (pRt_mono ?_)
                  refine k1_push (d + 1) hW hZ_b0 hr37 ?_
                  intro _
                  show Ok g _ Qx 230 [(9, .int r6), (8, .int (r4 - r4 / 1024 * 1024)), (7, .int r4), (0, .ref b0), (1, .ref b1), (3, .ref b3), (5, .int y5), (6, .int y6)] [] (Z, r36, L, O)
                  refine ok_goto (t := 403) dX1_evaluate_230 (by decide) ?_
                  refine ok_iinc (u := (y6 + 1)) (l' := [(6, .int (y6 + 1)), (9, .int r6), (8, .int (r4 - r4 / 1024 * 1024)), (7, .int r4), (0, .ref b0), (1, .ref b1), (3, .ref b3), (5, .int y5)]) dX1_evaluate_403 7 rfl rfl (Nat.le_of_ble_eq_true rfl) rfl ?_
                  refine ok_goto (t := 28) dX1_evaluate_406 (by decide) ?_
                  refine ok_sub [4, 5, 6, 7, 0] rfl ?_
                  exact ih r36 b0 b1 b3 y5 (y6 + 1) hZ_b0 hZ_b1 hZ_b3 h
                · have h := (if_neg hc35).symm.trans h
                  by_cases hc38 : (r4 - r4 / 1024 * 1024) = 29
                  · have h := (if_pos hc38).symm.trans h
                    refine ok_tabEq (t := 288) (off := 220) dX1_evaluate_68 hc38 (by decide) (by decide) (by decide) (by decide) ?_
                    refine ok_aload_n dX1_evaluate_288 3 rfl ?_
                    refine ok_aload_n dX1_evaluate_289 3 rfl ?_
                    obtain ⟨r39, hr40, h⟩ := bd h
                    refine ok_callV (d := ((d + 1) + 2)) (mt := m1_pop) (mc := 0) (ms := 0) (As := []) (r := [.ref b0]) dX1_evaluate_290 mo1_pop mv1_pop lkRX1_93 rfl hZ_b0 (q := (RX1, TX1, 3)) rfl rfl rfl (Nat.le_of_ble_eq_true rfl) (by show _ + 1 ≤ d + _; omega) (Nat.le_refl _) (Nat.le_refl _) (pRt_mono ?_)
                    refine k1_pop (d + 1) hW hZ_b0 hr40 ?_
                    intro _
                    show Ok g _ Qx 293 [(9, .int r6), (8, .int (r4 - r4 / 1024 * 1024)), (7, .int r4), (0, .ref b0), (1, .ref b1), (3, .ref b3), (5, .int y5), (6, .int y6)] [.int r39.1, .ref b0] (Z, r39.2, L, O)
                    refine ok_ineg dX1_evaluate_293 ?_
                    obtain ⟨r41, hr42, h⟩ := bd h
                    refine ok_callV (d := ((d + 1) + 2)) (mt := m1_push) (mc := 0) (ms := 0) (As := [.int (-r39.1)]) (r := []) dX1_evaluate_294 mo1_push mv1_push lkRX1_89 rfl hZ_b0 (q := (RX1, TX1, 3)) rfl rfl rfl (Nat.le_of_ble_eq_true rfl) (by show _ + 1 ≤ d + _; omega) (Nat.le_refl _) (Nat.le_refl _) (pRt_mono ?_)
                    refine k1_push (d + 1) hW hZ_b0 hr42 ?_
                    intro _
                    show Ok g _ Qx 297 [(9, .int r6), (8, .int (r4 - r4 / 1024 * 1024)), (7, .int r4), (0, .ref b0), (1, .ref b1), (3, .ref b3), (5, .int y5), (6, .int y6)] [] (Z, r41, L, O)
                    refine ok_goto (t := 403) dX1_evaluate_297 (by decide) ?_
                    refine ok_iinc (u := (y6 + 1)) (l' := [(6, .int (y6 + 1)), (9, .int r6), (8, .int (r4 - r4 / 1024 * 1024)), (7, .int r4), (0, .ref b0), (1, .ref b1), (3, .ref b3), (5, .int y5)]) dX1_evaluate_403 7 rfl rfl (Nat.le_of_ble_eq_true rfl) rfl ?_
                    refine ok_goto (t := 28) dX1_evaluate_406 (by decide) ?_
                    refine ok_sub [4, 5, 6, 7, 0] rfl ?_
                    exact ih r41 b0 b1 b3 y5 (y6 + 1) hZ_b0 hZ_b1 hZ_b3 h
                  · have h := (if_neg hc38).symm.trans h
                    by_cases hc43 : (r4 - r4 / 1024 * 1024) = 42
                    · have h := (if_pos hc43).symm.trans h
                      refine ok_tabEq (t := 319) (off := 251) dX1_evaluate_68 hc43 (by decide) (by decide) (by decide) (by decide) ?_
                      refine ok_aload_n dX1_evaluate_319 3 rfl ?_
                      obtain ⟨r44, hr45, h⟩ := bd h
                      refine ok_callV (d := ((d + 1) + 2)) (mt := m1_pop) (mc := 0) (ms := 0) (As := []) (r := []) dX1_evaluate_320 mo1_pop mv1_pop lkRX1_93 rfl hZ_b0 (q := (RX1, TX1, 3)) rfl rfl rfl (Nat.le_of_ble_eq_true rfl) (by show _ + 1 ≤ d + _; omega) (Nat.le_refl _) (Nat.le_refl _) (pRt_mono ?_)
                      refine k1_pop (d + 1) hW hZ_b0 hr45 ?_
                      intro _
                      show Ok g _ Qx 323 [(9, .int r6), (8, .int (r4 - r4 / 1024 * 1024)), (7, .int r4), (0, .ref b0), (1, .ref b1), (3, .ref b3), (5, .int y5), (6, .int y6)] [.int r44.1] (Z, r44.2, L, O)
                      refine ok_istore (l' := [(10, .int r44.1), (9, .int r6), (8, .int (r4 - r4 / 1024 * 1024)), (7, .int r4), (0, .ref b0), (1, .ref b1), (3, .ref b3), (5, .int y5), (6, .int y6)]) dX1_evaluate_323 (Nat.le_of_ble_eq_true rfl) rfl ?_
                      refine ok_aload_n dX1_evaluate_325 4 rfl ?_
                      refine ok_iload dX1_evaluate_326 2 rfl ?_
                      refine ok_aload_n dX1_evaluate_328 4 rfl ?_
                      obtain ⟨r46, hr47, h⟩ := bd h
                      refine ok_callV (d := ((d + 1) + 2)) (mt := m1_pop) (mc := 0) (ms := 0) (As := []) (r := [.int (r4 - r4 / 1024 * 1024), .ref b0]) dX1_evaluate_329 mo1_pop mv1_pop lkRX1_93 rfl hZ_b0 (q := (RX1, TX1, 3)) rfl rfl rfl (Nat.le_of_ble_eq_true rfl) (by show _ + 1 ≤ d + _; omega) (Nat.le_refl _) (Nat.le_refl _) (pRt_mono ?_)
                      refine k1_pop (d + 1) hW hZ_b0 hr47 ?_
                      intro _
                      show Ok g _ Qx 332 [(10, .int r44.1), (9, .int r6), (8, .int (r4 - r4 / 1024 * 1024)), (7, .int r4), (0, .ref b0), (1, .ref b1), (3, .ref b3), (5, .int y5), (6, .int y6)] [.int r46.1, .int (r4 - r4 / 1024 * 1024), .ref b0] (Z, r46.2, L, O)
                      refine ok_iload dX1_evaluate_332 0 rfl ?_
                      obtain ⟨r48, hr49, h⟩ := bd h
                      refine ok_callS (d := ((d + 0) + 3)) (mt := m1_reckon) (mc := 0) (ms := 0) (As := [.int (r4 - r4 / 1024 * 1024), .int r46.1, .int r44.1]) (r := [.ref b0]) dX1_evaluate_334 mo1_reckon mv1_reckon lkRX1_103 rfl rfl (Nat.le_of_ble_eq_true rfl) (by show _ + 1 ≤ d + _; omega) (Nat.le_refl _) (Nat.le_refl _) (pRt_mono ?_)
                      refine k1_reckon (d + 0) hW  hr49 ?_
                      intro _
                      show Ok g _ Qx 337 [(10, .int r44.1), (9, .int r6), (8, .int (r4 - r4 / 1024 * 1024)), (7, .int r4), (0, .ref b0), (1, .ref b1), (3, .ref b3), (5, .int y5), (6, .int y6)] [.int r48, .ref b0] (Z, r46.2, L, O)
                      obtain ⟨r50, hr51, h⟩ := bd h
                      refine ok_callV (d := ((d + 1) + 2)) (mt := m1_push) (mc := 0) (ms := 0) (As := [.int r48]) (r := []) dX1_evaluate_337 mo1_push mv1_push lkRX1_89 rfl hZ_b0 (q := (RX1, TX1, 3)) rfl rfl rfl (Nat.le_of_ble_eq_true rfl) (by show _ + 1 ≤ d + _; omega) (Nat.le_refl _) (Nat.le_refl _) (pRt_mono ?_)
                      refine k1_push (d + 1) hW hZ_b0 hr51 ?_
                      intro _
                      show Ok g _ Qx 340 [(10, .int r44.1), (9, .int r6), (8, .int (r4 - r4 / 1024 * 1024)), (7, .int r4), (0, .ref b0), (1, .ref b1), (3, .ref b3), (5, .int y5), (6, .int y6)] [] (Z, r50, L, O)
                      refine ok_goto (t := 403) dX1_evaluate_340 (by decide) ?_
                      refine ok_iinc (u := (y6 + 1)) (l' := [(6, .int (y6 + 1)), (10, .int r44.1), (9, .int r6), (8, .int (r4 - r4 / 1024 * 1024)), (7, .int r4), (0, .ref b0), (1, .ref b1), (3, .ref b3), (5, .int y5)]) dX1_evaluate_403 8 rfl rfl (Nat.le_of_ble_eq_true rfl) rfl ?_
                      refine ok_goto (t := 28) dX1_evaluate_406 (by decide) ?_
                      refine ok_sub [5, 6, 7, 8, 0] rfl ?_
                      exact ih r50 b0 b1 b3 y5 (y6 + 1) hZ_b0 hZ_b1 hZ_b3 h
                    · have h := (if_neg hc43).symm.trans h
                      by_cases hc52 : (r4 - r4 / 1024 * 1024) = 43
                      · have h := (if_pos hc52).symm.trans h
                        refine ok_tabEq (t := 319) (off := 251) dX1_evaluate_68 hc52 (by decide) (by decide) (by decide) (by decide) ?_
                        refine ok_aload_n dX1_evaluate_319 3 rfl ?_
                        obtain ⟨r53, hr54, h⟩ := bd h
                        refine ok_callV (d := ((d + 1) + 2)) (mt := m1_pop) (mc := 0) (ms := 0) (As := []) (r := []) dX1_evaluate_320 mo1_pop mv1_pop lkRX1_93 rfl hZ_b0 (q := (RX1, TX1, 3)) rfl rfl rfl (Nat.le_of_ble_eq_true rfl) (by show _ + 1 ≤ d + _; omega) (Nat.le_refl _) (Nat.le_refl _) (pRt_mono ?_)
                        refine k1_pop (d + 1) hW hZ_b0 hr54 ?_
                        intro _
                        show Ok g _ Qx 323 [(9, .int r6), (8, .int (r4 - r4 / 1024 * 1024)), (7, .int r4), (0, .ref b0), (1, .ref b1), (3, .ref b3), (5, .int y5), (6, .int y6)] [.int r53.1] (Z, r53.2, L, O)
                        refine ok_istore (l' := [(10, .int r53.1), (9, .int r6), (8, .int (r4 - r4 / 1024 * 1024)), (7, .int r4), (0, .ref b0), (1, .ref b1), (3, .ref b3), (5, .int y5), (6, .int y6)]) dX1_evaluate_323 (Nat.le_of_ble_eq_true rfl) rfl ?_
                        refine ok_aload_n dX1_evaluate_325 4 rfl ?_
                        refine ok_iload dX1_evaluate_326 2 rfl ?_
                        refine ok_aload_n dX1_evaluate_328 4 rfl ?_
                        obtain ⟨r55, hr56, h⟩ := bd h
                        refine ok_callV (d := ((d + 1) + 2)) (mt := m1_pop) (mc := 0) (ms := 0) (As := []) (r := [.int (r4 - r4 / 1024 * 1024), .ref b0]) dX1_evaluate_329 mo1_pop mv1_pop lkRX1_93 rfl hZ_b0 (q := (RX1, TX1, 3)) rfl rfl rfl (Nat.le_of_ble_eq_true rfl) (by show _ + 1 ≤ d + _; omega) (Nat.le_refl _) (Nat.le_refl _) (pRt_mono ?_)
                        refine k1_pop (d + 1) hW hZ_b0 hr56 ?_
                        intro _
                        show Ok g _ Qx 332 [(10, .int r53.1), (9, .int r6), (8, .int (r4 - r4 / 1024 * 1024)), (7, .int r4), (0, .ref b0), (1, .ref b1), (3, .ref b3), (5, .int y5), (6, .int y6)] [.int r55.1, .int (r4 - r4 / 1024 * 1024), .ref b0] (Z, r55.2, L, O)
                        refine ok_iload dX1_evaluate_332 0 rfl ?_
                        obtain ⟨r57, hr58, h⟩ := bd h
                        refine ok_callS (d := ((d + 0) + 3)) (mt := m1_reckon) (mc := 0) (ms := 0) (As := [.int (r4 - r4 / 1024 * 1024), .int r55.1, .int r53.1]) (r := [.ref b0]) dX1_evaluate_334 mo1_reckon mv1_reckon lkRX1_103 rfl rfl (Nat.le_of_ble_eq_true rfl) (by show _ + 1 ≤ d + _; omega) (Nat.le_refl _) (Nat.le_refl _) (pRt_mono ?_)
                        refine k1_reckon (d + 0) hW  hr58 ?_
                        intro _
                        show Ok g _ Qx 337 [(10, .int r53.1), (9, .int r6), (8, .int (r4 - r4 / 1024 * 1024)), (7, .int r4), (0, .ref b0), (1, .ref b1), (3, .ref b3), (5, .int y5), (6, .int y6)] [.int r57, .ref b0] (Z, r55.2, L, O)
                        obtain ⟨r59, hr60, h⟩ := bd h
                        refine ok_callV (d := ((d + 1) + 2)) (mt := m1_push) (mc := 0) (ms := 0) (As := [.int r57]) (r := []) dX1_evaluate_337 mo1_push mv1_push lkRX1_89 rfl hZ_b0 (q := (RX1, TX1, 3)) rfl rfl rfl (Nat.le_of_ble_eq_true rfl) (by show _ + 1 ≤ d + _; omega) (Nat.le_refl _) (Nat.le_refl _) (pRt_mono ?_)
                        refine k1_push (d + 1) hW hZ_b0 hr60 ?_
                        intro _
                        show Ok g _ Qx 340 [(10, .int r53.1), (9, .int r6), (8, .int (r4 - r4 / 1024 * 1024)), (7, .int r4), (0, .ref b0), (1, .ref b1), (3, .ref b3), (5, .int y5), (6, .int y6)] [] (Z, r59, L, O)
                        refine ok_goto (t := 403) dX1_evaluate_340 (by decide) ?_
                        refine ok_iinc (u := (y6 + 1)) (l' := [(6, .int (y6 + 1)), (10, .int r53.1), (9, .int r6), (8, .int (r4 - r4 / 1024 * 1024)), (7, .int r4), (0, .ref b0), (1, .ref b1), (3, .ref b3), (5, .int y5)]) dX1_evaluate_403 8 rfl rfl (Nat.le_of_ble_eq_true rfl) rfl ?_
                        refine ok_goto (t := 28) dX1_evaluate_406 (by decide) ?_
                        refine ok_sub [5, 6, 7, 8, 0] rfl ?_
                        exact ih r59 b0 b1 b3 y5 (y6 + 1) hZ_b0 hZ_b1 hZ_b3 h
                      · have h := (if_neg hc52).symm.trans h
                        by_cases hc61 : (r4 - r4 / 1024 * 1024) = 45
                        · have h := (if_pos hc61).symm.trans h
                          refine ok_tabEq (t := 319) (off := 251) dX1_evaluate_68 hc61 (by decide) (by decide) (by decide) (by decide) ?_
                          refine ok_aload_n dX1_evaluate_319 3 rfl ?_
                          obtain ⟨r62, hr63, h⟩ := bd h
                          refine ok_callV (d := ((d + 1) + 2)) (mt := m1_pop) (mc := 0) (ms := 0) (As := []) (r := []) dX1_evaluate_320 mo1_pop mv1_pop lkRX1_93 rfl hZ_b0 (q := (RX1, TX1, 3)) rfl rfl rfl (Nat.le_of_ble_eq_true rfl) (by show _ + 1 ≤ d + _; omega) (Nat.le_refl _) (Nat.le_refl _) (pRt_mono ?_)
                          refine k1_pop (d + 1) hW hZ_b0 hr63 ?_
                          intro _
                          show Ok g _ Qx 323 [(9, .int r6), (8, .int (r4 - r4 / 1024 * 1024)), (7, .int r4), (0, .ref b0), (1, .ref b1), (3, .ref b3), (5, .int y5), (6, .int y6)] [.int r62.1] (Z, r62.2, L, O)
                          refine ok_istore (l' := [(10, .int r62.1), (9, .int r6), (8, .int (r4 - r4 / 1024 * 1024)), (7, .int r4), (0, .ref b0), (1, .ref b1), (3, .ref b3), (5, .int y5), (6, .int y6)]) dX1_evaluate_323 (Nat.le_of_ble_eq_true rfl) rfl ?_
                          refine ok_aload_n dX1_evaluate_325 4 rfl ?_
                          refine ok_iload dX1_evaluate_326 2 rfl ?_
                          refine ok_aload_n dX1_evaluate_328 4 rfl ?_
                          obtain ⟨r64, hr65, h⟩ := bd h
                          refine ok_callV (d := ((d + 1) + 2)) (mt := m1_pop) (mc := 0) (ms := 0) (As := []) (r := [.int (r4 - r4 / 1024 * 1024), .ref b0]) dX1_evaluate_329 mo1_pop mv1_pop lkRX1_93 rfl hZ_b0 (q := (RX1, TX1, 3)) rfl rfl rfl (Nat.le_of_ble_eq_true rfl) (by show _ + 1 ≤ d + _; omega) (Nat.le_refl _) (Nat.le_refl _) (pRt_mono ?_)
                          refine k1_pop (d + 1) hW hZ_b0 hr65 ?_
                          intro _
                          show Ok g _ Qx 332 [(10, .int r62.1), (9, .int r6), (8, .int (r4 - r4 / 1024 * 1024)), (7, .int r4), (0, .ref b0), (1, .ref b1), (3, .ref b3), (5, .int y5), (6, .int y6)] [.int r64.1, .int (r4 - r4 / 1024 * 1024), .ref b0] (Z, r64.2, L, O)
                          refine ok_iload dX1_evaluate_332 0 rfl ?_
                          obtain ⟨r66, hr67, h⟩ := bd h
                          refine ok_callS (d := ((d + 0) + 3)) (mt := m1_reckon) (mc := 0) (ms := 0) (As := [.int (r4 - r4 / 1024 * 1024), .int r64.1, .int r62.1]) (r := [.ref b0]) dX1_evaluate_334 mo1_reckon mv1_reckon lkRX1_103 rfl rfl (Nat.le_of_ble_eq_true rfl) (by show _ + 1 ≤ d + _; omega) (Nat.le_refl _) (Nat.le_refl _) (pRt_mono ?_)
                          refine k1_reckon (d + 0) hW  hr67 ?_
                          intro _
                          show Ok g _ Qx 337 [(10, .int r62.1), (9, .int r6), (8, .int (r4 - r4 / 1024 * 1024)), (7, .int r4), (0, .ref b0), (1, .ref b1), (3, .ref b3), (5, .int y5), (6, .int y6)] [.int r66, .ref b0] (Z, r64.2, L, O)
                          obtain ⟨r68, hr69, h⟩ := bd h
                          refine ok_callV (d := ((d + 1) + 2)) (mt := m1_push) (mc := 0) (ms := 0) (As := [.int r66]) (r := []) dX1_evaluate_337 mo1_push mv1_push lkRX1_89 rfl hZ_b0 (q := (RX1, TX1, 3)) rfl rfl rfl (Nat.le_of_ble_eq_true rfl) (by show _ + 1 ≤ d + _; omega) (Nat.le_refl _) (Nat.le_refl _) (pRt_mono ?_)
                          refine k1_push (d + 1) hW hZ_b0 hr69 ?_
                          intro _
                          show Ok g _ Qx 340 [(10, .int r62.1), (9, .int r6), (8, .int (r4 - r4 / 1024 * 1024)), (7, .int r4), (0, .ref b0), (1, .ref b1), (3, .ref b3), (5, .int y5), (6, .int y6)] [] (Z, r68, L, O)
                          refine ok_goto (t := 403) dX1_evaluate_340 (by decide) ?_
                          refine ok_iinc (u := (y6 + 1)) (l' := [(6, .int (y6 + 1)), (10, .int r62.1), (9, .int r6), (8, .int (r4 - r4 / 1024 * 1024)), (7, .int r4), (0, .ref b0), (1, .ref b1), (3, .ref b3), (5, .int y5)]) dX1_evaluate_403 8 rfl rfl (Nat.le_of_ble_eq_true rfl) rfl ?_
                          refine ok_goto (t := 28) dX1_evaluate_406 (by decide) ?_
                          refine ok_sub [5, 6, 7, 8, 0] rfl ?_
                          exact ih r68 b0 b1 b3 y5 (y6 + 1) hZ_b0 hZ_b1 hZ_b3 h
                        · have h := (if_neg hc61).symm.trans h
                          by_cases hc70 : (r4 - r4 / 1024 * 1024) = 47
                          · have h := (if_pos hc70).symm.trans h
                            refine ok_tabEq (t := 319) (off := 251) dX1_evaluate_68 hc70 (by decide) (by decide) (by decide) (by decide) ?_
                            refine ok_aload_n dX1_evaluate_319 3 rfl ?_
                            obtain ⟨r71, hr72, h⟩ := bd h
                            refine ok_callV (d := ((d + 1) + 2)) (mt := m1_pop) (mc := 0) (ms := 0) (As := []) (r := []) dX1_evaluate_320 mo1_pop mv1_pop lkRX1_93 rfl hZ_b0 (q := (RX1, TX1, 3)) rfl rfl rfl (Nat.le_of_ble_eq_true rfl) (by show _ + 1 ≤ d + _; omega) (Nat.le_refl _) (Nat.le_refl _) (pRt_mono ?_)
                            refine k1_pop (d + 1) hW hZ_b0 hr72 ?_
                            intro _
                            show Ok g _ Qx 323 [(9, .int r6), (8, .int (r4 - r4 / 1024 * 1024)), (7, .int r4), (0, .ref b0), (1, .ref b1), (3, .ref b3), (5, .int y5), (6, .int y6)] [.int r71.1] (Z, r71.2, L, O)
                            refine ok_istore (l' := [(10, .int r71.1), (9, .int r6), (8, .int (r4 - r4 / 1024 * 1024)), (7, .int r4), (0, .ref b0), (1, .ref b1), (3, .ref b3), (5, .int y5), (6, .int y6)]) dX1_evaluate_323 (Nat.le_of_ble_eq_true rfl) rfl ?_
                            refine ok_aload_n dX1_evaluate_325 4 rfl ?_
                            refine ok_iload dX1_evaluate_326 2 rfl ?_
                            refine ok_aload_n dX1_evaluate_328 4 rfl ?_
                            obtain ⟨r73, hr74, h⟩ := bd h
                            refine ok_callV (d := ((d + 1) + 2)) (mt := m1_pop) (mc := 0) (ms := 0) (As := []) (r := [.int (r4 - r4 / 1024 * 1024), .ref b0]) dX1_evaluate_329 mo1_pop mv1_pop lkRX1_93 rfl hZ_b0 (q := (RX1, TX1, 3)) rfl rfl rfl (Nat.le_of_ble_eq_true rfl) (by show _ + 1 ≤ d + _; omega) (Nat.le_refl _) (Nat.le_refl _) (pRt_mono ?_)
                            refine k1_pop (d + 1) hW hZ_b0 hr74 ?_
                            intro _
                            show Ok g _ Qx 332 [(10, .int r71.1), (9, .int r6), (8, .int (r4 - r4 / 1024 * 1024)), (7, .int r4), (0, .ref b0), (1, .ref b1), (3, .ref b3), (5, .int y5), (6, .int y6)] [.int r73.1, .int (r4 - r4 / 1024 * 1024), .ref b0] (Z, r73.2, L, O)
                            refine ok_iload dX1_evaluate_332 0 rfl ?_
                            obtain ⟨r75, hr76, h⟩ := bd h
                            refine ok_callS (d := ((d + 0) + 3)) (mt := m1_reckon) (mc := 0) (ms := 0) (As := [.int (r4 - r4 / 1024 * 1024), .int r73.1, .int r71.1]) (r := [.ref b0]) dX1_evaluate_334 mo1_reckon mv1_reckon lkRX1_103 rfl rfl (Nat.le_of_ble_eq_true rfl) (by show _ + 1 ≤ d + _; omega) (Nat.le_refl _) (Nat.le_refl _) (pRt_mono ?_)
                            refine k1_reckon (d + 0) hW  hr76 ?_
                            intro _
                            show Ok g _ Qx 337 [(10, .int r71.1), (9, .int r6), (8, .int (r4 - r4 / 1024 * 1024)), (7, .int r4), (0, .ref b0), (1, .ref b1), (3, .ref b3), (5, .int y5), (6, .int y6)] [.int r75, .ref b0] (Z, r73.2, L, O)
                            obtain ⟨r77, hr78, h⟩ := bd h
                            refine ok_callV (d := ((d + 1) + 2)) (mt := m1_push) (mc := 0) (ms := 0) (As := [.int r75]) (r := []) dX1_evaluate_337 mo1_push mv1_push lkRX1_89 rfl hZ_b0 (q := (RX1, TX1, 3)) rfl rfl rfl (Nat.le_of_ble_eq_true rfl) (by show _ + 1 ≤ d + _; omega) (Nat.le_refl _) (Nat.le_refl _) (pRt_mono ?_)
                            refine k1_push (d + 1) hW hZ_b0 hr78 ?_
                            intro _
                            show Ok g _ Qx 340 [(10, .int r71.1), (9, .int r6), (8, .int (r4 - r4 / 1024 * 1024)), (7, .int r4), (0, .ref b0), (1, .ref b1), (3, .ref b3), (5, .int y5), (6, .int y6)] [] (Z, r77, L, O)
                            refine ok_goto (t := 403) dX1_evaluate_340 (by decide) ?_
                            refine ok_iinc (u := (y6 + 1)) (l' := [(6, .int (y6 + 1)), (10, .int r71.1), (9, .int r6), (8, .int (r4 - r4 / 1024 * 1024)), (7, .int r4), (0, .ref b0), (1, .ref b1), (3, .ref b3), (5, .int y5)]) dX1_evaluate_403 8 rfl rfl (Nat.le_of_ble_eq_true rfl) rfl ?_
                            refine ok_goto (t := 28) dX1_evaluate_406 (by decide) ?_
                            refine ok_sub [5, 6, 7, 8, 0] rfl ?_
                            exact ih r77 b0 b1 b3 y5 (y6 + 1) hZ_b0 hZ_b1 hZ_b3 h
                          · have h := (if_neg hc70).symm.trans h
                            have kd : Ok g (d + 4, RX1, cX1_evaluate, 12, false, 0, 0, Z.length, pSl Z) Qx 343 [(9, .int r6), (8, .int (r4 - r4 / 1024 * 1024)), (7, .int r4), (0, .ref b0), (1, .ref b1), (3, .ref b3), (5, .int y5), (6, .int y6)] [] (Z, I, L, O) := by
                              refine ok_iload dX1_evaluate_343 1 rfl ?_
                              refine ok_bipush (v := 7) dX1_evaluate_345 (by decide) ?_
                              refine ok_icmp_lt (t := 374) dX1_evaluate_347 (by decide) (fun hc79 => ?_) (fun hc79 => ?_)
                              · have h := (if_pos hc79).symm.trans h
                                refine ok_sub [3, 4, 5, 6, 7, 1] rfl ?_
                                exact o1_evaluate_c374 d hW hQ ih I b0 b1 b3 y5 y6 (r4 - r4 / 1024 * 1024) hZ_b0 hZ_b1 hZ_b3 h
                              · have h := (if_neg hc79).symm.trans h
                                refine ok_iload dX1_evaluate_350 1 rfl ?_
                                refine ok_bipush (v := 13) dX1_evaluate_352 (by decide) ?_
                                refine ok_icmp_gt (t := 374) dX1_evaluate_354 (by decide) (fun hc80 => ?_) (fun hc80 => ?_)
                                · have h := (if_pos hc80).symm.trans h
                                  refine ok_sub [3, 4, 5, 6, 7, 1] rfl ?_
                                  exact o1_evaluate_c374 d hW hQ ih I b0 b1 b3 y5 y6 (r4 - r4 / 1024 * 1024) hZ_b0 hZ_b1 hZ_b3 h
                                · have h := (if_neg hc80).symm.trans h
                                  refine ok_aload_n dX1_evaluate_357 3 rfl ?_
                                  refine ok_aload_n dX1_evaluate_358 3 rfl ?_
                                  have hT81 : Z[(rO O b0 1)]? = some (13, 7) := (wt_f (ci := 1) (k := 1) hW hZ_b0 rfl).2
                                  refine ok_getR (ci := 1) (k := 1) dX1_evaluate_359 flRX1_15 rfl hW hZ_b0 (by decide) ?_
                                  refine ok_iload dX1_evaluate_362 1 rfl ?_
                                  refine ok_bipush (v := 7) dX1_evaluate_364 (by decide) ?_
                                  refine ok_isub dX1_evaluate_366 ?_
                                  obtain ⟨hg82, h⟩ := gd h
                                  refine ok_iald2 (N := ((r4 - r4 / 1024 * 1024) - 7).toNatClampNeg) dX1_evaluate_367 hT81 hg82 rfl ?_
                                  obtain ⟨r83, hr84, h⟩ := bd h
                                  refine ok_callV (d := ((d + 1) + 2)) (mt := m1_push) (mc := 0) (ms := 0) (As := [.int (I (rO O b0 1) ((r4 - r4 / 1024 * 1024) - 7).toNatClampNeg)]) (r := []) dX1_evaluate_368 mo1_push mv1_push lkRX1_89 rfl hZ_b0 (q := (RX1, TX1, 3)) rfl rfl rfl (Nat.le_of_ble_eq_true rfl) (by show _ + 1 ≤ d + _; omega) (Nat.le_refl _) (Nat.le_refl _) (pRt_mono ?_)
                                  refine k1_push (d + 1) hW hZ_b0 hr84 ?_
                                  intro _
                                  show Ok g _ Qx 371 [(9, .int r6), (8, .int (r4 - r4 / 1024 * 1024)), (7, .int r4), (0, .ref b0), (1, .ref b1), (3, .ref b3), (5, .int y5), (6, .int y6)] [] (Z, r83, L, O)
                                  refine ok_goto (t := 403) dX1_evaluate_371 (by decide) ?_
                                  refine ok_iinc (u := (y6 + 1)) (l' := [(6, .int (y6 + 1)), (9, .int r6), (8, .int (r4 - r4 / 1024 * 1024)), (7, .int r4), (0, .ref b0), (1, .ref b1), (3, .ref b3), (5, .int y5)]) dX1_evaluate_403 7 rfl rfl (Nat.le_of_ble_eq_true rfl) rfl ?_
                                  refine ok_goto (t := 28) dX1_evaluate_406 (by decide) ?_
                                  refine ok_sub [4, 5, 6, 7, 0] rfl ?_
                                  exact ih r83 b0 b1 b3 y5 (y6 + 1) hZ_b0 hZ_b1 hZ_b3 h
                            by_cases hc85 : (r4 - r4 / 1024 * 1024) = 16
                            · refine ok_tabEq (t := 343) (off := 275) dX1_evaluate_68 hc85 (by decide) (by decide) (by decide) (by decide) ?_
                              exact kd
                            · by_cases hc86 : (r4 - r4 / 1024 * 1024) = 19
                              · refine ok_tabEq (t := 343) (off := 275) dX1_evaluate_68 hc86 (by decide) (by decide) (by decide) (by decide) ?_
                                exact kd
                              · by_cases hc87 : (r4 - r4 / 1024 * 1024) = 20
                                · refine ok_tabEq (t := 343) (off := 275) dX1_evaluate_68 hc87 (by decide) (by decide) (by decide) (by decide) ?_
                                  exact kd
                                · by_cases hc88 : (r4 - r4 / 1024 * 1024) = 21
                                  · refine ok_tabEq (t := 343) (off := 275) dX1_evaluate_68 hc88 (by decide) (by decide) (by decide) (by decide) ?_
                                    exact kd
                                  · by_cases hc89 : (r4 - r4 / 1024 * 1024) = 23
                                    · refine ok_tabEq (t := 343) (off := 275) dX1_evaluate_68 hc89 (by decide) (by decide) (by decide) (by decide) ?_
                                      exact kd
                                    · by_cases hc90 : (r4 - r4 / 1024 * 1024) = 24
                                      · refine ok_tabEq (t := 343) (off := 275) dX1_evaluate_68 hc90 (by decide) (by decide) (by decide) (by decide) ?_
                                        exact kd
                                      · by_cases hc91 : (r4 - r4 / 1024 * 1024) = 25
                                        · refine ok_tabEq (t := 343) (off := 275) dX1_evaluate_68 hc91 (by decide) (by decide) (by decide) (by decide) ?_
                                          exact kd
                                        · by_cases hc92 : (r4 - r4 / 1024 * 1024) = 26
                                          · refine ok_tabEq (t := 343) (off := 275) dX1_evaluate_68 hc92 (by decide) (by decide) (by decide) (by decide) ?_
                                            exact kd
                                          · by_cases hc93 : (r4 - r4 / 1024 * 1024) = 27
                                            · refine ok_tabEq (t := 343) (off := 275) dX1_evaluate_68 hc93 (by decide) (by decide) (by decide) (by decide) ?_
                                              exact kd
                                            · by_cases hc94 : (r4 - r4 / 1024 * 1024) = 30
                                              · refine ok_tabEq (t := 343) (off := 275) dX1_evaluate_68 hc94 (by decide) (by decide) (by decide) (by decide) ?_
                                                exact kd
                                              · by_cases hc95 : (r4 - r4 / 1024 * 1024) = 31
                                                · refine ok_tabEq (t := 343) (off := 275) dX1_evaluate_68 hc95 (by decide) (by decide) (by decide) (by decide) ?_
                                                  exact kd
                                                · by_cases hc96 : (r4 - r4 / 1024 * 1024) = 32
                                                  · refine ok_tabEq (t := 343) (off := 275) dX1_evaluate_68 hc96 (by decide) (by decide) (by decide) (by decide) ?_
                                                    exact kd
                                                  · by_cases hc97 : (r4 - r4 / 1024 * 1024) = 33
                                                    · refine ok_tabEq (t := 343) (off := 275) dX1_evaluate_68 hc97 (by decide) (by decide) (by decide) (by decide) ?_
                                                      exact kd
                                                    · by_cases hc98 : (r4 - r4 / 1024 * 1024) = 34
                                                      · refine ok_tabEq (t := 343) (off := 275) dX1_evaluate_68 hc98 (by decide) (by decide) (by decide) (by decide) ?_
                                                        exact kd
                                                      · by_cases hc99 : (r4 - r4 / 1024 * 1024) = 35
                                                        · refine ok_tabEq (t := 343) (off := 275) dX1_evaluate_68 hc99 (by decide) (by decide) (by decide) (by decide) ?_
                                                          exact kd
                                                        · by_cases hc100 : (r4 - r4 / 1024 * 1024) = 36
                                                          · refine ok_tabEq (t := 343) (off := 275) dX1_evaluate_68 hc100 (by decide) (by decide) (by decide) (by decide) ?_
                                                            exact kd
                                                          · by_cases hc101 : (r4 - r4 / 1024 * 1024) = 37
                                                            · refine ok_tabEq (t := 343) (off := 275) dX1_evaluate_68 hc101 (by decide) (by decide) (by decide) (by decide) ?_
                                                              exact kd
                                                            · by_cases hc102 : (r4 - r4 / 1024 * 1024) = 38
                                                              · refine ok_tabEq (t := 343) (off := 275) dX1_evaluate_68 hc102 (by decide) (by decide) (by decide) (by decide) ?_
                                                                exact kd
                                                              · by_cases hc103 : (r4 - r4 / 1024 * 1024) = 39
                                                                · refine ok_tabEq (t := 343) (off := 275) dX1_evaluate_68 hc103 (by decide) (by decide) (by decide) (by decide) ?_
                                                                  exact kd
                                                                · by_cases hc104 : (r4 - r4 / 1024 * 1024) = 40
                                                                  · refine ok_tabEq (t := 343) (off := 275) dX1_evaluate_68 hc104 (by decide) (by decide) (by decide) (by decide) ?_
                                                                    exact kd
                                                                  · by_cases hc105 : (r4 - r4 / 1024 * 1024) = 41
                                                                    · refine ok_tabEq (t := 343) (off := 275) dX1_evaluate_68 hc105 (by decide) (by decide) (by decide) (by decide) ?_
                                                                      exact kd
                                                                    · by_cases hc106 : (r4 - r4 / 1024 * 1024) = 44
                                                                      · refine ok_tabEq (t := 343) (off := 275) dX1_evaluate_68 hc106 (by decide) (by decide) (by decide) (by decide) ?_
                                                                        exact kd
                                                                      · by_cases hc107 : (r4 - r4 / 1024 * 1024) = 46
                                                                        · refine ok_tabEq (t := 343) (off := 275) dX1_evaluate_68 hc107 (by decide) (by decide) (by decide) (by decide) ?_
                                                                          exact kd
                                                                        · refine ok_tabOut (t := 343) dX1_evaluate_68 (by have n14 := neI hc8 (a := 14) (by decide); have n15 := neI hc15 (a := 15) (by decide); have n17 := neI hc22 (a := 17) (by decide); have n18 := neI hc26 (a := 18) (by decide); have n22 := neI hc27 (a := 22) (by decide); have n28 := neI hc35 (a := 28) (by decide); have n29 := neI hc38 (a := 29) (by decide); have n42 := neI hc43 (a := 42) (by decide); have n43 := neI hc52 (a := 43) (by decide); have n45 := neI hc61 (a := 45) (by decide); have n47 := neI hc70 (a := 47) (by decide); have n16 := neI hc85 (a := 16) (by decide); have n19 := neI hc86 (a := 19) (by decide); have n20 := neI hc87 (a := 20) (by decide); have n21 := neI hc88 (a := 21) (by decide); have n23 := neI hc89 (a := 23) (by decide); have n24 := neI hc90 (a := 24) (by decide); have n25 := neI hc91 (a := 25) (by decide); have n26 := neI hc92 (a := 26) (by decide); have n27 := neI hc93 (a := 27) (by decide); have n30 := neI hc94 (a := 30) (by decide); have n31 := neI hc95 (a := 31) (by decide); have n32 := neI hc96 (a := 32) (by decide); have n33 := neI hc97 (a := 33) (by decide); have n34 := neI hc98 (a := 34) (by decide); have n35 := neI hc99 (a := 35) (by decide); have n36 := neI hc100 (a := 36) (by decide); have n37 := neI hc101 (a := 37) (by decide); have n38 := neI hc102 (a := 38) (by decide); have n39 := neI hc103 (a := 39) (by decide); have n40 := neI hc104 (a := 40) (by decide); have n41 := neI hc105 (a := 41) (by decide); have n44 := neI hc106 (a := 44) (by decide); have n46 := neI hc107 (a := 46) (by decide); omega) (by decide) ?_
                                                                          exact kd
def f1_evaluate (n : Nat) (I : (Nat → Nat → Int32)) (O : (Nat → Nat → Option Nat)) (a0 : Nat) (a1 : Nat) (x2 : Int32) (a3 : Nat) : Option (Int32 × (Nat → Nat → Int32)) := (f7_lawAt I O a1 x2).bind fun r1 => (f7_second I O a1 r1).bind fun r3 => bl (sI I a0 2 (0 : Int32)) fun I5 => (f7_first I5 O a1 r1).bind fun r6 => f1_evaluate_c28 n O n I5 a0 a1 a3 r3 r6
set_option maxHeartbeats 4000000 in
set_option maxRecDepth 20000 in
theorem o1_evaluate {g : pG} {Qx : Option Value → pW → Prop} {Z : pZ} {I : (Nat → Nat → Int32)} {L : (Nat → Nat → Int64)} {O : (Nat → Nat → Option Nat)} {n : Nat} {a0 : Nat} {a1 : Nat} {x2 : Int32} {a3 : Nat} {res : Int32 × (Nat → Nat → Int32)} (d : Nat) (hW : WT Z O) (hZ0 : Z[a0]? = some (1, 3)) (hZ1 : Z[a1]? = some (7, 7)) (hZ3 : Z[a3]? = some (10, 5)) (h : f1_evaluate n I O a0 a1 x2 a3 = some res) (hQ : Qx (some (.int res.1)) (Z, res.2, L, O)) : Ok g (d + 4, RX1, cX1_evaluate, 12, false, 0, 0, Z.length, pSl Z) Qx 0 [(0, .ref a0), (1, .ref a1), (2, .int x2), (3, .ref a3)] [] (Z, I, L, O) := by
  unfold f1_evaluate at h
  refine ok_aload_n dX1_evaluate_0 1 rfl ?_
  refine ok_iload_n dX1_evaluate_1 2 rfl ?_
  obtain ⟨r1, hr2, h⟩ := bd h
  refine ok_callV (d := ((d + 1) + 2)) (mt := m7_lawAt) (mc := 0) (ms := 0) (As := [.int x2]) (r := []) dX1_evaluate_2 mo7_lawAt mv7_lawAt lkRX1_73 rfl hZ1 (q := (RX7, TX7, 7)) rfl rfl rfl (Nat.le_of_ble_eq_true rfl) (by show _ + 1 ≤ d + _; omega) (Nat.le_refl _) (Nat.le_refl _) (pRt_mono ?_)
  refine k7_lawAt (d + 1) hW hZ1 hr2 ?_
  intro _
  show Ok g _ Qx 5 [(0, .ref a0), (1, .ref a1), (2, .int x2), (3, .ref a3)] [.int r1] (Z, I, L, O)
  refine ok_istore (l' := [(4, .int r1), (0, .ref a0), (1, .ref a1), (2, .int x2), (3, .ref a3)]) dX1_evaluate_5 (Nat.le_of_ble_eq_true rfl) rfl ?_
  refine ok_aload_n dX1_evaluate_7 2 rfl ?_
  refine ok_iload dX1_evaluate_8 0 rfl ?_
  obtain ⟨r3, hr4, h⟩ := bd h
  refine ok_callV (d := ((d + 1) + 2)) (mt := m7_second) (mc := 0) (ms := 0) (As := [.int r1]) (r := []) dX1_evaluate_10 mo7_second mv7_second lkRX1_77 rfl hZ1 (q := (RX7, TX7, 7)) rfl rfl rfl (Nat.le_of_ble_eq_true rfl) (by show _ + 1 ≤ d + _; omega) (Nat.le_refl _) (Nat.le_refl _) (pRt_mono ?_)
  refine k7_second (d + 1) hW hZ1 hr4 ?_
  intro _
  show Ok g _ Qx 13 [(4, .int r1), (0, .ref a0), (1, .ref a1), (2, .int x2), (3, .ref a3)] [.int r3] (Z, I, L, O)
  refine ok_istore (l' := [(5, .int r3), (4, .int r1), (0, .ref a0), (1, .ref a1), (2, .int x2), (3, .ref a3)]) dX1_evaluate_13 (Nat.le_of_ble_eq_true rfl) rfl ?_
  refine ok_aload_n dX1_evaluate_15 2 rfl ?_
  refine ok_iconst (v := 0) dX1_evaluate_16 (by decide) ?_
  obtain ⟨I5, eI5, h⟩ := blE h
  refine ok_putI2 (ci := 1) (k := 2) dX1_evaluate_17 flRX1_80 rfl (Or.inl rfl) hZ0 (by decide) eI5 ?_
  refine ok_aload_n dX1_evaluate_20 3 rfl ?_
  refine ok_iload dX1_evaluate_21 1 rfl ?_
  obtain ⟨r6, hr7, h⟩ := bd h
  refine ok_callV (d := ((d + 1) + 2)) (mt := m7_first) (mc := 0) (ms := 0) (As := [.int r1]) (r := []) dX1_evaluate_23 mo7_first mv7_first lkRX1_83 rfl hZ1 (q := (RX7, TX7, 7)) rfl rfl rfl (Nat.le_of_ble_eq_true rfl) (by show _ + 1 ≤ d + _; omega) (Nat.le_refl _) (Nat.le_refl _) (pRt_mono ?_)
  refine k7_first (d + 1) hW hZ1 hr7 ?_
  intro _
  show Ok g _ Qx 26 [(5, .int r3), (4, .int r1), (0, .ref a0), (1, .ref a1), (2, .int x2), (3, .ref a3)] [.int r6] (Z, I5, L, O)
  refine ok_istore (l' := [(6, .int r6), (5, .int r3), (4, .int r1), (0, .ref a0), (1, .ref a1), (2, .int x2), (3, .ref a3)]) dX1_evaluate_26 (Nat.le_of_ble_eq_true rfl) rfl ?_
  refine ok_sub [3, 4, 6, 1, 0] rfl ?_
  exact o1_evaluate_c28 d hW hQ  n I5 a0 a1 a3 r3 r6 hZ0 hZ1 hZ3 h
theorem k1_evaluate {g : pG} {Q : Option Value → pW → Prop} {Z : pZ} {I : (Nat → Nat → Int32)} {L : (Nat → Nat → Int64)} {O : (Nat → Nat → Option Nat)} {n : Nat} {a0 : Nat} {a1 : Nat} {x2 : Int32} {a3 : Nat} {res : Int32 × (Nat → Nat → Int32)} (d : Nat) (hW : WT Z O) (hZ0 : Z[a0]? = some (1, 3)) (hZ1 : Z[a1]? = some (7, 7)) (hZ3 : Z[a3]? = some (10, 5)) (h : f1_evaluate n I O a0 a1 x2 a3 = some res) (hQ : Q (some (.int res.1)) (Z, res.2, L, O)) : CT g (d + 4) m1_evaluate 0 0 [.ref a0, .ref a1, .int x2, .ref a3] (Z, I, L, O) Q :=
  ct_of_ok (mt := m1_evaluate) (ini := false) mo1_evaluate.2.2.2.2 (fun h => by cases h) (Nat.le_of_ble_eq_true rfl) (o1_evaluate d hW hZ0 hZ1 hZ3 h ⟨trivial, hQ, rfl, rfl⟩)
theorem dX1_nameChild_0 : decode cX1_nameChild 0 = .ok (.aload_n 0, 1) := by decide +kernel
theorem dX1_nameChild_1 : decode cX1_nameChild 1 = .ok (.getfield 15, 3) := by decide +kernel
theorem dX1_nameChild_4 : decode cX1_nameChild 4 = .ok (.iconst 3, 1) := by decide +kernel
theorem dX1_nameChild_5 : decode cX1_nameChild 5 = .ok (.iload_n 1, 1) := by decide +kernel
theorem dX1_nameChild_6 : decode cX1_nameChild 6 = .ok (.iastore, 1) := by decide +kernel
theorem dX1_nameChild_7 : decode cX1_nameChild 7 = .ok (.aload_n 0, 1) := by decide +kernel
theorem dX1_nameChild_8 : decode cX1_nameChild 8 = .ok (.getfield 15, 3) := by decide +kernel
theorem dX1_nameChild_11 : decode cX1_nameChild 11 = .ok (.iconst 4, 1) := by decide +kernel
theorem dX1_nameChild_12 : decode cX1_nameChild 12 = .ok (.iload_n 2, 1) := by decide +kernel
theorem dX1_nameChild_13 : decode cX1_nameChild 13 = .ok (.iastore, 1) := by decide +kernel
theorem dX1_nameChild_14 : decode cX1_nameChild 14 = .ok (.return_, 1) := by decide +kernel
def m1_nameChild : pMT := (yX1_nameChild, cX1_nameChild, 3, none)
theorem mo1_nameChild : mOK m1_nameChild 2 := ⟨tb_i 734 (by decide +kernel), wi_RX1, ⟨wn_RX1.1, wn_RX1.2, by decide +kernel⟩, by decide, plainFor_of_name wp_RX1⟩
theorem mv1_nameChild : mV m1_nameChild := ⟨tb_i 733 (by decide +kernel), tb_p 30 (by decide +kernel)⟩
def f1_nameChild (I : (Nat → Nat → Int32)) (O : (Nat → Nat → Option Nat)) (a0 : Nat) (x1 : Int32) (x2 : Int32) : Option ((Nat → Nat → Int32)) := bl (sI I (rO O a0 1) 3 x1) fun I2 => bl (sI I2 (rO O a0 1) 4 x2) fun I3 => some (I3)
set_option maxHeartbeats 4000000 in
set_option maxRecDepth 20000 in
theorem o1_nameChild {g : pG} {Qx : Option Value → pW → Prop} {Z : pZ} {I : (Nat → Nat → Int32)} {L : (Nat → Nat → Int64)} {O : (Nat → Nat → Option Nat)} {a0 : Nat} {x1 : Int32} {x2 : Int32} {res : (Nat → Nat → Int32)} (d : Nat) (hW : WT Z O) (hZ0 : Z[a0]? = some (1, 3)) (h : f1_nameChild I O a0 x1 x2 = some res) (hQ : Qx none (Z, res, L, O)) : Ok g (d + 2, RX1, cX1_nameChild, 3, false, 0, 0, Z.length, pSl Z) Qx 0 [(0, .ref a0), (1, .int x1), (2, .int x2)] [] (Z, I, L, O) := by
  unfold f1_nameChild at h
  refine ok_aload_n dX1_nameChild_0 0 rfl ?_
  have hT1 : Z[(rO O a0 1)]? = some (13, 7) := (wt_f (ci := 1) (k := 1) hW hZ0 rfl).2
  refine ok_getR (ci := 1) (k := 1) dX1_nameChild_1 flRX1_15 rfl hW hZ0 (by decide) ?_
  refine ok_iconst (v := 3) dX1_nameChild_4 (by decide) ?_
  refine ok_iload_n dX1_nameChild_5 1 rfl ?_
  obtain ⟨I2, eI2, h⟩ := blE h
  refine ok_iast3 dX1_nameChild_6 hT1 (by unfold vp_in; decide) (by decide) eI2 ?_
  refine ok_aload_n dX1_nameChild_7 0 rfl ?_
  refine ok_getR (ci := 1) (k := 1) dX1_nameChild_8 flRX1_15 rfl hW hZ0 (by decide) ?_
  refine ok_iconst (v := 4) dX1_nameChild_11 (by decide) ?_
  refine ok_iload_n dX1_nameChild_12 2 rfl ?_
  obtain ⟨I3, eI3, h⟩ := blE h
  refine ok_iast3 dX1_nameChild_13 hT1 (by unfold vp_in; decide) (by decide) eI3 ?_
  cases h
  exact ok_vret dX1_nameChild_14 hQ
theorem k1_nameChild {g : pG} {Q : Option Value → pW → Prop} {Z : pZ} {I : (Nat → Nat → Int32)} {L : (Nat → Nat → Int64)} {O : (Nat → Nat → Option Nat)} {a0 : Nat} {x1 : Int32} {x2 : Int32} {res : (Nat → Nat → Int32)} (d : Nat) (hW : WT Z O) (hZ0 : Z[a0]? = some (1, 3)) (h : f1_nameChild I O a0 x1 x2 = some res) (hQ : Q none (Z, res, L, O)) : CT g (d + 2) m1_nameChild 0 0 [.ref a0, .int x1, .int x2] (Z, I, L, O) Q :=
  ct_of_ok (mt := m1_nameChild) (ini := false) mo1_nameChild.2.2.2.2 (fun h => by cases h) (Nat.le_of_ble_eq_true rfl) (o1_nameChild d hW hZ0 h ⟨trivial, hQ, rfl, rfl⟩)
theorem dX1_nameKey_0 : decode cX1_nameKey 0 = .ok (.aload_n 0, 1) := by decide +kernel
theorem dX1_nameKey_1 : decode cX1_nameKey 1 = .ok (.getfield 15, 3) := by decide +kernel
theorem dX1_nameKey_4 : decode cX1_nameKey 4 = .ok (.iconst 1, 1) := by decide +kernel
theorem dX1_nameKey_5 : decode cX1_nameKey 5 = .ok (.aload_n 1, 1) := by decide +kernel
theorem dX1_nameKey_6 : decode cX1_nameKey 6 = .ok (.getfield 55, 3) := by decide +kernel
theorem dX1_nameKey_9 : decode cX1_nameKey 9 = .ok (.getfield 59, 3) := by decide +kernel
theorem dX1_nameKey_12 : decode cX1_nameKey 12 = .ok (.iastore, 1) := by decide +kernel
theorem dX1_nameKey_13 : decode cX1_nameKey 13 = .ok (.aload_n 0, 1) := by decide +kernel
theorem dX1_nameKey_14 : decode cX1_nameKey 14 = .ok (.getfield 15, 3) := by decide +kernel
theorem dX1_nameKey_17 : decode cX1_nameKey 17 = .ok (.iconst 2, 1) := by decide +kernel
theorem dX1_nameKey_18 : decode cX1_nameKey 18 = .ok (.iload_n 2, 1) := by decide +kernel
theorem dX1_nameKey_19 : decode cX1_nameKey 19 = .ok (.iastore, 1) := by decide +kernel
theorem dX1_nameKey_20 : decode cX1_nameKey 20 = .ok (.return_, 1) := by decide +kernel
def m1_nameKey : pMT := (yX1_nameKey, cX1_nameKey, 3, none)
theorem mo1_nameKey : mOK m1_nameKey 2 := ⟨tb_i 725 (by decide +kernel), wi_RX1, ⟨wn_RX1.1, wn_RX1.2, by decide +kernel⟩, by decide, plainFor_of_name wp_RX1⟩
theorem mv1_nameKey : mV m1_nameKey := ⟨tb_i 724 (by decide +kernel), tb_p 29 (by decide +kernel)⟩
def f1_nameKey (I : (Nat → Nat → Int32)) (O : (Nat → Nat → Option Nat)) (a0 : Nat) (a1 : Nat) (x2 : Int32) : Option ((Nat → Nat → Int32)) := bl (sI I (rO O a0 1) 1 (I (rO O a1 2) 4)) fun I3 => bl (sI I3 (rO O a0 1) 2 x2) fun I4 => some (I4)
set_option maxHeartbeats 4000000 in
set_option maxRecDepth 20000 in
theorem o1_nameKey {g : pG} {Qx : Option Value → pW → Prop} {Z : pZ} {I : (Nat → Nat → Int32)} {L : (Nat → Nat → Int64)} {O : (Nat → Nat → Option Nat)} {a0 : Nat} {a1 : Nat} {x2 : Int32} {res : (Nat → Nat → Int32)} (d : Nat) (hW : WT Z O) (hZ0 : Z[a0]? = some (1, 3)) (hZ1 : Z[a1]? = some (10, 5)) (h : f1_nameKey I O a0 a1 x2 = some res) (hQ : Qx none (Z, res, L, O)) : Ok g (d + 2, RX1, cX1_nameKey, 3, false, 0, 0, Z.length, pSl Z) Qx 0 [(0, .ref a0), (1, .ref a1), (2, .int x2)] [] (Z, I, L, O) := by
  unfold f1_nameKey at h
  refine ok_aload_n dX1_nameKey_0 0 rfl ?_
  have hT1 : Z[(rO O a0 1)]? = some (13, 7) := (wt_f (ci := 1) (k := 1) hW hZ0 rfl).2
  refine ok_getR (ci := 1) (k := 1) dX1_nameKey_1 flRX1_15 rfl hW hZ0 (by decide) ?_
  refine ok_iconst (v := 1) dX1_nameKey_4 (by decide) ?_
  refine ok_aload_n dX1_nameKey_5 1 rfl ?_
  have hT2 : Z[(rO O a1 2)]? = some (3, 6) := (wt_f (ci := 10) (k := 2) hW hZ1 rfl).2
  refine ok_getR (ci := 10) (k := 2) dX1_nameKey_6 flRX1_55 rfl hW hZ1 (by decide) ?_
  refine ok_getI (ci := 3) (k := 4) dX1_nameKey_9 flRX1_59 rfl hT2 (by decide) ?_
  obtain ⟨I3, eI3, h⟩ := blE h
  refine ok_iast3 dX1_nameKey_12 hT1 (by unfold vp_in; decide) (by decide) eI3 ?_
  refine ok_aload_n dX1_nameKey_13 0 rfl ?_
  refine ok_getR (ci := 1) (k := 1) dX1_nameKey_14 flRX1_15 rfl hW hZ0 (by decide) ?_
  refine ok_iconst (v := 2) dX1_nameKey_17 (by decide) ?_
  refine ok_iload_n dX1_nameKey_18 2 rfl ?_
  obtain ⟨I4, eI4, h⟩ := blE h
  refine ok_iast3 dX1_nameKey_19 hT1 (by unfold vp_in; decide) (by decide) eI4 ?_
  cases h
  exact ok_vret dX1_nameKey_20 hQ
theorem k1_nameKey {g : pG} {Q : Option Value → pW → Prop} {Z : pZ} {I : (Nat → Nat → Int32)} {L : (Nat → Nat → Int64)} {O : (Nat → Nat → Option Nat)} {a0 : Nat} {a1 : Nat} {x2 : Int32} {res : (Nat → Nat → Int32)} (d : Nat) (hW : WT Z O) (hZ0 : Z[a0]? = some (1, 3)) (hZ1 : Z[a1]? = some (10, 5)) (h : f1_nameKey I O a0 a1 x2 = some res) (hQ : Q none (Z, res, L, O)) : CT g (d + 2) m1_nameKey 0 0 [.ref a0, .ref a1, .int x2] (Z, I, L, O) Q :=
  ct_of_ok (mt := m1_nameKey) (ini := false) mo1_nameKey.2.2.2.2 (fun h => by cases h) (Nat.le_of_ble_eq_true rfl) (o1_nameKey d hW hZ0 hZ1 h ⟨trivial, hQ, rfl, rfl⟩)
theorem dX1_namePlace_0 : decode cX1_namePlace 0 = .ok (.aload_n 0, 1) := by decide +kernel
theorem dX1_namePlace_1 : decode cX1_namePlace 1 = .ok (.getfield 15, 3) := by decide +kernel
theorem dX1_namePlace_4 : decode cX1_namePlace 4 = .ok (.iconst 0, 1) := by decide +kernel
theorem dX1_namePlace_5 : decode cX1_namePlace 5 = .ok (.iload_n 1, 1) := by decide +kernel
theorem dX1_namePlace_6 : decode cX1_namePlace 6 = .ok (.iastore, 1) := by decide +kernel
theorem dX1_namePlace_7 : decode cX1_namePlace 7 = .ok (.aload_n 0, 1) := by decide +kernel
theorem dX1_namePlace_8 : decode cX1_namePlace 8 = .ok (.getfield 15, 3) := by decide +kernel
theorem dX1_namePlace_11 : decode cX1_namePlace 11 = .ok (.iconst 5, 1) := by decide +kernel
theorem dX1_namePlace_12 : decode cX1_namePlace 12 = .ok (.iload_n 2, 1) := by decide +kernel
theorem dX1_namePlace_13 : decode cX1_namePlace 13 = .ok (.iastore, 1) := by decide +kernel
theorem dX1_namePlace_14 : decode cX1_namePlace 14 = .ok (.aload_n 0, 1) := by decide +kernel
theorem dX1_namePlace_15 : decode cX1_namePlace 15 = .ok (.getfield 15, 3) := by decide +kernel
theorem dX1_namePlace_18 : decode cX1_namePlace 18 = .ok (.bipush 6, 2) := by decide +kernel
theorem dX1_namePlace_20 : decode cX1_namePlace 20 = .ok (.iload_n 3, 1) := by decide +kernel
theorem dX1_namePlace_21 : decode cX1_namePlace 21 = .ok (.iastore, 1) := by decide +kernel
theorem dX1_namePlace_22 : decode cX1_namePlace 22 = .ok (.return_, 1) := by decide +kernel
def m1_namePlace : pMT := (yX1_namePlace, cX1_namePlace, 4, none)
theorem mo1_namePlace : mOK m1_namePlace 3 := ⟨tb_i 738 (by decide +kernel), wi_RX1, ⟨wn_RX1.1, wn_RX1.2, by decide +kernel⟩, by decide, plainFor_of_name wp_RX1⟩
theorem mv1_namePlace : mV m1_namePlace := ⟨tb_i 737 (by decide +kernel), tb_p 31 (by decide +kernel)⟩
def f1_namePlace (I : (Nat → Nat → Int32)) (O : (Nat → Nat → Option Nat)) (a0 : Nat) (x1 : Int32) (x2 : Int32) (x3 : Int32) : Option ((Nat → Nat → Int32)) := bl (sI I (rO O a0 1) 0 x1) fun I2 => bl (sI I2 (rO O a0 1) 5 x2) fun I3 => bl (sI I3 (rO O a0 1) 6 x3) fun I4 => some (I4)
set_option maxHeartbeats 4000000 in
set_option maxRecDepth 20000 in
theorem o1_namePlace {g : pG} {Qx : Option Value → pW → Prop} {Z : pZ} {I : (Nat → Nat → Int32)} {L : (Nat → Nat → Int64)} {O : (Nat → Nat → Option Nat)} {a0 : Nat} {x1 : Int32} {x2 : Int32} {x3 : Int32} {res : (Nat → Nat → Int32)} (d : Nat) (hW : WT Z O) (hZ0 : Z[a0]? = some (1, 3)) (h : f1_namePlace I O a0 x1 x2 x3 = some res) (hQ : Qx none (Z, res, L, O)) : Ok g (d + 2, RX1, cX1_namePlace, 4, false, 0, 0, Z.length, pSl Z) Qx 0 [(0, .ref a0), (1, .int x1), (2, .int x2), (3, .int x3)] [] (Z, I, L, O) := by
  unfold f1_namePlace at h
  refine ok_aload_n dX1_namePlace_0 0 rfl ?_
  have hT1 : Z[(rO O a0 1)]? = some (13, 7) := (wt_f (ci := 1) (k := 1) hW hZ0 rfl).2
  refine ok_getR (ci := 1) (k := 1) dX1_namePlace_1 flRX1_15 rfl hW hZ0 (by decide) ?_
  refine ok_iconst (v := 0) dX1_namePlace_4 (by decide) ?_
  refine ok_iload_n dX1_namePlace_5 1 rfl ?_
  obtain ⟨I2, eI2, h⟩ := blE h
  refine ok_iast3 dX1_namePlace_6 hT1 (by unfold vp_in; decide) (by decide) eI2 ?_
  refine ok_aload_n dX1_namePlace_7 0 rfl ?_
  refine ok_getR (ci := 1) (k := 1) dX1_namePlace_8 flRX1_15 rfl hW hZ0 (by decide) ?_
  refine ok_iconst (v := 5) dX1_namePlace_11 (by decide) ?_
  refine ok_iload_n dX1_namePlace_12 2 rfl ?_
  obtain ⟨I3, eI3, h⟩ := blE h
  refine ok_iast3 dX1_namePlace_13 hT1 (by unfold vp_in; decide) (by decide) eI3 ?_
  refine ok_aload_n dX1_namePlace_14 0 rfl ?_
  refine ok_getR (ci := 1) (k := 1) dX1_namePlace_15 flRX1_15 rfl hW hZ0 (by decide) ?_
  refine ok_bipush (v := 6) dX1_namePlace_18 (by decide) ?_
  refine ok_iload_n dX1_namePlace_20 3 rfl ?_
  obtain ⟨I4, eI4, h⟩ := blE h
  refine ok_iast3 dX1_namePlace_21 hT1 (by unfold vp_in; decide) (by decide) eI4 ?_
  cases h
  exact ok_vret dX1_namePlace_22 hQ
theorem k1_namePlace {g : pG} {Q : Option Value → pW → Prop} {Z : pZ} {I : (Nat → Nat → Int32)} {L : (Nat → Nat → Int64)} {O : (Nat → Nat → Option Nat)} {a0 : Nat} {x1 : Int32} {x2 : Int32} {x3 : Int32} {res : (Nat → Nat → Int32)} (d : Nat) (hW : WT Z O) (hZ0 : Z[a0]? = some (1, 3)) (h : f1_namePlace I O a0 x1 x2 x3 = some res) (hQ : Q none (Z, res, L, O)) : CT g (d + 2) m1_namePlace 0 0 [.ref a0, .int x1, .int x2, .int x3] (Z, I, L, O) Q :=
  ct_of_ok (mt := m1_namePlace) (ini := false) mo1_namePlace.2.2.2.2 (fun h => by cases h) (Nat.le_of_ble_eq_true rfl) (o1_namePlace d hW hZ0 h ⟨trivial, hQ, rfl, rfl⟩)
theorem dX1_within_0 : decode cX1_within 0 = .ok (.iconst 0, 1) := by decide +kernel
theorem dX1_within_1 : decode cX1_within 1 = .ok (.iload_n 0, 1) := by decide +kernel
theorem dX1_within_2 : decode cX1_within 2 = .ok (.iload_n 1, 1) := by decide +kernel
theorem dX1_within_3 : decode cX1_within 3 = .ok (.invokestatic 65, 3) := by decide +kernel
theorem dX1_within_6 : decode cX1_within 6 = .ok (.invokestatic 70, 3) := by decide +kernel
theorem dX1_within_9 : decode cX1_within 9 = .ok (.ireturn, 1) := by decide +kernel
def m1_within : pMT := (yX1_within, cX1_within, 2, some .int)
theorem mo1_within : mOK m1_within 2 := ⟨tb_i 791 (by decide +kernel), wi_RX1, ⟨wn_RX1.1, wn_RX1.2, by decide +kernel⟩, by decide, plainFor_of_name wp_RX1⟩
theorem mv1_within : mS m1_within := (tb_i 790 (by decide +kernel) : Cond.static yX1_within ∈ lw_tbl)
def f1_within (x0 : Int32) (x1 : Int32) : Option (Int32) := (fJ9_min_7cf53 x0 x1).bind fun r1 => (fJ9_max_7cf53 (0 : Int32) r1).bind fun r3 => some (r3)
set_option maxHeartbeats 4000000 in
set_option maxRecDepth 20000 in
theorem o1_within {g : pG} {Qx : Option Value → pW → Prop} {Z : pZ} {I : (Nat → Nat → Int32)} {L : (Nat → Nat → Int64)} {O : (Nat → Nat → Option Nat)} {x0 : Int32} {x1 : Int32} {res : Int32} (d : Nat) (hW : WT Z O) (h : f1_within x0 x1 = some res) (hQ : Qx (some (.int res)) (Z, I, L, O)) : Ok g (d + 3, RX1, cX1_within, 2, false, 0, 0, Z.length, pSl Z) Qx 0 [(0, .int x0), (1, .int x1)] [] (Z, I, L, O) := by
  unfold f1_within at h
  refine ok_iconst (v := 0) dX1_within_0 (by decide) ?_
  refine ok_iload_n dX1_within_1 0 rfl ?_
  refine ok_iload_n dX1_within_2 1 rfl ?_
  obtain ⟨r1, hr2, h⟩ := bd h
  refine ok_callS (d := ((d + 0) + 2)) (mt := mJ9_min_7cf53) (mc := 0) (ms := 0) (As := [.int x0, .int x1]) (r := [.int 0]) dX1_within_3 moJ9_min_7cf53 mvJ9_min_7cf53 lkRX1_65 rfl rfl (Nat.le_of_ble_eq_true rfl) (by show _ + 1 ≤ d + _; omega) (Nat.le_refl _) (Nat.le_refl _) (pRt_mono ?_)
  refine kJ9_min_7cf53 (d + 0) hW  hr2 ?_
  intro _
  show Ok g _ Qx 6 [(0, .int x0), (1, .int x1)] [.int r1, .int 0] (Z, I, L, O)
  obtain ⟨r3, hr4, h⟩ := bd h
  refine ok_callS (d := ((d + 0) + 2)) (mt := mJ9_max_7cf53) (mc := 0) (ms := 0) (As := [.int 0, .int r1]) (r := []) dX1_within_6 moJ9_max_7cf53 mvJ9_max_7cf53 lkRX1_70 rfl rfl (Nat.le_of_ble_eq_true rfl) (by show _ + 1 ≤ d + _; omega) (Nat.le_refl _) (Nat.le_refl _) (pRt_mono ?_)
  refine kJ9_max_7cf53 (d + 0) hW  hr4 ?_
  intro _
  show Ok g _ Qx 9 [(0, .int x0), (1, .int x1)] [.int r3] (Z, I, L, O)
  cases h
  exact ok_iret dX1_within_9 hQ
theorem k1_within {g : pG} {Q : Option Value → pW → Prop} {Z : pZ} {I : (Nat → Nat → Int32)} {L : (Nat → Nat → Int64)} {O : (Nat → Nat → Option Nat)} {x0 : Int32} {x1 : Int32} {res : Int32} (d : Nat) (hW : WT Z O) (h : f1_within x0 x1 = some res) (hQ : Q (some (.int res)) (Z, I, L, O)) : CT g (d + 3) m1_within 0 0 [.int x0, .int x1] (Z, I, L, O) Q :=
  ct_of_ok (mt := m1_within) (ini := false) mo1_within.2.2.2.2 (fun h => by cases h) (Nat.le_of_ble_eq_true rfl) (o1_within d hW  h ⟨trivial, hQ, rfl, rfl⟩)
theorem dX1_blurs_0 : decode cX1_blurs 0 = .ok (.aload_n 2, 1) := by decide +kernel
theorem dX1_blurs_1 : decode cX1_blurs 1 = .ok (.iload_n 3, 1) := by decide +kernel
theorem dX1_blurs_2 : decode cX1_blurs 2 = .ok (.iload 4, 2) := by decide +kernel
theorem dX1_blurs_4 : decode cX1_blurs 4 = .ok (.invokevirtual 18, 3) := by decide +kernel
theorem dX1_blurs_7 : decode cX1_blurs 7 = .ok (.istore 6, 2) := by decide +kernel
theorem dX1_blurs_9 : decode cX1_blurs 9 = .ok (.aload_n 1, 1) := by decide +kernel
theorem dX1_blurs_10 : decode cX1_blurs 10 = .ok (.ifnull 11, 3) := by decide +kernel
theorem dX1_blurs_13 : decode cX1_blurs 13 = .ok (.aload_n 1, 1) := by decide +kernel
theorem dX1_blurs_14 : decode cX1_blurs 14 = .ok (.iconst 0, 1) := by decide +kernel
theorem dX1_blurs_15 : decode cX1_blurs 15 = .ok (.invokevirtual 24, 3) := by decide +kernel
theorem dX1_blurs_18 : decode cX1_blurs 18 = .ok (.ifCond .ne 8, 3) := by decide +kernel
theorem dX1_blurs_21 : decode cX1_blurs 21 = .ok (.iload 6, 2) := by decide +kernel
theorem dX1_blurs_23 : decode cX1_blurs 23 = .ok (.iconst 2, 1) := by decide +kernel
theorem dX1_blurs_24 : decode cX1_blurs 24 = .ok (.idiv, 1) := by decide +kernel
theorem dX1_blurs_25 : decode cX1_blurs 25 = .ok (.ireturn, 1) := by decide +kernel
theorem dX1_blurs_26 : decode cX1_blurs 26 = .ok (.aload_n 2, 1) := by decide +kernel
theorem dX1_blurs_27 : decode cX1_blurs 27 = .ok (.iload_n 3, 1) := by decide +kernel
theorem dX1_blurs_28 : decode cX1_blurs 28 = .ok (.iload 4, 2) := by decide +kernel
theorem dX1_blurs_30 : decode cX1_blurs 30 = .ok (.invokevirtual 30, 3) := by decide +kernel
theorem dX1_blurs_33 : decode cX1_blurs 33 = .ok (.istore 7, 2) := by decide +kernel
theorem dX1_blurs_35 : decode cX1_blurs 35 = .ok (.aload_n 0, 1) := by decide +kernel
theorem dX1_blurs_36 : decode cX1_blurs 36 = .ok (.aload_n 2, 1) := by decide +kernel
theorem dX1_blurs_37 : decode cX1_blurs 37 = .ok (.iload 7, 2) := by decide +kernel
theorem dX1_blurs_39 : decode cX1_blurs 39 = .ok (.invokevirtual 33, 3) := by decide +kernel
theorem dX1_blurs_42 : decode cX1_blurs 42 = .ok (.aload_n 0, 1) := by decide +kernel
theorem dX1_blurs_43 : decode cX1_blurs 43 = .ok (.iload 5, 2) := by decide +kernel
theorem dX1_blurs_45 : decode cX1_blurs 45 = .ok (.aload_n 2, 1) := by decide +kernel
theorem dX1_blurs_46 : decode cX1_blurs 46 = .ok (.iload 5, 2) := by decide +kernel
theorem dX1_blurs_48 : decode cX1_blurs 48 = .ok (.iload 7, 2) := by decide +kernel
theorem dX1_blurs_50 : decode cX1_blurs 50 = .ok (.invokevirtual 37, 3) := by decide +kernel
theorem dX1_blurs_53 : decode cX1_blurs 53 = .ok (.invokevirtual 40, 3) := by decide +kernel
theorem dX1_blurs_56 : decode cX1_blurs 56 = .ok (.aload_n 0, 1) := by decide +kernel
theorem dX1_blurs_57 : decode cX1_blurs 57 = .ok (.iload_n 3, 1) := by decide +kernel
theorem dX1_blurs_58 : decode cX1_blurs 58 = .ok (.iload 4, 2) := by decide +kernel
theorem dX1_blurs_60 : decode cX1_blurs 60 = .ok (.iload 6, 2) := by decide +kernel
theorem dX1_blurs_62 : decode cX1_blurs 62 = .ok (.invokevirtual 44, 3) := by decide +kernel
theorem dX1_blurs_65 : decode cX1_blurs 65 = .ok (.bipush 10, 2) := by decide +kernel
theorem dX1_blurs_67 : decode cX1_blurs 67 = .ok (.aload_n 0, 1) := by decide +kernel
theorem dX1_blurs_68 : decode cX1_blurs 68 = .ok (.aload_n 1, 1) := by decide +kernel
theorem dX1_blurs_69 : decode cX1_blurs 69 = .ok (.iconst 0, 1) := by decide +kernel
theorem dX1_blurs_70 : decode cX1_blurs 70 = .ok (.aload_n 2, 1) := by decide +kernel
theorem dX1_blurs_71 : decode cX1_blurs 71 = .ok (.invokevirtual 48, 3) := by decide +kernel
theorem dX1_blurs_74 : decode cX1_blurs 74 = .ok (.invokestatic 52, 3) := by decide +kernel
theorem dX1_blurs_77 : decode cX1_blurs 77 = .ok (.ireturn, 1) := by decide +kernel
def m1_blurs : pMT := (yX1_blurs, cX1_blurs, 8, some .int)
theorem mo1_blurs : mOK m1_blurs 5 := ⟨tb_i 712 (by decide +kernel), wi_RX1, ⟨wn_RX1.1, wn_RX1.2, by decide +kernel⟩, by decide, plainFor_of_name wp_RX1⟩
theorem mv1_blurs : mV m1_blurs := ⟨tb_i 710 (by decide +kernel), tb_i 711 (by decide +kernel)⟩
def f1_blurs (n : Nat) (I : (Nat → Nat → Int32)) (O : (Nat → Nat → Option Nat)) (a0 : Nat) (s1 : Option Nat) (a2 : Nat) (x3 : Int32) (x4 : Int32) (x5 : Int32) : Option (Int32 × (Nat → Nat → Int32)) := (f10_wearAt I O a2 x3 x4).bind fun r1 => (match s1 with | none => some ((r1 / 2), I) | some b3 => (f7_hasLaw I O b3 (0 : Int32)).bind fun r5 => (if r5 = 0 then some ((r1 / 2), I) else (f10_keyAt I O a2 x3 x4).bind fun r8 => (f1_nameKey I O a0 a2 r8).bind fun r10 => (f10_timesHeard r10 O a2 x5 r8).bind fun r12 => (f1_nameChild r10 O a0 x5 r12).bind fun r14 => (f1_namePlace r14 O a0 x3 x4 r1).bind fun r16 => (f1_evaluate n r16 O a0 b3 (0 : Int32) a2).bind fun r18 => (f1_within (10 : Int32) r18.1).bind fun r20 => some (r20, r18.2)))
set_option maxHeartbeats 4000000 in
set_option maxRecDepth 20000 in
theorem o1_blurs {g : pG} {Qx : Option Value → pW → Prop} {Z : pZ} {I : (Nat → Nat → Int32)} {L : (Nat → Nat → Int64)} {O : (Nat → Nat → Option Nat)} {n : Nat} {a0 : Nat} {s1 : Option Nat} {a2 : Nat} {x3 : Int32} {x4 : Int32} {x5 : Int32} {res : Int32 × (Nat → Nat → Int32)} (d : Nat) (hW : WT Z O) (hZ0 : Z[a0]? = some (1, 3)) (hS1 : ∀ b, s1 = some b → Z[b]? = some (7, 7)) (hZ2 : Z[a2]? = some (10, 5)) (h : f1_blurs n I O a0 s1 a2 x3 x4 x5 = some res) (hQ : Qx (some (.int res.1)) (Z, res.2, L, O)) : Ok g (d + 5, RX1, cX1_blurs, 8, false, 0, 0, Z.length, pSl Z) Qx 0 [(0, .ref a0), (1, va_rf s1), (2, .ref a2), (3, .int x3), (4, .int x4), (5, .int x5)] [] (Z, I, L, O) := by
  unfold f1_blurs at h
  refine ok_aload_n dX1_blurs_0 2 rfl ?_
  refine ok_iload_n dX1_blurs_1 3 rfl ?_
  refine ok_iload dX1_blurs_2 4 rfl ?_
  obtain ⟨r1, hr2, h⟩ := bd h
  refine ok_callV (d := ((d + 1) + 3)) (mt := m10_wearAt) (mc := 0) (ms := 0) (As := [.int x3, .int x4]) (r := []) dX1_blurs_4 mo10_wearAt mv10_wearAt lkRX1_18 rfl hZ2 (q := (RX10, TX10, 5)) rfl rfl rfl (Nat.le_of_ble_eq_true rfl) (by show _ + 1 ≤ d + _; omega) (Nat.le_refl _) (Nat.le_refl _) (pRt_mono ?_)
  refine k10_wearAt (d + 1) hW hZ2 hr2 ?_
  intro _
  show Ok g _ Qx 7 [(0, .ref a0), (1, va_rf s1), (2, .ref a2), (3, .int x3), (4, .int x4), (5, .int x5)] [.int r1] (Z, I, L, O)
  refine ok_istore (l' := [(6, .int r1), (0, .ref a0), (1, va_rf s1), (2, .ref a2), (3, .int x3), (4, .int x4), (5, .int x5)]) dX1_blurs_7 (Nat.le_of_ble_eq_true rfl) rfl ?_
  refine ok_aloadQ_n dX1_blurs_9 2 rfl ?_
  refine ok_ifnullQ (t := 21) dX1_blurs_10 (by decide) ?_ ?_
  · intro hs4
    subst hs4
    show Ok g _ Qx 21 [(6, .int r1), (0, .ref a0), (1, .null), (2, .ref a2), (3, .int x3), (4, .int x4), (5, .int x5)] [] (Z, I, L, O)
    refine ok_iload dX1_blurs_21 0 rfl ?_
    refine ok_iconst (v := 2) dX1_blurs_23 (by decide) ?_
    refine ok_idiv dX1_blurs_24 (by decide) ?_
    cases h
    exact ok_iret dX1_blurs_25 hQ
  · intro b3 hs4
    subst hs4
    show Ok g _ Qx 13 [(6, .int r1), (0, .ref a0), (1, .ref b3), (2, .ref a2), (3, .int x3), (4, .int x4), (5, .int x5)] [] (Z, I, L, O)
    refine ok_aload_n dX1_blurs_13 2 rfl ?_
    refine ok_iconst (v := 0) dX1_blurs_14 (by decide) ?_
    obtain ⟨r5, hr6, h⟩ := bd h
    refine ok_callV (d := ((d + 1) + 3)) (mt := m7_hasLaw) (mc := 0) (ms := 0) (As := [.int 0]) (r := []) dX1_blurs_15 mo7_hasLaw mv7_hasLaw lkRX1_24 rfl (hS1 b3 rfl) (q := (RX7, TX7, 7)) rfl rfl rfl (Nat.le_of_ble_eq_true rfl) (by show _ + 1 ≤ d + _; omega) (Nat.le_refl _) (Nat.le_refl _) (pRt_mono ?_)
    refine k7_hasLaw (d + 1) hW (hS1 b3 rfl) hr6 ?_
    intro hbr5
    show Ok g _ Qx 18 [(6, .int r1), (0, .ref a0), (1, .ref b3), (2, .ref a2), (3, .int x3), (4, .int x4), (5, .int x5)] [.int r5] (Z, I, L, O)
    refine ok_if_ne (t := 26) dX1_blurs_18 (by decide) (fun hc7 => ?_) (fun hc7 => ?_)
    · have h := (if_neg hc7).symm.trans h
      refine ok_aload_n dX1_blurs_26 3 rfl ?_
      refine ok_iload_n dX1_blurs_27 4 rfl ?_
      refine ok_iload dX1_blurs_28 5 rfl ?_
      obtain ⟨r8, hr9, h⟩ := bd h
      refine ok_callV (d := ((d + 1) + 3)) (mt := m10_keyAt) (mc := 0) (ms := 0) (As := [.int x3, .int x4]) (r := []) dX1_blurs_30 mo10_keyAt mv10_keyAt lkRX1_30 rfl hZ2 (q := (RX10, TX10, 5)) rfl rfl rfl (Nat.le_of_ble_eq_true rfl) (by show _ + 1 ≤ d + _; omega) (Nat.le_refl _) (Nat.le_refl _) (pRt_mono ?_)
      refine k10_keyAt (d + 1) hW hZ2 hr9 ?_
      intro _
      show Ok g _ Qx 33 [(6, .int r1), (0, .ref a0), (1, .ref b3), (2, .ref a2), (3, .int x3), (4, .int x4), (5, .int x5)] [.int r8] (Z, I, L, O)
      refine ok_istore (l' := [(7, .int r8), (6, .int r1), (0, .ref a0), (1, .ref b3), (2, .ref a2), (3, .int x3), (4, .int x4), (5, .int x5)]) dX1_blurs_33 (Nat.le_of_ble_eq_true rfl) rfl ?_
      refine ok_aload_n dX1_blurs_35 2 rfl ?_
      refine ok_aload_n dX1_blurs_36 4 rfl ?_
      refine ok_iload dX1_blurs_37 0 rfl ?_
      obtain ⟨r10, hr11, h⟩ := bd h
      refine ok_callV (d := ((d + 2) + 2)) (mt := m1_nameKey) (mc := 0) (ms := 0) (As := [.ref a2, .int r8]) (r := []) dX1_blurs_39 mo1_nameKey mv1_nameKey lkRX1_33 rfl hZ0 (q := (RX1, TX1, 3)) rfl rfl rfl (Nat.le_of_ble_eq_true rfl) (by show _ + 1 ≤ d + _; omega) (Nat.le_refl _) (Nat.le_refl _) (pRt_mono ?_)
      refine k1_nameKey (d + 2) hW hZ0 hZ2 hr11 ?_
      intro _
      show Ok g _ Qx 42 [(7, .int r8), (6, .int r1), (0, .ref a0), (1, .ref b3), (2, .ref a2), (3, .int x3), (4, .int x4), (5, .int x5)] [] (Z, r10, L, O)
      refine ok_aload_n dX1_blurs_42 2 rfl ?_
      refine ok_iload dX1_blurs_43 7 rfl ?_
      refine ok_aload_n dX1_blurs_45 4 rfl ?_
      refine ok_iload dX1_blurs_46 7 rfl ?_
      refine ok_iload dX1_blurs_48 0 rfl ?_
      obtain ⟨r12, hr13, h⟩ := bd h
      refine ok_callV (d := ((d + 1) + 3)) (mt := m10_timesHeard) (mc := 0) (ms := 0) (As := [.int x5, .int r8]) (r := [.int x5, .ref a0]) dX1_blurs_50 mo10_timesHeard mv10_timesHeard lkRX1_37 rfl hZ2 (q := (RX10, TX10, 5)) rfl rfl rfl (Nat.le_of_ble_eq_true rfl) (by show _ + 1 ≤ d + _; omega) (Nat.le_refl _) (Nat.le_refl _) (pRt_mono ?_)
      refine k10_timesHeard (d + 1) hW hZ2 hr13 ?_
      intro _
      show Ok g _ Qx 53 [(7, .int r8), (6, .int r1), (0, .ref a0), (1, .ref b3), (2, .ref a2), (3, .int x3), (4, .int x4), (5, .int x5)] [.int r12, .int x5, .ref a0] (Z, r10, L, O)
      obtain ⟨r14, hr15, h⟩ := bd h
      refine ok_callV (d := ((d + 2) + 2)) (mt := m1_nameChild) (mc := 0) (ms := 0) (As := [.int x5, .int r12]) (r := []) dX1_blurs_53 mo1_nameChild mv1_nameChild lkRX1_40 rfl hZ0 (q := (RX1, TX1, 3)) rfl rfl rfl (Nat.le_of_ble_eq_true rfl) (by show _ + 1 ≤ d + _; omega) (Nat.le_refl _) (Nat.le_refl _) (pRt_mono ?_)
      refine k1_nameChild (d + 2) hW hZ0 hr15 ?_
      intro _
      show Ok g _ Qx 56 [(7, .int r8), (6, .int r1), (0, .ref a0), (1, .ref b3), (2, .ref a2), (3, .int x3), (4, .int x4), (5, .int x5)] [] (Z, r14, L, O)
      refine ok_aload_n dX1_blurs_56 2 rfl ?_
      refine ok_iload_n dX1_blurs_57 5 rfl ?_
      refine ok_iload dX1_blurs_58 6 rfl ?_
      refine ok_iload dX1_blurs_60 1 rfl ?_
      obtain ⟨r16, hr17, h⟩ := bd h
      refine ok_callV (d := ((d + 2) + 2)) (mt := m1_namePlace) (mc := 0) (ms := 0) (As := [.int x3, .int x4, .int r1]) (r := []) dX1_blurs_62 mo1_namePlace mv1_namePlace lkRX1_44 rfl hZ0 (q := (RX1, TX1, 3)) rfl rfl rfl (Nat.le_of_ble_eq_true rfl) (by show _ + 1 ≤ d + _; omega) (Nat.le_refl _) (Nat.le_refl _) (pRt_mono ?_)
      refine k1_namePlace (d + 2) hW hZ0 hr17 ?_
      intro _
      show Ok g _ Qx 65 [(7, .int r8), (6, .int r1), (0, .ref a0), (1, .ref b3), (2, .ref a2), (3, .int x3), (4, .int x4), (5, .int x5)] [] (Z, r16, L, O)
      refine ok_bipush (v := 10) dX1_blurs_65 (by decide) ?_
      refine ok_aload_n dX1_blurs_67 2 rfl ?_
      refine ok_aload_n dX1_blurs_68 3 rfl ?_
      refine ok_iconst (v := 0) dX1_blurs_69 (by decide) ?_
      refine ok_aload_n dX1_blurs_70 4 rfl ?_
      obtain ⟨r18, hr19, h⟩ := bd h
      refine ok_callV (d := ((d + 0) + 4)) (mt := m1_evaluate) (mc := 0) (ms := 0) (As := [.ref b3, .int 0, .ref a2]) (r := [.int 10]) dX1_blurs_71 mo1_evaluate mv1_evaluate lkRX1_48 rfl hZ0 (q := (RX1, TX1, 3)) rfl rfl rfl (Nat.le_of_ble_eq_true rfl) (by show _ + 1 ≤ d + _; omega) (Nat.le_refl _) (Nat.le_refl _) (pRt_mono ?_)
      refine k1_evaluate (d + 0) hW hZ0 (hS1 b3 rfl) hZ2 hr19 ?_
      intro _
      show Ok g _ Qx 74 [(7, .int r8), (6, .int r1), (0, .ref a0), (1, .ref b3), (2, .ref a2), (3, .int x3), (4, .int x4), (5, .int x5)] [.int r18.1, .int 10] (Z, r18.2, L, O)
      obtain ⟨r20, hr21, h⟩ := bd h
      refine ok_callS (d := ((d + 1) + 3)) (mt := m1_within) (mc := 0) (ms := 0) (As := [.int 10, .int r18.1]) (r := []) dX1_blurs_74 mo1_within mv1_within lkRX1_52 rfl rfl (Nat.le_of_ble_eq_true rfl) (by show _ + 1 ≤ d + _; omega) (Nat.le_refl _) (Nat.le_refl _) (pRt_mono ?_)
      refine k1_within (d + 1) hW  hr21 ?_
      intro _
      show Ok g _ Qx 77 [(7, .int r8), (6, .int r1), (0, .ref a0), (1, .ref b3), (2, .ref a2), (3, .int x3), (4, .int x4), (5, .int x5)] [.int r20] (Z, r18.2, L, O)
      cases h
      exact ok_iret dX1_blurs_77 hQ
    · have h := (if_pos hc7).symm.trans h
      refine ok_iload dX1_blurs_21 0 rfl ?_
      refine ok_iconst (v := 2) dX1_blurs_23 (by decide) ?_
      refine ok_idiv dX1_blurs_24 (by decide) ?_
      cases h
      exact ok_iret dX1_blurs_25 hQ
theorem k1_blurs {g : pG} {Q : Option Value → pW → Prop} {Z : pZ} {I : (Nat → Nat → Int32)} {L : (Nat → Nat → Int64)} {O : (Nat → Nat → Option Nat)} {n : Nat} {a0 : Nat} {s1 : Option Nat} {a2 : Nat} {x3 : Int32} {x4 : Int32} {x5 : Int32} {res : Int32 × (Nat → Nat → Int32)} (d : Nat) (hW : WT Z O) (hZ0 : Z[a0]? = some (1, 3)) (hS1 : ∀ b, s1 = some b → Z[b]? = some (7, 7)) (hZ2 : Z[a2]? = some (10, 5)) (h : f1_blurs n I O a0 s1 a2 x3 x4 x5 = some res) (hQ : Q (some (.int res.1)) (Z, res.2, L, O)) : CT g (d + 5) m1_blurs 0 0 [.ref a0, va_rf s1, .ref a2, .int x3, .int x4, .int x5] (Z, I, L, O) Q :=
  ct_of_ok (mt := m1_blurs) (ini := false) mo1_blurs.2.2.2.2 (fun h => by cases h) (by cases s1 <;> exact (Nat.le_of_ble_eq_true rfl)) (by
    rw [show lv_args 0 [.ref a0, va_rf s1, .ref a2, .int x3, .int x4, .int x5] = [(0, .ref a0), (1, va_rf s1), (2, .ref a2), (3, .int x3), (4, .int x4), (5, .int x5)] by cases s1 <;> rfl]
    exact o1_blurs d hW hZ0 hS1 hZ2 h ⟨trivial, hQ, rfl, rfl⟩)
theorem dX1_learns_0 : decode cX1_learns 0 = .ok (.aload_n 1, 1) := by decide +kernel
theorem dX1_learns_1 : decode cX1_learns 1 = .ok (.ifnull 11, 3) := by decide +kernel
theorem dX1_learns_4 : decode cX1_learns 4 = .ok (.aload_n 1, 1) := by decide +kernel
theorem dX1_learns_5 : decode cX1_learns 5 = .ok (.iconst 1, 1) := by decide +kernel
theorem dX1_learns_6 : decode cX1_learns 6 = .ok (.invokevirtual 24, 3) := by decide +kernel
theorem dX1_learns_9 : decode cX1_learns 9 = .ok (.ifCond .ne 5, 3) := by decide +kernel
theorem dX1_learns_12 : decode cX1_learns 12 = .ok (.iconst 3, 1) := by decide +kernel
theorem dX1_learns_13 : decode cX1_learns 13 = .ok (.ireturn, 1) := by decide +kernel
theorem dX1_learns_14 : decode cX1_learns 14 = .ok (.aload_n 0, 1) := by decide +kernel
theorem dX1_learns_15 : decode cX1_learns 15 = .ok (.aload_n 2, 1) := by decide +kernel
theorem dX1_learns_16 : decode cX1_learns 16 = .ok (.iload 4, 2) := by decide +kernel
theorem dX1_learns_18 : decode cX1_learns 18 = .ok (.invokevirtual 33, 3) := by decide +kernel
theorem dX1_learns_21 : decode cX1_learns 21 = .ok (.aload_n 0, 1) := by decide +kernel
theorem dX1_learns_22 : decode cX1_learns 22 = .ok (.iload_n 3, 1) := by decide +kernel
theorem dX1_learns_23 : decode cX1_learns 23 = .ok (.iload 5, 2) := by decide +kernel
theorem dX1_learns_25 : decode cX1_learns 25 = .ok (.invokevirtual 40, 3) := by decide +kernel
theorem dX1_learns_28 : decode cX1_learns 28 = .ok (.bipush 99, 2) := by decide +kernel
theorem dX1_learns_30 : decode cX1_learns 30 = .ok (.aload_n 0, 1) := by decide +kernel
theorem dX1_learns_31 : decode cX1_learns 31 = .ok (.aload_n 1, 1) := by decide +kernel
theorem dX1_learns_32 : decode cX1_learns 32 = .ok (.iconst 1, 1) := by decide +kernel
theorem dX1_learns_33 : decode cX1_learns 33 = .ok (.aload_n 2, 1) := by decide +kernel
theorem dX1_learns_34 : decode cX1_learns 34 = .ok (.invokevirtual 48, 3) := by decide +kernel
theorem dX1_learns_37 : decode cX1_learns 37 = .ok (.invokestatic 52, 3) := by decide +kernel
theorem dX1_learns_40 : decode cX1_learns 40 = .ok (.ireturn, 1) := by decide +kernel
def m1_learns : pMT := (yX1_learns, cX1_learns, 6, some .int)
theorem mo1_learns : mOK m1_learns 5 := ⟨tb_i 913 (by decide +kernel), wi_RX1, ⟨wn_RX1.1, wn_RX1.2, by decide +kernel⟩, by decide, plainFor_of_name wp_RX1⟩
theorem mv1_learns : mV m1_learns := ⟨tb_i 911 (by decide +kernel), tb_i 912 (by decide +kernel)⟩
def f1_learns (n : Nat) (I : (Nat → Nat → Int32)) (O : (Nat → Nat → Option Nat)) (a0 : Nat) (s1 : Option Nat) (a2 : Nat) (x3 : Int32) (x4 : Int32) (x5 : Int32) : Option (Int32 × (Nat → Nat → Int32)) := (match s1 with | none => some ((3 : Int32), I) | some b1 => (f7_hasLaw I O b1 (1 : Int32)).bind fun r3 => (if r3 = 0 then some ((3 : Int32), I) else (f1_nameKey I O a0 a2 x4).bind fun r6 => (f1_nameChild r6 O a0 x3 x5).bind fun r8 => (f1_evaluate n r8 O a0 b1 (1 : Int32) a2).bind fun r10 => (f1_within (99 : Int32) r10.1).bind fun r12 => some (r12, r10.2)))
set_option maxHeartbeats 4000000 in
set_option maxRecDepth 20000 in
theorem o1_learns {g : pG} {Qx : Option Value → pW → Prop} {Z : pZ} {I : (Nat → Nat → Int32)} {L : (Nat → Nat → Int64)} {O : (Nat → Nat → Option Nat)} {n : Nat} {a0 : Nat} {s1 : Option Nat} {a2 : Nat} {x3 : Int32} {x4 : Int32} {x5 : Int32} {res : Int32 × (Nat → Nat → Int32)} (d : Nat) (hW : WT Z O) (hZ0 : Z[a0]? = some (1, 3)) (hS1 : ∀ b, s1 = some b → Z[b]? = some (7, 7)) (hZ2 : Z[a2]? = some (10, 5)) (h : f1_learns n I O a0 s1 a2 x3 x4 x5 = some res) (hQ : Qx (some (.int res.1)) (Z, res.2, L, O)) : Ok g (d + 5, RX1, cX1_learns, 6, false, 0, 0, Z.length, pSl Z) Qx 0 [(0, .ref a0), (1, va_rf s1), (2, .ref a2), (3, .int x3), (4, .int x4), (5, .int x5)] [] (Z, I, L, O) := by
  unfold f1_learns at h
  refine ok_aloadQ_n dX1_learns_0 1 rfl ?_
  refine ok_ifnullQ (t := 12) dX1_learns_1 (by decide) ?_ ?_
  · intro hs2
    subst hs2
    show Ok g _ Qx 12 [(0, .ref a0), (1, .null), (2, .ref a2), (3, .int x3), (4, .int x4), (5, .int x5)] [] (Z, I, L, O)
    refine ok_iconst (v := 3) dX1_learns_12 (by decide) ?_
    cases h
    exact ok_iret dX1_learns_13 hQ
  · intro b1 hs2
    subst hs2
    show Ok g _ Qx 4 [(0, .ref a0), (1, .ref b1), (2, .ref a2), (3, .int x3), (4, .int x4), (5, .int x5)] [] (Z, I, L, O)
    refine ok_aload_n dX1_learns_4 1 rfl ?_
    refine ok_iconst (v := 1) dX1_learns_5 (by decide) ?_
    obtain ⟨r3, hr4, h⟩ := bd h
    refine ok_callV (d := ((d + 1) + 3)) (mt := m7_hasLaw) (mc := 0) (ms := 0) (As := [.int 1]) (r := []) dX1_learns_6 mo7_hasLaw mv7_hasLaw lkRX1_24 rfl (hS1 b1 rfl) (q := (RX7, TX7, 7)) rfl rfl rfl (Nat.le_of_ble_eq_true rfl) (by show _ + 1 ≤ d + _; omega) (Nat.le_refl _) (Nat.le_refl _) (pRt_mono ?_)
    refine k7_hasLaw (d + 1) hW (hS1 b1 rfl) hr4 ?_
    intro hbr3
    show Ok g _ Qx 9 [(0, .ref a0), (1, .ref b1), (2, .ref a2), (3, .int x3), (4, .int x4), (5, .int x5)] [.int r3] (Z, I, L, O)
    refine ok_if_ne (t := 14) dX1_learns_9 (by decide) (fun hc5 => ?_) (fun hc5 => ?_)
    · have h := (if_neg hc5).symm.trans h
      refine ok_aload_n dX1_learns_14 0 rfl ?_
      refine ok_aload_n dX1_learns_15 2 rfl ?_
      refine ok_iload dX1_learns_16 4 rfl ?_
      obtain ⟨r6, hr7, h⟩ := bd h
      refine ok_callV (d := ((d + 2) + 2)) (mt := m1_nameKey) (mc := 0) (ms := 0) (As := [.ref a2, .int x4]) (r := []) dX1_learns_18 mo1_nameKey mv1_nameKey lkRX1_33 rfl hZ0 (q := (RX1, TX1, 3)) rfl rfl rfl (Nat.le_of_ble_eq_true rfl) (by show _ + 1 ≤ d + _; omega) (Nat.le_refl _) (Nat.le_refl _) (pRt_mono ?_)
      refine k1_nameKey (d + 2) hW hZ0 hZ2 hr7 ?_
      intro _
      show Ok g _ Qx 21 [(0, .ref a0), (1, .ref b1), (2, .ref a2), (3, .int x3), (4, .int x4), (5, .int x5)] [] (Z, r6, L, O)
      refine ok_aload_n dX1_learns_21 0 rfl ?_
      refine ok_iload_n dX1_learns_22 3 rfl ?_
      refine ok_iload dX1_learns_23 5 rfl ?_
      obtain ⟨r8, hr9, h⟩ := bd h
      refine ok_callV (d := ((d + 2) + 2)) (mt := m1_nameChild) (mc := 0) (ms := 0) (As := [.int x3, .int x5]) (r := []) dX1_learns_25 mo1_nameChild mv1_nameChild lkRX1_40 rfl hZ0 (q := (RX1, TX1, 3)) rfl rfl rfl (Nat.le_of_ble_eq_true rfl) (by show _ + 1 ≤ d + _; omega) (Nat.le_refl _) (Nat.le_refl _) (pRt_mono ?_)
      refine k1_nameChild (d + 2) hW hZ0 hr9 ?_
      intro _
      show Ok g _ Qx 28 [(0, .ref a0), (1, .ref b1), (2, .ref a2), (3, .int x3), (4, .int x4), (5, .int x5)] [] (Z, r8, L, O)
      refine ok_bipush (v := 99) dX1_learns_28 (by decide) ?_
      refine ok_aload_n dX1_learns_30 0 rfl ?_
      refine ok_aload_n dX1_learns_31 1 rfl ?_
      refine ok_iconst (v := 1) dX1_learns_32 (by decide) ?_
      refine ok_aload_n dX1_learns_33 2 rfl ?_
      obtain ⟨r10, hr11, h⟩ := bd h
      refine ok_callV (d := ((d + 0) + 4)) (mt := m1_evaluate) (mc := 0) (ms := 0) (As := [.ref b1, .int 1, .ref a2]) (r := [.int 99]) dX1_learns_34 mo1_evaluate mv1_evaluate lkRX1_48 rfl hZ0 (q := (RX1, TX1, 3)) rfl rfl rfl (Nat.le_of_ble_eq_true rfl) (by show _ + 1 ≤ d + _; omega) (Nat.le_refl _) (Nat.le_refl _) (pRt_mono ?_)
      refine k1_evaluate (d + 0) hW hZ0 (hS1 b1 rfl) hZ2 hr11 ?_
      intro _
      show Ok g _ Qx 37 [(0, .ref a0), (1, .ref b1), (2, .ref a2), (3, .int x3), (4, .int x4), (5, .int x5)] [.int r10.1, .int 99] (Z, r10.2, L, O)
      obtain ⟨r12, hr13, h⟩ := bd h
      refine ok_callS (d := ((d + 1) + 3)) (mt := m1_within) (mc := 0) (ms := 0) (As := [.int 99, .int r10.1]) (r := []) dX1_learns_37 mo1_within mv1_within lkRX1_52 rfl rfl (Nat.le_of_ble_eq_true rfl) (by show _ + 1 ≤ d + _; omega) (Nat.le_refl _) (Nat.le_refl _) (pRt_mono ?_)
      refine k1_within (d + 1) hW  hr13 ?_
      intro _
      show Ok g _ Qx 40 [(0, .ref a0), (1, .ref b1), (2, .ref a2), (3, .int x3), (4, .int x4), (5, .int x5)] [.int r12] (Z, r10.2, L, O)
      cases h
      exact ok_iret dX1_learns_40 hQ
    · have h := (if_pos hc5).symm.trans h
      refine ok_iconst (v := 3) dX1_learns_12 (by decide) ?_
      cases h
      exact ok_iret dX1_learns_13 hQ
theorem k1_learns {g : pG} {Q : Option Value → pW → Prop} {Z : pZ} {I : (Nat → Nat → Int32)} {L : (Nat → Nat → Int64)} {O : (Nat → Nat → Option Nat)} {n : Nat} {a0 : Nat} {s1 : Option Nat} {a2 : Nat} {x3 : Int32} {x4 : Int32} {x5 : Int32} {res : Int32 × (Nat → Nat → Int32)} (d : Nat) (hW : WT Z O) (hZ0 : Z[a0]? = some (1, 3)) (hS1 : ∀ b, s1 = some b → Z[b]? = some (7, 7)) (hZ2 : Z[a2]? = some (10, 5)) (h : f1_learns n I O a0 s1 a2 x3 x4 x5 = some res) (hQ : Q (some (.int res.1)) (Z, res.2, L, O)) : CT g (d + 5) m1_learns 0 0 [.ref a0, va_rf s1, .ref a2, .int x3, .int x4, .int x5] (Z, I, L, O) Q :=
  ct_of_ok (mt := m1_learns) (ini := false) mo1_learns.2.2.2.2 (fun h => by cases h) (by cases s1 <;> exact (Nat.le_of_ble_eq_true rfl)) (by
    rw [show lv_args 0 [.ref a0, va_rf s1, .ref a2, .int x3, .int x4, .int x5] = [(0, .ref a0), (1, va_rf s1), (2, .ref a2), (3, .int x3), (4, .int x4), (5, .int x5)] by cases s1 <;> rfl]
    exact o1_learns d hW hZ0 hS1 hZ2 h ⟨trivial, hQ, rfl, rfl⟩)
theorem dX1_wears_0 : decode cX1_wears 0 = .ok (.aload_n 1, 1) := by decide +kernel
theorem dX1_wears_1 : decode cX1_wears 1 = .ok (.ifnull 11, 3) := by decide +kernel
theorem dX1_wears_4 : decode cX1_wears 4 = .ok (.aload_n 1, 1) := by decide +kernel
theorem dX1_wears_5 : decode cX1_wears 5 = .ok (.iconst 2, 1) := by decide +kernel
theorem dX1_wears_6 : decode cX1_wears 6 = .ok (.invokevirtual 24, 3) := by decide +kernel
theorem dX1_wears_9 : decode cX1_wears 9 = .ok (.ifCond .ne 5, 3) := by decide +kernel
theorem dX1_wears_12 : decode cX1_wears 12 = .ok (.iconst 1, 1) := by decide +kernel
theorem dX1_wears_13 : decode cX1_wears 13 = .ok (.ireturn, 1) := by decide +kernel
theorem dX1_wears_14 : decode cX1_wears 14 = .ok (.aload_n 0, 1) := by decide +kernel
theorem dX1_wears_15 : decode cX1_wears 15 = .ok (.aload_n 2, 1) := by decide +kernel
theorem dX1_wears_16 : decode cX1_wears 16 = .ok (.aload_n 2, 1) := by decide +kernel
theorem dX1_wears_17 : decode cX1_wears 17 = .ok (.iload_n 3, 1) := by decide +kernel
theorem dX1_wears_18 : decode cX1_wears 18 = .ok (.iload 4, 2) := by decide +kernel
theorem dX1_wears_20 : decode cX1_wears 20 = .ok (.invokevirtual 30, 3) := by decide +kernel
theorem dX1_wears_23 : decode cX1_wears 23 = .ok (.invokevirtual 33, 3) := by decide +kernel
theorem dX1_wears_26 : decode cX1_wears 26 = .ok (.aload_n 0, 1) := by decide +kernel
theorem dX1_wears_27 : decode cX1_wears 27 = .ok (.iload_n 3, 1) := by decide +kernel
theorem dX1_wears_28 : decode cX1_wears 28 = .ok (.iload 4, 2) := by decide +kernel
theorem dX1_wears_30 : decode cX1_wears 30 = .ok (.iload 5, 2) := by decide +kernel
theorem dX1_wears_32 : decode cX1_wears 32 = .ok (.invokevirtual 44, 3) := by decide +kernel
theorem dX1_wears_35 : decode cX1_wears 35 = .ok (.bipush 9, 2) := by decide +kernel
theorem dX1_wears_37 : decode cX1_wears 37 = .ok (.aload_n 0, 1) := by decide +kernel
theorem dX1_wears_38 : decode cX1_wears 38 = .ok (.aload_n 1, 1) := by decide +kernel
theorem dX1_wears_39 : decode cX1_wears 39 = .ok (.iconst 2, 1) := by decide +kernel
theorem dX1_wears_40 : decode cX1_wears 40 = .ok (.aload_n 2, 1) := by decide +kernel
theorem dX1_wears_41 : decode cX1_wears 41 = .ok (.invokevirtual 48, 3) := by decide +kernel
theorem dX1_wears_44 : decode cX1_wears 44 = .ok (.invokestatic 52, 3) := by decide +kernel
theorem dX1_wears_47 : decode cX1_wears 47 = .ok (.ireturn, 1) := by decide +kernel
def m1_wears : pMT := (yX1_wears, cX1_wears, 6, some .int)
theorem mo1_wears : mOK m1_wears 5 := ⟨tb_i 811 (by decide +kernel), wi_RX1, ⟨wn_RX1.1, wn_RX1.2, by decide +kernel⟩, by decide, plainFor_of_name wp_RX1⟩
theorem mv1_wears : mV m1_wears := ⟨tb_i 809 (by decide +kernel), tb_i 810 (by decide +kernel)⟩
def f1_wears (n : Nat) (I : (Nat → Nat → Int32)) (O : (Nat → Nat → Option Nat)) (a0 : Nat) (s1 : Option Nat) (a2 : Nat) (x3 : Int32) (x4 : Int32) (x5 : Int32) : Option (Int32 × (Nat → Nat → Int32)) := (match s1 with | none => some ((1 : Int32), I) | some b1 => (f7_hasLaw I O b1 (2 : Int32)).bind fun r3 => (if r3 = 0 then some ((1 : Int32), I) else (f10_keyAt I O a2 x3 x4).bind fun r6 => (f1_nameKey I O a0 a2 r6).bind fun r8 => (f1_namePlace r8 O a0 x3 x4 x5).bind fun r10 => (f1_evaluate n r10 O a0 b1 (2 : Int32) a2).bind fun r12 => (f1_within (9 : Int32) r12.1).bind fun r14 => some (r14, r12.2)))
set_option maxHeartbeats 4000000 in
set_option maxRecDepth 20000 in
theorem o1_wears {g : pG} {Qx : Option Value → pW → Prop} {Z : pZ} {I : (Nat → Nat → Int32)} {L : (Nat → Nat → Int64)} {O : (Nat → Nat → Option Nat)} {n : Nat} {a0 : Nat} {s1 : Option Nat} {a2 : Nat} {x3 : Int32} {x4 : Int32} {x5 : Int32} {res : Int32 × (Nat → Nat → Int32)} (d : Nat) (hW : WT Z O) (hZ0 : Z[a0]? = some (1, 3)) (hS1 : ∀ b, s1 = some b → Z[b]? = some (7, 7)) (hZ2 : Z[a2]? = some (10, 5)) (h : f1_wears n I O a0 s1 a2 x3 x4 x5 = some res) (hQ : Qx (some (.int res.1)) (Z, res.2, L, O)) : Ok g (d + 5, RX1, cX1_wears, 6, false, 0, 0, Z.length, pSl Z) Qx 0 [(0, .ref a0), (1, va_rf s1), (2, .ref a2), (3, .int x3), (4, .int x4), (5, .int x5)] [] (Z, I, L, O) := by
  unfold f1_wears at h
  refine ok_aloadQ_n dX1_wears_0 1 rfl ?_
  refine ok_ifnullQ (t := 12) dX1_wears_1 (by decide) ?_ ?_
  · intro hs2
    subst hs2
    show Ok g _ Qx 12 [(0, .ref a0), (1, .null), (2, .ref a2), (3, .int x3), (4, .int x4), (5, .int x5)] [] (Z, I, L, O)
    refine ok_iconst (v := 1) dX1_wears_12 (by decide) ?_
    cases h
    exact ok_iret dX1_wears_13 hQ
  · intro b1 hs2
    subst hs2
    show Ok g _ Qx 4 [(0, .ref a0), (1, .ref b1), (2, .ref a2), (3, .int x3), (4, .int x4), (5, .int x5)] [] (Z, I, L, O)
    refine ok_aload_n dX1_wears_4 1 rfl ?_
    refine ok_iconst (v := 2) dX1_wears_5 (by decide) ?_
    obtain ⟨r3, hr4, h⟩ := bd h
    refine ok_callV (d := ((d + 1) + 3)) (mt := m7_hasLaw) (mc := 0) (ms := 0) (As := [.int 2]) (r := []) dX1_wears_6 mo7_hasLaw mv7_hasLaw lkRX1_24 rfl (hS1 b1 rfl) (q := (RX7, TX7, 7)) rfl rfl rfl (Nat.le_of_ble_eq_true rfl) (by show _ + 1 ≤ d + _; omega) (Nat.le_refl _) (Nat.le_refl _) (pRt_mono ?_)
    refine k7_hasLaw (d + 1) hW (hS1 b1 rfl) hr4 ?_
    intro hbr3
    show Ok g _ Qx 9 [(0, .ref a0), (1, .ref b1), (2, .ref a2), (3, .int x3), (4, .int x4), (5, .int x5)] [.int r3] (Z, I, L, O)
    refine ok_if_ne (t := 14) dX1_wears_9 (by decide) (fun hc5 => ?_) (fun hc5 => ?_)
    · have h := (if_neg hc5).symm.trans h
      refine ok_aload_n dX1_wears_14 0 rfl ?_
      refine ok_aload_n dX1_wears_15 2 rfl ?_
      refine ok_aload_n dX1_wears_16 2 rfl ?_
      refine ok_iload_n dX1_wears_17 3 rfl ?_
      refine ok_iload dX1_wears_18 4 rfl ?_
      obtain ⟨r6, hr7, h⟩ := bd h
      refine ok_callV (d := ((d + 1) + 3)) (mt := m10_keyAt) (mc := 0) (ms := 0) (As := [.int x3, .int x4]) (r := [.ref a2, .ref a0]) dX1_wears_20 mo10_keyAt mv10_keyAt lkRX1_30 rfl hZ2 (q := (RX10, TX10, 5)) rfl rfl rfl (Nat.le_of_ble_eq_true rfl) (by show _ + 1 ≤ d + _; omega) (Nat.le_refl _) (Nat.le_refl _) (pRt_mono ?_)
      refine k10_keyAt (d + 1) hW hZ2 hr7 ?_
      intro _
      show Ok g _ Qx 23 [(0, .ref a0), (1, .ref b1), (2, .ref a2), (3, .int x3), (4, .int x4), (5, .int x5)] [.int r6, .ref a2, .ref a0] (Z, I, L, O)
      obtain ⟨r8, hr9, h⟩ := bd h
      refine ok_callV (d := ((d + 2) + 2)) (mt := m1_nameKey) (mc := 0) (ms := 0) (As := [.ref a2, .int r6]) (r := []) dX1_wears_23 mo1_nameKey mv1_nameKey lkRX1_33 rfl hZ0 (q := (RX1, TX1, 3)) rfl rfl rfl (Nat.le_of_ble_eq_true rfl) (by show _ + 1 ≤ d + _; omega) (Nat.le_refl _) (Nat.le_refl _) (pRt_mono ?_)
      refine k1_nameKey (d + 2) hW hZ0 hZ2 hr9 ?_
      intro _
      show Ok g _ Qx 26 [(0, .ref a0), (1, .ref b1), (2, .ref a2), (3, .int x3), (4, .int x4), (5, .int x5)] [] (Z, r8, L, O)
      refine ok_aload_n dX1_wears_26 0 rfl ?_
      refine ok_iload_n dX1_wears_27 3 rfl ?_
      refine ok_iload dX1_wears_28 4 rfl ?_
      refine ok_iload dX1_wears_30 5 rfl ?_
      obtain ⟨r10, hr11, h⟩ := bd h
      refine ok_callV (d := ((d + 2) + 2)) (mt := m1_namePlace) (mc := 0) (ms := 0) (As := [.int x3, .int x4, .int x5]) (r := []) dX1_wears_32 mo1_namePlace mv1_namePlace lkRX1_44 rfl hZ0 (q := (RX1, TX1, 3)) rfl rfl rfl (Nat.le_of_ble_eq_true rfl) (by show _ + 1 ≤ d + _; omega) (Nat.le_refl _) (Nat.le_refl _) (pRt_mono ?_)
      refine k1_namePlace (d + 2) hW hZ0 hr11 ?_
      intro _
      show Ok g _ Qx 35 [(0, .ref a0), (1, .ref b1), (2, .ref a2), (3, .int x3), (4, .int x4), (5, .int x5)] [] (Z, r10, L, O)
      refine ok_bipush (v := 9) dX1_wears_35 (by decide) ?_
      refine ok_aload_n dX1_wears_37 0 rfl ?_
      refine ok_aload_n dX1_wears_38 1 rfl ?_
      refine ok_iconst (v := 2) dX1_wears_39 (by decide) ?_
      refine ok_aload_n dX1_wears_40 2 rfl ?_
      obtain ⟨r12, hr13, h⟩ := bd h
      refine ok_callV (d := ((d + 0) + 4)) (mt := m1_evaluate) (mc := 0) (ms := 0) (As := [.ref b1, .int 2, .ref a2]) (r := [.int 9]) dX1_wears_41 mo1_evaluate mv1_evaluate lkRX1_48 rfl hZ0 (q := (RX1, TX1, 3)) rfl rfl rfl (Nat.le_of_ble_eq_true rfl) (by show _ + 1 ≤ d + _; omega) (Nat.le_refl _) (Nat.le_refl _) (pRt_mono ?_)
      refine k1_evaluate (d + 0) hW hZ0 (hS1 b1 rfl) hZ2 hr13 ?_
      intro _
      show Ok g _ Qx 44 [(0, .ref a0), (1, .ref b1), (2, .ref a2), (3, .int x3), (4, .int x4), (5, .int x5)] [.int r12.1, .int 9] (Z, r12.2, L, O)
      obtain ⟨r14, hr15, h⟩ := bd h
      refine ok_callS (d := ((d + 1) + 3)) (mt := m1_within) (mc := 0) (ms := 0) (As := [.int 9, .int r12.1]) (r := []) dX1_wears_44 mo1_within mv1_within lkRX1_52 rfl rfl (Nat.le_of_ble_eq_true rfl) (by show _ + 1 ≤ d + _; omega) (Nat.le_refl _) (Nat.le_refl _) (pRt_mono ?_)
      refine k1_within (d + 1) hW  hr15 ?_
      intro _
      show Ok g _ Qx 47 [(0, .ref a0), (1, .ref b1), (2, .ref a2), (3, .int x3), (4, .int x4), (5, .int x5)] [.int r14] (Z, r12.2, L, O)
      cases h
      exact ok_iret dX1_wears_47 hQ
    · have h := (if_pos hc5).symm.trans h
      refine ok_iconst (v := 1) dX1_wears_12 (by decide) ?_
      cases h
      exact ok_iret dX1_wears_13 hQ
theorem k1_wears {g : pG} {Q : Option Value → pW → Prop} {Z : pZ} {I : (Nat → Nat → Int32)} {L : (Nat → Nat → Int64)} {O : (Nat → Nat → Option Nat)} {n : Nat} {a0 : Nat} {s1 : Option Nat} {a2 : Nat} {x3 : Int32} {x4 : Int32} {x5 : Int32} {res : Int32 × (Nat → Nat → Int32)} (d : Nat) (hW : WT Z O) (hZ0 : Z[a0]? = some (1, 3)) (hS1 : ∀ b, s1 = some b → Z[b]? = some (7, 7)) (hZ2 : Z[a2]? = some (10, 5)) (h : f1_wears n I O a0 s1 a2 x3 x4 x5 = some res) (hQ : Q (some (.int res.1)) (Z, res.2, L, O)) : CT g (d + 5) m1_wears 0 0 [.ref a0, va_rf s1, .ref a2, .int x3, .int x4, .int x5] (Z, I, L, O) Q :=
  ct_of_ok (mt := m1_wears) (ini := false) mo1_wears.2.2.2.2 (fun h => by cases h) (by cases s1 <;> exact (Nat.le_of_ble_eq_true rfl)) (by
    rw [show lv_args 0 [.ref a0, va_rf s1, .ref a2, .int x3, .int x4, .int x5] = [(0, .ref a0), (1, va_rf s1), (2, .ref a2), (3, .int x3), (4, .int x4), (5, .int x5)] by cases s1 <;> rfl]
    exact o1_wears d hW hZ0 hS1 hZ2 h ⟨trivial, hQ, rfl, rfl⟩)
