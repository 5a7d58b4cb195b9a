theorem lkRX11_1 : Cond.methodLink RX11 1 objectInit ∈ lw_tbl := tb_i 27 (by decide +kernel)
theorem lkRX11_9 : Cond.methodLink RX11 9 yX9_init ∈ lw_tbl := tb_i 32 (by decide +kernel)
theorem lkRX11_21 : Cond.methodLink RX11 21 yX10_init ∈ lw_tbl := tb_i 169 (by decide +kernel)
theorem lkRX11_34 : Cond.methodLink RX11 34 yX8_init ∈ lw_tbl := tb_i 174 (by decide +kernel)
theorem lkRX11_41 : Cond.methodLink RX11 41 yX1_init ∈ lw_tbl := tb_i 205 (by decide +kernel)
theorem lkRX11_48 : Cond.methodLink RX11 48 yX4_init ∈ lw_tbl := tb_i 221 (by decide +kernel)
theorem lkRX11_57 : Cond.methodLink RX11 57 yX2_init ∈ lw_tbl := tb_i 231 (by decide +kernel)
theorem lkRX11_64 : Cond.methodLink RX11 64 yX6_init ∈ lw_tbl := tb_i 270 (by decide +kernel)
theorem lkRX11_69 : Cond.methodLink RX11 69 yX7_init ∈ lw_tbl := tb_i 292 (by decide +kernel)
theorem lkRX11_72 : Cond.methodLink RX11 72 yX5_init ∈ lw_tbl := tb_i 323 (by decide +kernel)
theorem dX11_init_0 : decode cX11_init 0 = .ok (.aload_n 0, 1) := by decide +kernel
theorem dX11_init_1 : decode cX11_init 1 = .ok (.invokespecial 1, 3) := by decide +kernel
theorem dX11_init_4 : decode cX11_init 4 = .ok (.aload_n 0, 1) := by decide +kernel
theorem dX11_init_5 : decode cX11_init 5 = .ok (.new 7, 3) := by decide +kernel
theorem dX11_init_8 : decode cX11_init 8 = .ok (.dup, 1) := by decide +kernel
theorem dX11_init_9 : decode cX11_init 9 = .ok (.invokespecial 9, 3) := by decide +kernel
theorem dX11_init_12 : decode cX11_init 12 = .ok (.putfield 10, 3) := by decide +kernel
theorem dX11_init_15 : decode cX11_init 15 = .ok (.aload_n 0, 1) := by decide +kernel
theorem dX11_init_16 : decode cX11_init 16 = .ok (.new 7, 3) := by decide +kernel
theorem dX11_init_19 : decode cX11_init 19 = .ok (.dup, 1) := by decide +kernel
theorem dX11_init_20 : decode cX11_init 20 = .ok (.invokespecial 9, 3) := by decide +kernel
theorem dX11_init_23 : decode cX11_init 23 = .ok (.putfield 16, 3) := by decide +kernel
theorem dX11_init_26 : decode cX11_init 26 = .ok (.aload_n 0, 1) := by decide +kernel
theorem dX11_init_27 : decode cX11_init 27 = .ok (.new 19, 3) := by decide +kernel
theorem dX11_init_30 : decode cX11_init 30 = .ok (.dup, 1) := by decide +kernel
theorem dX11_init_31 : decode cX11_init 31 = .ok (.invokespecial 21, 3) := by decide +kernel
theorem dX11_init_34 : decode cX11_init 34 = .ok (.putfield 22, 3) := by decide +kernel
theorem dX11_init_37 : decode cX11_init 37 = .ok (.aload_n 0, 1) := by decide +kernel
theorem dX11_init_38 : decode cX11_init 38 = .ok (.iconst 4, 1) := by decide +kernel
theorem dX11_init_39 : decode cX11_init 39 = .ok (.anewarray 26, 3) := by decide +kernel
theorem dX11_init_42 : decode cX11_init 42 = .ok (.putfield 28, 3) := by decide +kernel
theorem dX11_init_45 : decode cX11_init 45 = .ok (.aload_n 0, 1) := by decide +kernel
theorem dX11_init_46 : decode cX11_init 46 = .ok (.new 32, 3) := by decide +kernel
theorem dX11_init_49 : decode cX11_init 49 = .ok (.dup, 1) := by decide +kernel
theorem dX11_init_50 : decode cX11_init 50 = .ok (.invokespecial 34, 3) := by decide +kernel
theorem dX11_init_53 : decode cX11_init 53 = .ok (.putfield 35, 3) := by decide +kernel
theorem dX11_init_56 : decode cX11_init 56 = .ok (.aload_n 0, 1) := by decide +kernel
theorem dX11_init_57 : decode cX11_init 57 = .ok (.new 39, 3) := by decide +kernel
theorem dX11_init_60 : decode cX11_init 60 = .ok (.dup, 1) := by decide +kernel
theorem dX11_init_61 : decode cX11_init 61 = .ok (.invokespecial 41, 3) := by decide +kernel
theorem dX11_init_64 : decode cX11_init 64 = .ok (.putfield 42, 3) := by decide +kernel
theorem dX11_init_67 : decode cX11_init 67 = .ok (.aload_n 0, 1) := by decide +kernel
theorem dX11_init_68 : decode cX11_init 68 = .ok (.new 46, 3) := by decide +kernel
theorem dX11_init_71 : decode cX11_init 71 = .ok (.dup, 1) := by decide +kernel
theorem dX11_init_72 : decode cX11_init 72 = .ok (.aload_n 0, 1) := by decide +kernel
theorem dX11_init_73 : decode cX11_init 73 = .ok (.getfield 42, 3) := by decide +kernel
theorem dX11_init_76 : decode cX11_init 76 = .ok (.invokespecial 48, 3) := by decide +kernel
theorem dX11_init_79 : decode cX11_init 79 = .ok (.putfield 51, 3) := by decide +kernel
theorem dX11_init_82 : decode cX11_init 82 = .ok (.aload_n 0, 1) := by decide +kernel
theorem dX11_init_83 : decode cX11_init 83 = .ok (.new 55, 3) := by decide +kernel
theorem dX11_init_86 : decode cX11_init 86 = .ok (.dup, 1) := by decide +kernel
theorem dX11_init_87 : decode cX11_init 87 = .ok (.invokespecial 57, 3) := by decide +kernel
theorem dX11_init_90 : decode cX11_init 90 = .ok (.putfield 58, 3) := by decide +kernel
theorem dX11_init_93 : decode cX11_init 93 = .ok (.aload_n 0, 1) := by decide +kernel
theorem dX11_init_94 : decode cX11_init 94 = .ok (.new 62, 3) := by decide +kernel
theorem dX11_init_97 : decode cX11_init 97 = .ok (.dup, 1) := by decide +kernel
theorem dX11_init_98 : decode cX11_init 98 = .ok (.aload_n 0, 1) := by decide +kernel
theorem dX11_init_99 : decode cX11_init 99 = .ok (.getfield 42, 3) := by decide +kernel
theorem dX11_init_102 : decode cX11_init 102 = .ok (.invokespecial 64, 3) := by decide +kernel
theorem dX11_init_105 : decode cX11_init 105 = .ok (.putfield 65, 3) := by decide +kernel
theorem dX11_init_108 : decode cX11_init 108 = .ok (.iconst 0, 1) := by decide +kernel
theorem dX11_init_109 : decode cX11_init 109 = .ok (.istore_n 1, 1) := by decide +kernel
theorem dX11_init_110 : decode cX11_init 110 = .ok (.iload_n 1, 1) := by decide +kernel
theorem dX11_init_111 : decode cX11_init 111 = .ok (.iconst 4, 1) := by decide +kernel
theorem dX11_init_112 : decode cX11_init 112 = .ok (.if_icmp .ge 22, 3) := by decide +kernel
theorem dX11_init_115 : decode cX11_init 115 = .ok (.aload_n 0, 1) := by decide +kernel
theorem dX11_init_116 : decode cX11_init 116 = .ok (.getfield 28, 3) := by decide +kernel
theorem dX11_init_119 : decode cX11_init 119 = .ok (.iload_n 1, 1) := by decide +kernel
theorem dX11_init_120 : decode cX11_init 120 = .ok (.new 26, 3) := by decide +kernel
theorem dX11_init_123 : decode cX11_init 123 = .ok (.dup, 1) := by decide +kernel
theorem dX11_init_124 : decode cX11_init 124 = .ok (.invokespecial 69, 3) := by decide +kernel
theorem dX11_init_127 : decode cX11_init 127 = .ok (.aastore, 1) := by decide +kernel
theorem dX11_init_128 : decode cX11_init 128 = .ok (.iinc 1 1, 3) := by decide +kernel
theorem dX11_init_131 : decode cX11_init 131 = .ok (.goto (-21), 3) := by decide +kernel
theorem dX11_init_134 : decode cX11_init 134 = .ok (.aload_n 0, 1) := by decide +kernel
theorem dX11_init_135 : decode cX11_init 135 = .ok (.new 70, 3) := by decide +kernel
theorem dX11_init_138 : decode cX11_init 138 = .ok (.dup, 1) := by decide +kernel
theorem dX11_init_139 : decode cX11_init 139 = .ok (.aload_n 0, 1) := by decide +kernel
theorem dX11_init_140 : decode cX11_init 140 = .ok (.getfield 35, 3) := by decide +kernel
theorem dX11_init_143 : decode cX11_init 143 = .ok (.invokespecial 72, 3) := by decide +kernel
theorem dX11_init_146 : decode cX11_init 146 = .ok (.putfield 75, 3) := by decide +kernel
theorem dX11_init_149 : decode cX11_init 149 = .ok (.return_, 1) := by decide +kernel
def m11_init : pMT := (yX11_init, cX11_init, 2, none)
theorem mo11_init : mOK m11_init 0 := ⟨tb_i 26 (by decide +kernel), wi_RX11, ⟨wn_RX11.1, wn_RX11.2, by decide +kernel⟩, by decide, plainFor_of_name wp_RX11⟩
theorem mv11_init : mI m11_init := ⟨tb_i 25 (by decide +kernel), rfl, rfl⟩
def i11_init (a0 : Nat) (w : pW) : pW := bl (pNew w (9, 10)) fun w1 => bl (i9_init w.1.length w1) fun w2 => bl (wR w2 a0 0 w.1.length) fun w3 => bl (pNew w3 (9, 10)) fun w4 => bl (i9_init w3.1.length w4) fun w5 => bl (wR w5 a0 1 w3.1.length) fun w6 => bl (pNew w6 (10, 5)) fun w7 => bl (i10_init w6.1.length w7) fun w8 => bl (wR w8 a0 2 w6.1.length) fun w9 => bl (pNew w9 (17, 4)) fun w10 => bl (wR w10 a0 3 w9.1.length) fun w11 => bl (pNew w11 (8, 6)) fun w12 => bl (i8_init w11.1.length w12) fun w13 => bl (wR w13 a0 4 w11.1.length) fun w14 => bl (pNew w14 (1, 3)) fun w15 => bl (i1_init w14.1.length w15) fun w16 => bl (wR w16 a0 6 w14.1.length) fun w17 => bl (pNew w17 (4, 1)) fun w18 => bl (i4_init w17.1.length w14.1.length w18) fun w19 => bl (wR w19 a0 7 w17.1.length) fun w20 => bl (pNew w20 (2, 10)) fun w21 => bl (i2_init w20.1.length w21) fun w22 => bl (wR w22 a0 8 w20.1.length) fun w23 => bl (pNew w23 (6, 5)) fun w24 => bl (i6_init w23.1.length w14.1.length w24) fun w25 => bl (wR w25 a0 9 w23.1.length) fun w26 => bl (pNew w26 (7, 7)) fun w27 => bl (i7_init w26.1.length w27) fun w28 => bl (wR w28 w9.1.length 0 w26.1.length) fun w29 => bl (pNew w29 (7, 7)) fun w30 => bl (i7_init w29.1.length w30) fun w31 => bl (wR w31 w9.1.length 1 w29.1.length) fun w32 => bl (pNew w32 (7, 7)) fun w33 => bl (i7_init w32.1.length w33) fun w34 => bl (wR w34 w9.1.length 2 w32.1.length) fun w35 => bl (pNew w35 (7, 7)) fun w36 => bl (i7_init w35.1.length w36) fun w37 => bl (wR w37 w9.1.length 3 w35.1.length) fun w38 => bl (pNew w38 (5, 8)) fun w39 => bl (i5_init w38.1.length w11.1.length w39) fun w40 => bl (wR w40 a0 5 w38.1.length) fun w41 => w41
set_option maxHeartbeats 4000000 in
set_option maxRecDepth 20000 in
theorem F11_init {a0 : Nat} {w wf : pW} (h : i11_init a0 w = wf) : wf.1.length = w.1.length + 329 ∧ pSl wf.1 = pSl w.1 + 13540 ∧ (∀ (c : Nat) (q : Nat × Nat), w.1[c]? = some q → wf.1[c]? = some q) ∧ ∀ (c k : Nat) (q : Nat × Nat), w.1[c]? = some q → c ≠ a0 → wf.2.2.2 c k = w.2.2.2 c k := by
  unfold i11_init at h
  have P0 : (w.1.length = w.1.length + 0 ∧ pSl w.1 = pSl w.1 + 0) ∧ (∀ (c : Nat) (q : Nat × Nat), w.1[c]? = some q → w.1[c]? = some q) ∧ ∀ (c k : Nat) (q : Nat × Nat), w.1[c]? = some q → c ≠ a0 → w.2.2.2 c k = w.2.2.2 c k := ⟨⟨rfl, rfl⟩, fun _ _ h => h, fun _ _ _ _ _ => rfl⟩
  obtain ⟨w1, e1, h⟩ := blE h
  have P1 : (w1.1.length = w.1.length + 1 ∧ pSl w1.1 = pSl w.1 + 10) ∧ (∀ (c : Nat) (q : Nat × Nat), w.1[c]? = some q → w1.1[c]? = some q) ∧ ∀ (c k : Nat) (q : Nat × Nat), w.1[c]? = some q → c ≠ a0 → w1.2.2.2 c k = w.2.2.2 c k := pf_new P0 e1
  obtain ⟨w2, e2, h⟩ := blE h
  have P2 : (w2.1.length = w.1.length + 134 ∧ pSl w2.1 = pSl w.1 + 4505) ∧ (∀ (c : Nat) (q : Nat × Nat), w.1[c]? = some q → w2.1[c]? = some q) ∧ ∀ (c k : Nat) (q : Nat × Nat), w.1[c]? = some q → c ≠ a0 → w2.2.2.2 c k = w.2.2.2 c k := pf_S P1 (F9_init e2.symm) (fun c q hc => pf_ne P0 hc)
  obtain ⟨w3, e3, h⟩ := blE h
  have P3 : (w3.1.length = w.1.length + 134 ∧ pSl w3.1 = pSl w.1 + 4505) ∧ (∀ (c : Nat) (q : Nat × Nat), w.1[c]? = some q → w3.1[c]? = some q) ∧ ∀ (c k : Nat) (q : Nat × Nat), w.1[c]? = some q → c ≠ a0 → w3.2.2.2 c k = w.2.2.2 c k := pf_R P2 e3 (fun c q hc => Or.inl rfl)
  obtain ⟨w4, e4, h⟩ := blE h
  have P4 : (w4.1.length = w.1.length + 135 ∧ pSl w4.1 = pSl w.1 + 4515) ∧ (∀ (c : Nat) (q : Nat × Nat), w.1[c]? = some q → w4.1[c]? = some q) ∧ ∀ (c k : Nat) (q : Nat × Nat), w.1[c]? = some q → c ≠ a0 → w4.2.2.2 c k = w.2.2.2 c k := pf_new P3 e4
  obtain ⟨w5, e5, h⟩ := blE h
  have P5 : (w5.1.length = w.1.length + 268 ∧ pSl w5.1 = pSl w.1 + 9010) ∧ (∀ (c : Nat) (q : Nat × Nat), w.1[c]? = some q → w5.1[c]? = some q) ∧ ∀ (c k : Nat) (q : Nat × Nat), w.1[c]? = some q → c ≠ a0 → w5.2.2.2 c k = w.2.2.2 c k := pf_S P4 (F9_init e5.symm) (fun c q hc => pf_ne P3 hc)
  obtain ⟨w6, e6, h⟩ := blE h
  have P6 : (w6.1.length = w.1.length + 268 ∧ pSl w6.1 = pSl w.1 + 9010) ∧ (∀ (c : Nat) (q : Nat × Nat), w.1[c]? = some q → w6.1[c]? = some q) ∧ ∀ (c k : Nat) (q : Nat × Nat), w.1[c]? = some q → c ≠ a0 → w6.2.2.2 c k = w.2.2.2 c k := pf_R P5 e6 (fun c q hc => Or.inl rfl)
  obtain ⟨w7, e7, h⟩ := blE h
  have P7 : (w7.1.length = w.1.length + 269 ∧ pSl w7.1 = pSl w.1 + 9015) ∧ (∀ (c : Nat) (q : Nat × Nat), w.1[c]? = some q → w7.1[c]? = some q) ∧ ∀ (c k : Nat) (q : Nat × Nat), w.1[c]? = some q → c ≠ a0 → w7.2.2.2 c k = w.2.2.2 c k := pf_new P6 e7
  obtain ⟨w8, e8, h⟩ := blE h
  have P8 : (w8.1.length = w.1.length + 275 ∧ pSl w8.1 = pSl w.1 + 9240) ∧ (∀ (c : Nat) (q : Nat × Nat), w.1[c]? = some q → w8.1[c]? = some q) ∧ ∀ (c k : Nat) (q : Nat × Nat), w.1[c]? = some q → c ≠ a0 → w8.2.2.2 c k = w.2.2.2 c k := pf_S P7 (F10_init e8.symm) (fun c q hc => pf_ne P6 hc)
  obtain ⟨w9, e9, h⟩ := blE h
  have P9 : (w9.1.length = w.1.length + 275 ∧ pSl w9.1 = pSl w.1 + 9240) ∧ (∀ (c : Nat) (q : Nat × Nat), w.1[c]? = some q → w9.1[c]? = some q) ∧ ∀ (c k : Nat) (q : Nat × Nat), w.1[c]? = some q → c ≠ a0 → w9.2.2.2 c k = w.2.2.2 c k := pf_R P8 e9 (fun c q hc => Or.inl rfl)
  obtain ⟨w10, e10, h⟩ := blE h
  have P10 : (w10.1.length = w.1.length + 276 ∧ pSl w10.1 = pSl w.1 + 9244) ∧ (∀ (c : Nat) (q : Nat × Nat), w.1[c]? = some q → w10.1[c]? = some q) ∧ ∀ (c k : Nat) (q : Nat × Nat), w.1[c]? = some q → c ≠ a0 → w10.2.2.2 c k = w.2.2.2 c k := pf_new P9 e10
  obtain ⟨w11, e11, h⟩ := blE h
  have P11 : (w11.1.length = w.1.length + 276 ∧ pSl w11.1 = pSl w.1 + 9244) ∧ (∀ (c : Nat) (q : Nat × Nat), w.1[c]? = some q → w11.1[c]? = some q) ∧ ∀ (c k : Nat) (q : Nat × Nat), w.1[c]? = some q → c ≠ a0 → w11.2.2.2 c k = w.2.2.2 c k := pf_R P10 e11 (fun c q hc => Or.inl rfl)
  obtain ⟨w12, e12, h⟩ := blE h
  have P12 : (w12.1.length = w.1.length + 277 ∧ pSl w12.1 = pSl w.1 + 9250) ∧ (∀ (c : Nat) (q : Nat × Nat), w.1[c]? = some q → w12.1[c]? = some q) ∧ ∀ (c k : Nat) (q : Nat × Nat), w.1[c]? = some q → c ≠ a0 → w12.2.2.2 c k = w.2.2.2 c k := pf_new P11 e12
  obtain ⟨w13, e13, h⟩ := blE h
  have P13 : (w13.1.length = w.1.length + 281 ∧ pSl w13.1 = pSl w.1 + 10453) ∧ (∀ (c : Nat) (q : Nat × Nat), w.1[c]? = some q → w13.1[c]? = some q) ∧ ∀ (c k : Nat) (q : Nat × Nat), w.1[c]? = some q → c ≠ a0 → w13.2.2.2 c k = w.2.2.2 c k := pf_S P12 (F8_init e13.symm) (fun c q hc => pf_ne P11 hc)
  obtain ⟨w14, e14, h⟩ := blE h
  have P14 : (w14.1.length = w.1.length + 281 ∧ pSl w14.1 = pSl w.1 + 10453) ∧ (∀ (c : Nat) (q : Nat × Nat), w.1[c]? = some q → w14.1[c]? = some q) ∧ ∀ (c k : Nat) (q : Nat × Nat), w.1[c]? = some q → c ≠ a0 → w14.2.2.2 c k = w.2.2.2 c k := pf_R P13 e14 (fun c q hc => Or.inl rfl)
  obtain ⟨w15, e15, h⟩ := blE h
  have P15 : (w15.1.length = w.1.length + 282 ∧ pSl w15.1 = pSl w.1 + 10456) ∧ (∀ (c : Nat) (q : Nat × Nat), w.1[c]? = some q → w15.1[c]? = some q) ∧ ∀ (c k : Nat) (q : Nat × Nat), w.1[c]? = some q → c ≠ a0 → w15.2.2.2 c k = w.2.2.2 c k := pf_new P14 e15
  obtain ⟨w16, e16, h⟩ := blE h
  have P16 : (w16.1.length = w.1.length + 284 ∧ pSl w16.1 = pSl w.1 + 10527) ∧ (∀ (c : Nat) (q : Nat × Nat), w.1[c]? = some q → w16.1[c]? = some q) ∧ ∀ (c k : Nat) (q : Nat × Nat), w.1[c]? = some q → c ≠ a0 → w16.2.2.2 c k = w.2.2.2 c k := pf_S P15 (F1_init e16.symm) (fun c q hc => pf_ne P14 hc)
  obtain ⟨w17, e17, h⟩ := blE h
  have P17 : (w17.1.length = w.1.length + 284 ∧ pSl w17.1 = pSl w.1 + 10527) ∧ (∀ (c : Nat) (q : Nat × Nat), w.1[c]? = some q → w17.1[c]? = some q) ∧ ∀ (c k : Nat) (q : Nat × Nat), w.1[c]? = some q → c ≠ a0 → w17.2.2.2 c k = w.2.2.2 c k := pf_R P16 e17 (fun c q hc => Or.inl rfl)
  obtain ⟨w18, e18, h⟩ := blE h
  have P18 : (w18.1.length = w.1.length + 285 ∧ pSl w18.1 = pSl w.1 + 10528) ∧ (∀ (c : Nat) (q : Nat × Nat), w.1[c]? = some q → w18.1[c]? = some q) ∧ ∀ (c k : Nat) (q : Nat × Nat), w.1[c]? = some q → c ≠ a0 → w18.2.2.2 c k = w.2.2.2 c k := pf_new P17 e18
  obtain ⟨w19, e19, h⟩ := blE h
  have P19 : (w19.1.length = w.1.length + 285 ∧ pSl w19.1 = pSl w.1 + 10528) ∧ (∀ (c : Nat) (q : Nat × Nat), w.1[c]? = some q → w19.1[c]? = some q) ∧ ∀ (c k : Nat) (q : Nat × Nat), w.1[c]? = some q → c ≠ a0 → w19.2.2.2 c k = w.2.2.2 c k := pf_S P18 (F4_init e19.symm) (fun c q hc => pf_ne P17 hc)
  obtain ⟨w20, e20, h⟩ := blE h
  have P20 : (w20.1.length = w.1.length + 285 ∧ pSl w20.1 = pSl w.1 + 10528) ∧ (∀ (c : Nat) (q : Nat × Nat), w.1[c]? = some q → w20.1[c]? = some q) ∧ ∀ (c k : Nat) (q : Nat × Nat), w.1[c]? = some q → c ≠ a0 → w20.2.2.2 c k = w.2.2.2 c k := pf_R P19 e20 (fun c q hc => Or.inl rfl)
  obtain ⟨w21, e21, h⟩ := blE h
  have P21 : (w21.1.length = w.1.length + 286 ∧ pSl w21.1 = pSl w.1 + 10538) ∧ (∀ (c : Nat) (q : Nat × Nat), w.1[c]? = some q → w21.1[c]? = some q) ∧ ∀ (c k : Nat) (q : Nat × Nat), w.1[c]? = some q → c ≠ a0 → w21.2.2.2 c k = w.2.2.2 c k := pf_new P20 e21
  obtain ⟨w22, e22, h⟩ := blE h
  have P22 : (w22.1.length = w.1.length + 293 ∧ pSl w22.1 = pSl w.1 + 10965) ∧ (∀ (c : Nat) (q : Nat × Nat), w.1[c]? = some q → w22.1[c]? = some q) ∧ ∀ (c k : Nat) (q : Nat × Nat), w.1[c]? = some q → c ≠ a0 → w22.2.2.2 c k = w.2.2.2 c k := pf_S P21 (F2_init e22.symm) (fun c q hc => pf_ne P20 hc)
  obtain ⟨w23, e23, h⟩ := blE h
  have P23 : (w23.1.length = w.1.length + 293 ∧ pSl w23.1 = pSl w.1 + 10965) ∧ (∀ (c : Nat) (q : Nat × Nat), w.1[c]? = some q → w23.1[c]? = some q) ∧ ∀ (c k : Nat) (q : Nat × Nat), w.1[c]? = some q → c ≠ a0 → w23.2.2.2 c k = w.2.2.2 c k := pf_R P22 e23 (fun c q hc => Or.inl rfl)
  obtain ⟨w24, e24, h⟩ := blE h
  have P24 : (w24.1.length = w.1.length + 294 ∧ pSl w24.1 = pSl w.1 + 10970) ∧ (∀ (c : Nat) (q : Nat × Nat), w.1[c]? = some q → w24.1[c]? = some q) ∧ ∀ (c k : Nat) (q : Nat × Nat), w.1[c]? = some q → c ≠ a0 → w24.2.2.2 c k = w.2.2.2 c k := pf_new P23 e24
  obtain ⟨w25, e25, h⟩ := blE h
  have P25 : (w25.1.length = w.1.length + 298 ∧ pSl w25.1 = pSl w.1 + 11622) ∧ (∀ (c : Nat) (q : Nat × Nat), w.1[c]? = some q → w25.1[c]? = some q) ∧ ∀ (c k : Nat) (q : Nat × Nat), w.1[c]? = some q → c ≠ a0 → w25.2.2.2 c k = w.2.2.2 c k := pf_S P24 (F6_init e25.symm) (fun c q hc => pf_ne P23 hc)
  obtain ⟨w26, e26, h⟩ := blE h
  have P26 : (w26.1.length = w.1.length + 298 ∧ pSl w26.1 = pSl w.1 + 11622) ∧ (∀ (c : Nat) (q : Nat × Nat), w.1[c]? = some q → w26.1[c]? = some q) ∧ ∀ (c k : Nat) (q : Nat × Nat), w.1[c]? = some q → c ≠ a0 → w26.2.2.2 c k = w.2.2.2 c k := pf_R P25 e26 (fun c q hc => Or.inl rfl)
  obtain ⟨w27, e27, h⟩ := blE h
  have P27 : (w27.1.length = w.1.length + 299 ∧ pSl w27.1 = pSl w.1 + 11629) ∧ (∀ (c : Nat) (q : Nat × Nat), w.1[c]? = some q → w27.1[c]? = some q) ∧ ∀ (c k : Nat) (q : Nat × Nat), w.1[c]? = some q → c ≠ a0 → w27.2.2.2 c k = w.2.2.2 c k := pf_new P26 e27
  obtain ⟨w28, e28, h⟩ := blE h
  have P28 : (w28.1.length = w.1.length + 304 ∧ pSl w28.1 = pSl w.1 + 12004) ∧ (∀ (c : Nat) (q : Nat × Nat), w.1[c]? = some q → w28.1[c]? = some q) ∧ ∀ (c k : Nat) (q : Nat × Nat), w.1[c]? = some q → c ≠ a0 → w28.2.2.2 c k = w.2.2.2 c k := pf_S P27 (F7_init e28.symm) (fun c q hc => pf_ne P26 hc)
  obtain ⟨w29, e29, h⟩ := blE h
  have P29 : (w29.1.length = w.1.length + 304 ∧ pSl w29.1 = pSl w.1 + 12004) ∧ (∀ (c : Nat) (q : Nat × Nat), w.1[c]? = some q → w29.1[c]? = some q) ∧ ∀ (c k : Nat) (q : Nat × Nat), w.1[c]? = some q → c ≠ a0 → w29.2.2.2 c k = w.2.2.2 c k := pf_R P28 e29 (fun c q hc => Or.inr (pf_ne P9 hc))
  obtain ⟨w30, e30, h⟩ := blE h
  have P30 : (w30.1.length = w.1.length + 305 ∧ pSl w30.1 = pSl w.1 + 12011) ∧ (∀ (c : Nat) (q : Nat × Nat), w.1[c]? = some q → w30.1[c]? = some q) ∧ ∀ (c k : Nat) (q : Nat × Nat), w.1[c]? = some q → c ≠ a0 → w30.2.2.2 c k = w.2.2.2 c k := pf_new P29 e30
  obtain ⟨w31, e31, h⟩ := blE h
  have P31 : (w31.1.length = w.1.length + 310 ∧ pSl w31.1 = pSl w.1 + 12386) ∧ (∀ (c : Nat) (q : Nat × Nat), w.1[c]? = some q → w31.1[c]? = some q) ∧ ∀ (c k : Nat) (q : Nat × Nat), w.1[c]? = some q → c ≠ a0 → w31.2.2.2 c k = w.2.2.2 c k := pf_S P30 (F7_init e31.symm) (fun c q hc => pf_ne P29 hc)
  obtain ⟨w32, e32, h⟩ := blE h
  have P32 : (w32.1.length = w.1.length + 310 ∧ pSl w32.1 = pSl w.1 + 12386) ∧ (∀ (c : Nat) (q : Nat × Nat), w.1[c]? = some q → w32.1[c]? = some q) ∧ ∀ (c k : Nat) (q : Nat × Nat), w.1[c]? = some q → c ≠ a0 → w32.2.2.2 c k = w.2.2.2 c k := pf_R P31 e32 (fun c q hc => Or.inr (pf_ne P9 hc))
  obtain ⟨w33, e33, h⟩ := blE h
  have P33 : (w33.1.length = w.1.length + 311 ∧ pSl w33.1 = pSl w.1 + 12393) ∧ (∀ (c : Nat) (q : Nat × Nat), w.1[c]? = some q → w33.1[c]? = some q) ∧ ∀ (c k : Nat) (q : Nat × Nat), w.1[c]? = some q → c ≠ a0 → w33.2.2.2 c k = w.2.2.2 c k := pf_new P32 e33
  obtain ⟨w34, e34, h⟩ := blE h
  have P34 : (w34.1.length = w.1.length + 316 ∧ pSl w34.1 = pSl w.1 + 12768) ∧ (∀ (c : Nat) (q : Nat × Nat), w.1[c]? = some q → w34.1[c]? = some q) ∧ ∀ (c k : Nat) (q : Nat × Nat), w.1[c]? = some q → c ≠ a0 → w34.2.2.2 c k = w.2.2.2 c k := pf_S P33 (F7_init e34.symm) (fun c q hc => pf_ne P32 hc)
  obtain ⟨w35, e35, h⟩ := blE h
  have P35 : (w35.1.length = w.1.length + 316 ∧ pSl w35.1 = pSl w.1 + 12768) ∧ (∀ (c : Nat) (q : Nat × Nat), w.1[c]? = some q → w35.1[c]? = some q) ∧ ∀ (c k : Nat) (q : Nat × Nat), w.1[c]? = some q → c ≠ a0 → w35.2.2.2 c k = w.2.2.2 c k := pf_R P34 e35 (fun c q hc => Or.inr (pf_ne P9 hc))
  obtain ⟨w36, e36, h⟩ := blE h
  have P36 : (w36.1.length = w.1.length + 317 ∧ pSl w36.1 = pSl w.1 + 12775) ∧ (∀ (c : Nat) (q : Nat × Nat), w.1[c]? = some q → w36.1[c]? = some q) ∧ ∀ (c k : Nat) (q : Nat × Nat), w.1[c]? = some q → c ≠ a0 → w36.2.2.2 c k = w.2.2.2 c k := pf_new P35 e36
  obtain ⟨w37, e37, h⟩ := blE h
  have P37 : (w37.1.length = w.1.length + 322 ∧ pSl w37.1 = pSl w.1 + 13150) ∧ (∀ (c : Nat) (q : Nat × Nat), w.1[c]? = some q → w37.1[c]? = some q) ∧ ∀ (c k : Nat) (q : Nat × Nat), w.1[c]? = some q → c ≠ a0 → w37.2.2.2 c k = w.2.2.2 c k := pf_S P36 (F7_init e37.symm) (fun c q hc => pf_ne P35 hc)
  obtain ⟨w38, e38, h⟩ := blE h
  have P38 : (w38.1.length = w.1.length + 322 ∧ pSl w38.1 = pSl w.1 + 13150) ∧ (∀ (c : Nat) (q : Nat × Nat), w.1[c]? = some q → w38.1[c]? = some q) ∧ ∀ (c k : Nat) (q : Nat × Nat), w.1[c]? = some q → c ≠ a0 → w38.2.2.2 c k = w.2.2.2 c k := pf_R P37 e38 (fun c q hc => Or.inr (pf_ne P9 hc))
  obtain ⟨w39, e39, h⟩ := blE h
  have P39 : (w39.1.length = w.1.length + 323 ∧ pSl w39.1 = pSl w.1 + 13158) ∧ (∀ (c : Nat) (q : Nat × Nat), w.1[c]? = some q → w39.1[c]? = some q) ∧ ∀ (c k : Nat) (q : Nat × Nat), w.1[c]? = some q → c ≠ a0 → w39.2.2.2 c k = w.2.2.2 c k := pf_new P38 e39
  obtain ⟨w40, e40, h⟩ := blE h
  have P40 : (w40.1.length = w.1.length + 329 ∧ pSl w40.1 = pSl w.1 + 13540) ∧ (∀ (c : Nat) (q : Nat × Nat), w.1[c]? = some q → w40.1[c]? = some q) ∧ ∀ (c k : Nat) (q : Nat × Nat), w.1[c]? = some q → c ≠ a0 → w40.2.2.2 c k = w.2.2.2 c k := pf_S P39 (F5_init e40.symm) (fun c q hc => pf_ne P38 hc)
  obtain ⟨w41, e41, h⟩ := blE h
  have P41 : (w41.1.length = w.1.length + 329 ∧ pSl w41.1 = pSl w.1 + 13540) ∧ (∀ (c : Nat) (q : Nat × Nat), w.1[c]? = some q → w41.1[c]? = some q) ∧ ∀ (c k : Nat) (q : Nat × Nat), w.1[c]? = some q → c ≠ a0 → w41.2.2.2 c k = w.2.2.2 c k := pf_R P40 e41 (fun c q hc => Or.inl rfl)
  subst h
  exact ⟨P41.1.1, P41.1.2, P41.2⟩
set_option maxHeartbeats 4000000 in
set_option maxRecDepth 20000 in
theorem oi11_init {g : pG} {Qx : Option Value → pW → Prop} {w wf : pW} {a0 : Nat} (d : Nat) (hz0 : w.1[a0]? = some (11, 11)) (hL : w.1.length + 329 ≤ 1000) (h : i11_init a0 w = wf) (hQ : Qx none wf) : Ok g (d + 5, RX11, cX11_init, 2, true, 329, 13540, w.1.length, pSl w.1) Qx 0 [(0, .ref a0)] [] w := by
  unfold i11_init at h
  have l0 : w.1.length = w.1.length + 0 := rfl
  have s0 : pSl w.1 = pSl w.1 + 0 := rfl
  refine ok_aload_n dX11_init_0 0 rfl ?_
  refine ok_oinit dX11_init_1 lkRX11_1 (Nat.le_of_ble_eq_true rfl) (by show 1 ≤ d + _; omega) ?_
  refine ok_aload_n dX11_init_4 0 rfl ?_
  obtain ⟨w1, e1, h⟩ := blE h
  refine oi_new (ci := 9) (q := (RX9, TX9, 10)) dX11_init_5 rfl (tb_i (c := Cond.classLink RX11 7 RX9) 30 (by decide +kernel)) (b_len (mc := 329) l0 hL (by decide)) (b_c1 (mc := 329) l0 (by decide)) (b_s1 (N := 10) (ms := 13540) s0 (by decide)) e1 ?_
  have l1 : w1.1.length = w.1.length + 1 := ln_new e1 l0
  have s1 : pSl w1.1 = pSl w.1 + 10 := sn_new e1 s0
  have z1_0 : w1.1[a0]? = some (11, 11) := by rw [e1]; exact z_new hz0
  have z1_n : w1.1[w.1.length]? = some (9, 10) := by rw [e1]; exact z_at _ _
  refine ok_dup dX11_init_8 rfl ?_
  refine ok_callI (d := (d + 0 + 4)) (mt := m9_init) (mc := 133) (ms := 4495) (a := w.1.length) (As := []) (r := [.ref w.1.length, .ref a0]) dX11_init_9 mo9_init mv9_init lkRX11_9 rfl rfl (Nat.le_of_ble_eq_true rfl) (dep_le d (by decide)) (b_cm (mc := 329) l1 (by decide)) (b_cm (mc := 13540) s1 (by decide)) ?_
  obtain ⟨w2, e2, h⟩ := blE h
  refine ki9_init (d + 0) z1_n (b_sub l1 hL (by decide)) e2.symm ?_
  show Ok g _ Qx 12 [(0, .ref a0)] [.ref w.1.length, .ref a0] w2
  have F2 := F9_init e2.symm
  have l2 : w2.1.length = w.1.length + 134 := ln_sub F2.1 l1
  have s2 : pSl w2.1 = pSl w.1 + 4505 := ln_sub F2.2.1 s1
  have z2_0 : w2.1[a0]? = some (11, 11) := by exact F2.2.2.1 _ _ z1_0
  have z2_1 : w2.1[w.1.length]? = some (9, 10) := by exact F2.2.2.1 _ _ z1_n
  obtain ⟨w3, e3, h⟩ := blE h
  refine oi_putR (ci := 11) (k := 0) dX11_init_12 flRX11_10 rfl (Or.inl ⟨_, rfl⟩) (Or.inr ⟨rfl, rfl, rfl⟩) z2_0 (by decide) e3 ?_
  have l3 : w3.1.length = w.1.length + 134 := by rw [e3]; exact l2
  have s3 : pSl w3.1 = pSl w.1 + 4505 := by rw [e3]; exact s2
  have z3_0 : w3.1[a0]? = some (11, 11) := by rw [e3]; exact z2_0
  refine ok_aload_n dX11_init_15 0 rfl ?_
  obtain ⟨w4, e4, h⟩ := blE h
  refine oi_new (ci := 9) (q := (RX9, TX9, 10)) dX11_init_16 rfl (tb_i (c := Cond.classLink RX11 7 RX9) 30 (by decide +kernel)) (b_len (mc := 329) l3 hL (by decide)) (b_c1 (mc := 329) l3 (by decide)) (b_s1 (N := 10) (ms := 13540) s3 (by decide)) e4 ?_
  have l4 : w4.1.length = w.1.length + 135 := ln_new e4 l3
  have s4 : pSl w4.1 = pSl w.1 + 4515 := sn_new e4 s3
  have z4_0 : w4.1[a0]? = some (11, 11) := by rw [e4]; exact z_new z3_0
  have z4_n : w4.1[w3.1.length]? = some (9, 10) := by rw [e4]; exact z_at _ _
  refine ok_dup dX11_init_19 rfl ?_
  refine ok_callI (d := (d + 0 + 4)) (mt := m9_init) (mc := 133) (ms := 4495) (a := w3.1.length) (As := []) (r := [.ref w3.1.length, .ref a0]) dX11_init_20 mo9_init mv9_init lkRX11_9 rfl rfl (Nat.le_of_ble_eq_true rfl) (dep_le d (by decide)) (b_cm (mc := 329) l4 (by decide)) (b_cm (mc := 13540) s4 (by decide)) ?_
  obtain ⟨w5, e5, h⟩ := blE h
  refine ki9_init (d + 0) z4_n (b_sub l4 hL (by decide)) e5.symm ?_
  show Ok g _ Qx 23 [(0, .ref a0)] [.ref w3.1.length, .ref a0] w5
  have F5 := F9_init e5.symm
  have l5 : w5.1.length = w.1.length + 268 := ln_sub F5.1 l4
  have s5 : pSl w5.1 = pSl w.1 + 9010 := ln_sub F5.2.1 s4
  have z5_0 : w5.1[a0]? = some (11, 11) := by exact F5.2.2.1 _ _ z4_0
  have z5_1 : w5.1[w3.1.length]? = some (9, 10) := by exact F5.2.2.1 _ _ z4_n
  obtain ⟨w6, e6, h⟩ := blE h
  refine oi_putR (ci := 11) (k := 1) dX11_init_23 flRX11_16 rfl (Or.inl ⟨_, rfl⟩) (Or.inr ⟨rfl, rfl, rfl⟩) z5_0 (by decide) e6 ?_
  have l6 : w6.1.length = w.1.length + 268 := by rw [e6]; exact l5
  have s6 : pSl w6.1 = pSl w.1 + 9010 := by rw [e6]; exact s5
  have z6_0 : w6.1[a0]? = some (11, 11) := by rw [e6]; exact z5_0
  refine ok_aload_n dX11_init_26 0 rfl ?_
  obtain ⟨w7, e7, h⟩ := blE h
  refine oi_new (ci := 10) (q := (RX10, TX10, 5)) dX11_init_27 rfl (tb_i (c := Cond.classLink RX11 19 RX10) 168 (by decide +kernel)) (b_len (mc := 329) l6 hL (by decide)) (b_c1 (mc := 329) l6 (by decide)) (b_s1 (N := 5) (ms := 13540) s6 (by decide)) e7 ?_
  have l7 : w7.1.length = w.1.length + 269 := ln_new e7 l6
  have s7 : pSl w7.1 = pSl w.1 + 9015 := sn_new e7 s6
  have z7_0 : w7.1[a0]? = some (11, 11) := by rw [e7]; exact z_new z6_0
  have z7_n : w7.1[w6.1.length]? = some (10, 5) := by rw [e7]; exact z_at _ _
  refine ok_dup dX11_init_30 rfl ?_
  refine ok_callI (d := (d + 1 + 3)) (mt := m10_init) (mc := 6) (ms := 225) (a := w6.1.length) (As := []) (r := [.ref w6.1.length, .ref a0]) dX11_init_31 mo10_init mv10_init lkRX11_21 rfl rfl (Nat.le_of_ble_eq_true rfl) (dep_le d (by decide)) (b_cm (mc := 329) l7 (by decide)) (b_cm (mc := 13540) s7 (by decide)) ?_
  obtain ⟨w8, e8, h⟩ := blE h
  refine ki10_init (d + 1) z7_n (b_sub l7 hL (by decide)) e8.symm ?_
  show Ok g _ Qx 34 [(0, .ref a0)] [.ref w6.1.length, .ref a0] w8
  have F8 := F10_init e8.symm
  have l8 : w8.1.length = w.1.length + 275 := ln_sub F8.1 l7
  have s8 : pSl w8.1 = pSl w.1 + 9240 := ln_sub F8.2.1 s7
  have z8_0 : w8.1[a0]? = some (11, 11) := by exact F8.2.2.1 _ _ z7_0
  have z8_1 : w8.1[w6.1.length]? = some (10, 5) := by exact F8.2.2.1 _ _ z7_n
  obtain ⟨w9, e9, h⟩ := blE h
  refine oi_putR (ci := 11) (k := 2) dX11_init_34 flRX11_22 rfl (Or.inl ⟨_, rfl⟩) (Or.inr ⟨rfl, rfl, rfl⟩) z8_0 (by decide) e9 ?_
  have l9 : w9.1.length = w.1.length + 275 := by rw [e9]; exact l8
  have s9 : pSl w9.1 = pSl w.1 + 9240 := by rw [e9]; exact s8
  have z9_0 : w9.1[a0]? = some (11, 11) := by rw [e9]; exact z8_0
  refine ok_aload_n dX11_init_37 0 rfl ?_
  refine ok_iconst (v := 4) dX11_init_38 (by decide) ?_
  obtain ⟨w10, e10, h⟩ := blE h
  refine oi_newq (kd := 17) (N := 4) (C := RX7) dX11_init_39 (Or.inr ⟨rfl, rfl⟩) (tb_i (c := Cond.classLink RX11 26 RX7) 170 (by decide +kernel)) (by decide) (by decide) (by decide) (b_len (mc := 329) l9 hL (by decide)) (b_c1 (mc := 329) l9 (by decide)) (b_s1 (ms := 13540) s9 (by decide)) e10 ?_
  have l10 : w10.1.length = w.1.length + 276 := ln_new e10 l9
  have s10 : pSl w10.1 = pSl w.1 + 9244 := sn_new e10 s9
  have z10_0 : w10.1[a0]? = some (11, 11) := by rw [e10]; exact z_new z9_0
  have z10_n : w10.1[w9.1.length]? = some (17, 4) := by rw [e10]; exact z_at _ _
  obtain ⟨w11, e11, h⟩ := blE h
  refine oi_putR (ci := 11) (k := 3) dX11_init_42 flRX11_28 rfl (Or.inr ⟨_, rfl⟩) (Or.inr ⟨rfl, rfl, rfl⟩) z10_0 (by decide) e11 ?_
  have l11 : w11.1.length = w.1.length + 276 := by rw [e11]; exact l10
  have s11 : pSl w11.1 = pSl w.1 + 9244 := by rw [e11]; exact s10
  have z11_0 : w11.1[a0]? = some (11, 11) := by rw [e11]; exact z10_0
  have z11_1 : w11.1[w9.1.length]? = some (17, 4) := by rw [e11]; exact z10_n
  have o11_p : w11.2.2.2 a0 3 = some w9.1.length := by rw [e11]; exact o_at _ _ _ _
  refine ok_aload_n dX11_init_45 0 rfl ?_
  obtain ⟨w12, e12, h⟩ := blE h
  refine oi_new (ci := 8) (q := (RX8, TX8, 6)) dX11_init_46 rfl (tb_i (c := Cond.classLink RX11 32 RX8) 172 (by decide +kernel)) (b_len (mc := 329) l11 hL (by decide)) (b_c1 (mc := 329) l11 (by decide)) (b_s1 (N := 6) (ms := 13540) s11 (by decide)) e12 ?_
  have l12 : w12.1.length = w.1.length + 277 := ln_new e12 l11
  have s12 : pSl w12.1 = pSl w.1 + 9250 := sn_new e12 s11
  have z12_0 : w12.1[a0]? = some (11, 11) := by rw [e12]; exact z_new z11_0
  have z12_1 : w12.1[w9.1.length]? = some (17, 4) := by rw [e12]; exact z_new z11_1
  have z12_n : w12.1[w11.1.length]? = some (8, 6) := by rw [e12]; exact z_at _ _
  have o12_0 : w12.2.2.2 a0 3 = some w9.1.length := by rw [e12, o_new z11_0]; exact o11_p
  refine ok_dup dX11_init_49 rfl ?_
  refine ok_callI (d := (d + 2 + 2)) (mt := m8_init) (mc := 4) (ms := 1203) (a := w11.1.length) (As := []) (r := [.ref w11.1.length, .ref a0]) dX11_init_50 mo8_init mv8_init lkRX11_34 rfl rfl (Nat.le_of_ble_eq_true rfl) (dep_le d (by decide)) (b_cm (mc := 329) l12 (by decide)) (b_cm (mc := 13540) s12 (by decide)) ?_
  obtain ⟨w13, e13, h⟩ := blE h
  refine ki8_init (d + 2) z12_n (b_sub l12 hL (by decide)) e13.symm ?_
  show Ok g _ Qx 53 [(0, .ref a0)] [.ref w11.1.length, .ref a0] w13
  have F13 := F8_init e13.symm
  have l13 : w13.1.length = w.1.length + 281 := ln_sub F13.1 l12
  have s13 : pSl w13.1 = pSl w.1 + 10453 := ln_sub F13.2.1 s12
  have z13_0 : w13.1[a0]? = some (11, 11) := by exact F13.2.2.1 _ _ z12_0
  have z13_1 : w13.1[w11.1.length]? = some (8, 6) := by exact F13.2.2.1 _ _ z12_n
  have z13_2 : w13.1[w9.1.length]? = some (17, 4) := by exact F13.2.2.1 _ _ z12_1
  have o13_0 : w13.2.2.2 a0 3 = some w9.1.length := by rw [F13.2.2.2 _ _ _ z12_0 (ne_z z12_0 z12_n (by decide))]; exact o12_0
  obtain ⟨w14, e14, h⟩ := blE h
  refine oi_putR (ci := 11) (k := 4) dX11_init_53 flRX11_35 rfl (Or.inl ⟨_, rfl⟩) (Or.inr ⟨rfl, rfl, rfl⟩) z13_0 (by decide) e14 ?_
  have l14 : w14.1.length = w.1.length + 281 := by rw [e14]; exact l13
  have s14 : pSl w14.1 = pSl w.1 + 10453 := by rw [e14]; exact s13
  have z14_0 : w14.1[a0]? = some (11, 11) := by rw [e14]; exact z13_0
  have z14_1 : w14.1[w11.1.length]? = some (8, 6) := by rw [e14]; exact z13_1
  have z14_2 : w14.1[w9.1.length]? = some (17, 4) := by rw [e14]; exact z13_2
  have o14_0 : w14.2.2.2 a0 3 = some w9.1.length := by rw [e14, o_R (Or.inr (by decide))]; exact o13_0
  have o14_p : w14.2.2.2 a0 4 = some w11.1.length := by rw [e14]; exact o_at _ _ _ _
  refine ok_aload_n dX11_init_56 0 rfl ?_
  obtain ⟨w15, e15, h⟩ := blE h
  refine oi_new (ci := 1) (q := (RX1, TX1, 3)) dX11_init_57 rfl (tb_i (c := Cond.classLink RX11 39 RX1) 203 (by decide +kernel)) (b_len (mc := 329) l14 hL (by decide)) (b_c1 (mc := 329) l14 (by decide)) (b_s1 (N := 3) (ms := 13540) s14 (by decide)) e15 ?_
  have l15 : w15.1.length = w.1.length + 282 := ln_new e15 l14
  have s15 : pSl w15.1 = pSl w.1 + 10456 := sn_new e15 s14
  have z15_0 : w15.1[a0]? = some (11, 11) := by rw [e15]; exact z_new z14_0
  have z15_1 : w15.1[w11.1.length]? = some (8, 6) := by rw [e15]; exact z_new z14_1
  have z15_2 : w15.1[w9.1.length]? = some (17, 4) := by rw [e15]; exact z_new z14_2
  have z15_n : w15.1[w14.1.length]? = some (1, 3) := by rw [e15]; exact z_at _ _
  have o15_0 : w15.2.2.2 a0 3 = some w9.1.length := by rw [e15, o_new z14_0]; exact o14_0
  have o15_1 : w15.2.2.2 a0 4 = some w11.1.length := by rw [e15, o_new z14_0]; exact o14_p
  refine ok_dup dX11_init_60 rfl ?_
  refine ok_callI (d := (d + 2 + 2)) (mt := m1_init) (mc := 2) (ms := 71) (a := w14.1.length) (As := []) (r := [.ref w14.1.length, .ref a0]) dX11_init_61 mo1_init mv1_init lkRX11_41 rfl rfl (Nat.le_of_ble_eq_true rfl) (dep_le d (by decide)) (b_cm (mc := 329) l15 (by decide)) (b_cm (mc := 13540) s15 (by decide)) ?_
  obtain ⟨w16, e16, h⟩ := blE h
  refine ki1_init (d + 2) z15_n (b_sub l15 hL (by decide)) e16.symm ?_
  show Ok g _ Qx 64 [(0, .ref a0)] [.ref w14.1.length, .ref a0] w16
  have F16 := F1_init e16.symm
  have l16 : w16.1.length = w.1.length + 284 := ln_sub F16.1 l15
  have s16 : pSl w16.1 = pSl w.1 + 10527 := ln_sub F16.2.1 s15
  have z16_0 : w16.1[a0]? = some (11, 11) := by exact F16.2.2.1 _ _ z15_0
  have z16_1 : w16.1[w11.1.length]? = some (8, 6) := by exact F16.2.2.1 _ _ z15_1
  have z16_2 : w16.1[w14.1.length]? = some (1, 3) := by exact F16.2.2.1 _ _ z15_n
  have z16_3 : w16.1[w9.1.length]? = some (17, 4) := by exact F16.2.2.1 _ _ z15_2
  have o16_0 : w16.2.2.2 a0 3 = some w9.1.length := by rw [F16.2.2.2 _ _ _ z15_0 (ne_z z15_0 z15_n (by decide))]; exact o15_0
  have o16_1 : w16.2.2.2 a0 4 = some w11.1.length := by rw [F16.2.2.2 _ _ _ z15_0 (ne_z z15_0 z15_n (by decide))]; exact o15_1
  obtain ⟨w17, e17, h⟩ := blE h
  refine oi_putR (ci := 11) (k := 6) dX11_init_64 flRX11_42 rfl (Or.inl ⟨_, rfl⟩) (Or.inr ⟨rfl, rfl, rfl⟩) z16_0 (by decide) e17 ?_
  have l17 : w17.1.length = w.1.length + 284 := by rw [e17]; exact l16
  have s17 : pSl w17.1 = pSl w.1 + 10527 := by rw [e17]; exact s16
  have z17_0 : w17.1[a0]? = some (11, 11) := by rw [e17]; exact z16_0
  have z17_1 : w17.1[w11.1.length]? = some (8, 6) := by rw [e17]; exact z16_1
  have z17_2 : w17.1[w14.1.length]? = some (1, 3) := by rw [e17]; exact z16_2
  have z17_3 : w17.1[w9.1.length]? = some (17, 4) := by rw [e17]; exact z16_3
  have o17_0 : w17.2.2.2 a0 3 = some w9.1.length := by rw [e17, o_R (Or.inr (by decide))]; exact o16_0
  have o17_1 : w17.2.2.2 a0 4 = some w11.1.length := by rw [e17, o_R (Or.inr (by decide))]; exact o16_1
  have o17_p : w17.2.2.2 a0 6 = some w14.1.length := by rw [e17]; exact o_at _ _ _ _
  refine ok_aload_n dX11_init_67 0 rfl ?_
  obtain ⟨w18, e18, h⟩ := blE h
  refine oi_new (ci := 4) (q := (RX4, TX4, 1)) dX11_init_68 rfl (tb_i (c := Cond.classLink RX11 46 RX4) 219 (by decide +kernel)) (b_len (mc := 329) l17 hL (by decide)) (b_c1 (mc := 329) l17 (by decide)) (b_s1 (N := 1) (ms := 13540) s17 (by decide)) e18 ?_
  have l18 : w18.1.length = w.1.length + 285 := ln_new e18 l17
  have s18 : pSl w18.1 = pSl w.1 + 10528 := sn_new e18 s17
  have z18_0 : w18.1[a0]? = some (11, 11) := by rw [e18]; exact z_new z17_0
  have z18_1 : w18.1[w11.1.length]? = some (8, 6) := by rw [e18]; exact z_new z17_1
  have z18_2 : w18.1[w14.1.length]? = some (1, 3) := by rw [e18]; exact z_new z17_2
  have z18_3 : w18.1[w9.1.length]? = some (17, 4) := by rw [e18]; exact z_new z17_3
  have z18_n : w18.1[w17.1.length]? = some (4, 1) := by rw [e18]; exact z_at _ _
  have o18_0 : w18.2.2.2 a0 3 = some w9.1.length := by rw [e18, o_new z17_0]; exact o17_0
  have o18_1 : w18.2.2.2 a0 4 = some w11.1.length := by rw [e18, o_new z17_0]; exact o17_1
  have o18_2 : w18.2.2.2 a0 6 = some w14.1.length := by rw [e18, o_new z17_0]; exact o17_p
  refine ok_dup dX11_init_71 rfl ?_
  refine ok_aload_n dX11_init_72 0 rfl ?_
  refine oi_getR (ci := 11) (k := 6) dX11_init_73 flRX11_42 rfl z18_0 (by decide) o18_2 ?_
  refine ok_callI (d := (d + 2 + 2)) (mt := m4_init) (mc := 0) (ms := 0) (a := w17.1.length) (As := [.ref w14.1.length]) (r := [.ref w17.1.length, .ref a0]) dX11_init_76 mo4_init mv4_init lkRX11_48 rfl rfl (Nat.le_of_ble_eq_true rfl) (dep_le d (by decide)) (b_cm (mc := 329) l18 (by decide)) (b_cm (mc := 13540) s18 (by decide)) ?_
  obtain ⟨w19, e19, h⟩ := blE h
  refine ki4_init (d + 2) z18_n z18_2 (b_sub l18 hL (by decide)) e19.symm ?_
  show Ok g _ Qx 79 [(0, .ref a0)] [.ref w17.1.length, .ref a0] w19
  have F19 := F4_init e19.symm
  have l19 : w19.1.length = w.1.length + 285 := ln_sub F19.1 l18
  have s19 : pSl w19.1 = pSl w.1 + 10528 := ln_sub F19.2.1 s18
  have z19_0 : w19.1[a0]? = some (11, 11) := by exact F19.2.2.1 _ _ z18_0
  have z19_1 : w19.1[w11.1.length]? = some (8, 6) := by exact F19.2.2.1 _ _ z18_1
  have z19_2 : w19.1[w14.1.length]? = some (1, 3) := by exact F19.2.2.1 _ _ z18_2
  have z19_3 : w19.1[w17.1.length]? = some (4, 1) := by exact F19.2.2.1 _ _ z18_n
  have z19_4 : w19.1[w9.1.length]? = some (17, 4) := by exact F19.2.2.1 _ _ z18_3
  have o19_0 : w19.2.2.2 a0 3 = some w9.1.length := by rw [F19.2.2.2 _ _ _ z18_0 (ne_z z18_0 z18_n (by decide))]; exact o18_0
  have o19_1 : w19.2.2.2 a0 4 = some w11.1.length := by rw [F19.2.2.2 _ _ _ z18_0 (ne_z z18_0 z18_n (by decide))]; exact o18_1
  have o19_2 : w19.2.2.2 a0 6 = some w14.1.length := by rw [F19.2.2.2 _ _ _ z18_0 (ne_z z18_0 z18_n (by decide))]; exact o18_2
  obtain ⟨w20, e20, h⟩ := blE h
  refine oi_putR (ci := 11) (k := 7) dX11_init_79 flRX11_51 rfl (Or.inl ⟨_, rfl⟩) (Or.inr ⟨rfl, rfl, rfl⟩) z19_0 (by decide) e20 ?_
  have l20 : w20.1.length = w.1.length + 285 := by rw [e20]; exact l19
  have s20 : pSl w20.1 = pSl w.1 + 10528 := by rw [e20]; exact s19
  have z20_0 : w20.1[a0]? = some (11, 11) := by rw [e20]; exact z19_0
  have z20_1 : w20.1[w11.1.length]? = some (8, 6) := by rw [e20]; exact z19_1
  have z20_2 : w20.1[w14.1.length]? = some (1, 3) := by rw [e20]; exact z19_2
  have z20_4 : w20.1[w9.1.length]? = some (17, 4) := by rw [e20]; exact z19_4
  have o20_0 : w20.2.2.2 a0 3 = some w9.1.length := by rw [e20, o_R (Or.inr (by decide))]; exact o19_0
  have o20_1 : w20.2.2.2 a0 4 = some w11.1.length := by rw [e20, o_R (Or.inr (by decide))]; exact o19_1
  have o20_2 : w20.2.2.2 a0 6 = some w14.1.length := by rw [e20, o_R (Or.inr (by decide))]; exact o19_2
  refine ok_aload_n dX11_init_82 0 rfl ?_
  obtain ⟨w21, e21, h⟩ := blE h
  refine oi_new (ci := 2) (q := (RX2, TX2, 10)) dX11_init_83 rfl (tb_i (c := Cond.classLink RX11 55 RX2) 229 (by decide +kernel)) (b_len (mc := 329) l20 hL (by decide)) (b_c1 (mc := 329) l20 (by decide)) (b_s1 (N := 10) (ms := 13540) s20 (by decide)) e21 ?_
  have l21 : w21.1.length = w.1.length + 286 := ln_new e21 l20
  have s21 : pSl w21.1 = pSl w.1 + 10538 := sn_new e21 s20
  have z21_0 : w21.1[a0]? = some (11, 11) := by rw [e21]; exact z_new z20_0
  have z21_1 : w21.1[w11.1.length]? = some (8, 6) := by rw [e21]; exact z_new z20_1
  have z21_2 : w21.1[w14.1.length]? = some (1, 3) := by rw [e21]; exact z_new z20_2
  have z21_3 : w21.1[w9.1.length]? = some (17, 4) := by rw [e21]; exact z_new z20_4
  have z21_n : w21.1[w20.1.length]? = some (2, 10) := by rw [e21]; exact z_at _ _
  have o21_0 : w21.2.2.2 a0 3 = some w9.1.length := by rw [e21, o_new z20_0]; exact o20_0
  have o21_1 : w21.2.2.2 a0 4 = some w11.1.length := by rw [e21, o_new z20_0]; exact o20_1
  have o21_2 : w21.2.2.2 a0 6 = some w14.1.length := by rw [e21, o_new z20_0]; exact o20_2
  refine ok_dup dX11_init_86 rfl ?_
  refine ok_callI (d := (d + 2 + 2)) (mt := m2_init) (mc := 7) (ms := 427) (a := w20.1.length) (As := []) (r := [.ref w20.1.length, .ref a0]) dX11_init_87 mo2_init mv2_init lkRX11_57 rfl rfl (Nat.le_of_ble_eq_true rfl) (dep_le d (by decide)) (b_cm (mc := 329) l21 (by decide)) (b_cm (mc := 13540) s21 (by decide)) ?_
  obtain ⟨w22, e22, h⟩ := blE h
  refine ki2_init (d + 2) z21_n (b_sub l21 hL (by decide)) e22.symm ?_
  show Ok g _ Qx 90 [(0, .ref a0)] [.ref w20.1.length, .ref a0] w22
  have F22 := F2_init e22.symm
  have l22 : w22.1.length = w.1.length + 293 := ln_sub F22.1 l21
  have s22 : pSl w22.1 = pSl w.1 + 10965 := ln_sub F22.2.1 s21
  have z22_0 : w22.1[a0]? = some (11, 11) := by exact F22.2.2.1 _ _ z21_0
  have z22_1 : w22.1[w11.1.length]? = some (8, 6) := by exact F22.2.2.1 _ _ z21_1
  have z22_2 : w22.1[w14.1.length]? = some (1, 3) := by exact F22.2.2.1 _ _ z21_2
  have z22_3 : w22.1[w20.1.length]? = some (2, 10) := by exact F22.2.2.1 _ _ z21_n
  have z22_4 : w22.1[w9.1.length]? = some (17, 4) := by exact F22.2.2.1 _ _ z21_3
  have o22_0 : w22.2.2.2 a0 3 = some w9.1.length := by rw [F22.2.2.2 _ _ _ z21_0 (ne_z z21_0 z21_n (by decide))]; exact o21_0
  have o22_1 : w22.2.2.2 a0 4 = some w11.1.length := by rw [F22.2.2.2 _ _ _ z21_0 (ne_z z21_0 z21_n (by decide))]; exact o21_1
  have o22_2 : w22.2.2.2 a0 6 = some w14.1.length := by rw [F22.2.2.2 _ _ _ z21_0 (ne_z z21_0 z21_n (by decide))]; exact o21_2
  obtain ⟨w23, e23, h⟩ := blE h
  refine oi_putR (ci := 11) (k := 8) dX11_init_90 flRX11_58 rfl (Or.inl ⟨_, rfl⟩) (Or.inr ⟨rfl, rfl, rfl⟩) z22_0 (by decide) e23 ?_
  have l23 : w23.1.length = w.1.length + 293 := by rw [e23]; exact l22
  have s23 : pSl w23.1 = pSl w.1 + 10965 := by rw [e23]; exact s22
  have z23_0 : w23.1[a0]? = some (11, 11) := by rw [e23]; exact z22_0
  have z23_1 : w23.1[w11.1.length]? = some (8, 6) := by rw [e23]; exact z22_1
  have z23_2 : w23.1[w14.1.length]? = some (1, 3) := by rw [e23]; exact z22_2
  have z23_4 : w23.1[w9.1.length]? = some (17, 4) := by rw [e23]; exact z22_4
  have o23_0 : w23.2.2.2 a0 3 = some w9.1.length := by rw [e23, o_R (Or.inr (by decide))]; exact o22_0
  have o23_1 : w23.2.2.2 a0 4 = some w11.1.length := by rw [e23, o_R (Or.inr (by decide))]; exact o22_1
  have o23_2 : w23.2.2.2 a0 6 = some w14.1.length := by rw [e23, o_R (Or.inr (by decide))]; exact o22_2
  refine ok_aload_n dX11_init_93 0 rfl ?_
  obtain ⟨w24, e24, h⟩ := blE h
  refine oi_new (ci := 6) (q := (RX6, TX6, 5)) dX11_init_94 rfl (tb_i (c := Cond.classLink RX11 62 RX6) 268 (by decide +kernel)) (b_len (mc := 329) l23 hL (by decide)) (b_c1 (mc := 329) l23 (by decide)) (b_s1 (N := 5) (ms := 13540) s23 (by decide)) e24 ?_
  have l24 : w24.1.length = w.1.length + 294 := ln_new e24 l23
  have s24 : pSl w24.1 = pSl w.1 + 10970 := sn_new e24 s23
  have z24_0 : w24.1[a0]? = some (11, 11) := by rw [e24]; exact z_new z23_0
  have z24_1 : w24.1[w11.1.length]? = some (8, 6) := by rw [e24]; exact z_new z23_1
  have z24_2 : w24.1[w14.1.length]? = some (1, 3) := by rw [e24]; exact z_new z23_2
  have z24_3 : w24.1[w9.1.length]? = some (17, 4) := by rw [e24]; exact z_new z23_4
  have z24_n : w24.1[w23.1.length]? = some (6, 5) := by rw [e24]; exact z_at _ _
  have o24_0 : w24.2.2.2 a0 3 = some w9.1.length := by rw [e24, o_new z23_0]; exact o23_0
  have o24_1 : w24.2.2.2 a0 4 = some w11.1.length := by rw [e24, o_new z23_0]; exact o23_1
  have o24_2 : w24.2.2.2 a0 6 = some w14.1.length := by rw [e24, o_new z23_0]; exact o23_2
  refine ok_dup dX11_init_97 rfl ?_
  refine ok_aload_n dX11_init_98 0 rfl ?_
  refine oi_getR (ci := 11) (k := 6) dX11_init_99 flRX11_42 rfl z24_0 (by decide) o24_2 ?_
  refine ok_callI (d := (d + 2 + 2)) (mt := m6_init) (mc := 4) (ms := 652) (a := w23.1.length) (As := [.ref w14.1.length]) (r := [.ref w23.1.length, .ref a0]) dX11_init_102 mo6_init mv6_init lkRX11_64 rfl rfl (Nat.le_of_ble_eq_true rfl) (dep_le d (by decide)) (b_cm (mc := 329) l24 (by decide)) (b_cm (mc := 13540) s24 (by decide)) ?_
  obtain ⟨w25, e25, h⟩ := blE h
  refine ki6_init (d + 2) z24_n z24_2 (b_sub l24 hL (by decide)) e25.symm ?_
  show Ok g _ Qx 105 [(0, .ref a0)] [.ref w23.1.length, .ref a0] w25
  have F25 := F6_init e25.symm
  have l25 : w25.1.length = w.1.length + 298 := ln_sub F25.1 l24
  have s25 : pSl w25.1 = pSl w.1 + 11622 := ln_sub F25.2.1 s24
  have z25_0 : w25.1[a0]? = some (11, 11) := by exact F25.2.2.1 _ _ z24_0
  have z25_1 : w25.1[w11.1.length]? = some (8, 6) := by exact F25.2.2.1 _ _ z24_1
  have z25_2 : w25.1[w14.1.length]? = some (1, 3) := by exact F25.2.2.1 _ _ z24_2
  have z25_3 : w25.1[w23.1.length]? = some (6, 5) := by exact F25.2.2.1 _ _ z24_n
  have z25_4 : w25.1[w9.1.length]? = some (17, 4) := by exact F25.2.2.1 _ _ z24_3
  have o25_0 : w25.2.2.2 a0 3 = some w9.1.length := by rw [F25.2.2.2 _ _ _ z24_0 (ne_z z24_0 z24_n (by decide))]; exact o24_0
  have o25_1 : w25.2.2.2 a0 4 = some w11.1.length := by rw [F25.2.2.2 _ _ _ z24_0 (ne_z z24_0 z24_n (by decide))]; exact o24_1
  have o25_2 : w25.2.2.2 a0 6 = some w14.1.length := by rw [F25.2.2.2 _ _ _ z24_0 (ne_z z24_0 z24_n (by decide))]; exact o24_2
  obtain ⟨w26, e26, h⟩ := blE h
  refine oi_putR (ci := 11) (k := 9) dX11_init_105 flRX11_65 rfl (Or.inl ⟨_, rfl⟩) (Or.inr ⟨rfl, rfl, rfl⟩) z25_0 (by decide) e26 ?_
  have l26 : w26.1.length = w.1.length + 298 := by rw [e26]; exact l25
  have s26 : pSl w26.1 = pSl w.1 + 11622 := by rw [e26]; exact s25
  have z26_0 : w26.1[a0]? = some (11, 11) := by rw [e26]; exact z25_0
  have z26_1 : w26.1[w11.1.length]? = some (8, 6) := by rw [e26]; exact z25_1
  have z26_2 : w26.1[w14.1.length]? = some (1, 3) := by rw [e26]; exact z25_2
  have z26_4 : w26.1[w9.1.length]? = some (17, 4) := by rw [e26]; exact z25_4
  have o26_0 : w26.2.2.2 a0 3 = some w9.1.length := by rw [e26, o_R (Or.inr (by decide))]; exact o25_0
  have o26_1 : w26.2.2.2 a0 4 = some w11.1.length := by rw [e26, o_R (Or.inr (by decide))]; exact o25_1
  have o26_2 : w26.2.2.2 a0 6 = some w14.1.length := by rw [e26, o_R (Or.inr (by decide))]; exact o25_2
  refine ok_iconst (v := 0) dX11_init_108 (by decide) ?_
  refine ok_istore_n (l' := [(1, .int 0), (0, .ref a0)]) dX11_init_109 rfl (Nat.le_of_ble_eq_true rfl) rfl ?_
  refine ok_iload_n dX11_init_110 0 rfl ?_
  refine ok_iconst (v := 4) dX11_init_111 (by decide) ?_
  refine ok_icmp_ge (t := 134) dX11_init_112 (by decide) (fun q => absurd q (by decide)) (fun _ => ?_)
  refine ok_aload_n dX11_init_115 1 rfl ?_
  refine oi_getR (ci := 11) (k := 3) dX11_init_116 flRX11_28 rfl z26_0 (by decide) o26_0 ?_
  refine ok_iload_n dX11_init_119 0 rfl ?_
  obtain ⟨w27, e27, h⟩ := blE h
  refine oi_new (ci := 7) (q := (RX7, TX7, 7)) dX11_init_120 rfl (tb_i (c := Cond.classLink RX11 26 RX7) 170 (by decide +kernel)) (b_len (mc := 329) l26 hL (by decide)) (b_c1 (mc := 329) l26 (by decide)) (b_s1 (N := 7) (ms := 13540) s26 (by decide)) e27 ?_
  have l27 : w27.1.length = w.1.length + 299 := ln_new e27 l26
  have s27 : pSl w27.1 = pSl w.1 + 11629 := sn_new e27 s26
  have z27_0 : w27.1[a0]? = some (11, 11) := by rw [e27]; exact z_new z26_0
  have z27_1 : w27.1[w11.1.length]? = some (8, 6) := by rw [e27]; exact z_new z26_1
  have z27_2 : w27.1[w14.1.length]? = some (1, 3) := by rw [e27]; exact z_new z26_2
  have z27_3 : w27.1[w9.1.length]? = some (17, 4) := by rw [e27]; exact z_new z26_4
  have z27_n : w27.1[w26.1.length]? = some (7, 7) := by rw [e27]; exact z_at _ _
  have o27_0 : w27.2.2.2 a0 3 = some w9.1.length := by rw [e27, o_new z26_0]; exact o26_0
  have o27_1 : w27.2.2.2 a0 4 = some w11.1.length := by rw [e27, o_new z26_0]; exact o26_1
  have o27_2 : w27.2.2.2 a0 6 = some w14.1.length := by rw [e27, o_new z26_0]; exact o26_2
  refine ok_dup dX11_init_123 rfl ?_
  refine ok_callI (d := (d + 2 + 2)) (mt := m7_init) (mc := 5) (ms := 375) (a := w26.1.length) (As := []) (r := [.ref w26.1.length, .int 0, .ref w9.1.length]) dX11_init_124 mo7_init mv7_init lkRX11_69 rfl rfl (Nat.le_of_ble_eq_true rfl) (dep_le d (by decide)) (b_cm (mc := 329) l27 (by decide)) (b_cm (mc := 13540) s27 (by decide)) ?_
  obtain ⟨w28, e28, h⟩ := blE h
  refine ki7_init (d + 2) z27_n (b_sub l27 hL (by decide)) e28.symm ?_
  show Ok g _ Qx 127 [(1, .int 0), (0, .ref a0)] [.ref w26.1.length, .int 0, .ref w9.1.length] w28
  have F28 := F7_init e28.symm
  have l28 : w28.1.length = w.1.length + 304 := ln_sub F28.1 l27
  have s28 : pSl w28.1 = pSl w.1 + 12004 := ln_sub F28.2.1 s27
  have z28_0 : w28.1[a0]? = some (11, 11) := by exact F28.2.2.1 _ _ z27_0
  have z28_1 : w28.1[w11.1.length]? = some (8, 6) := by exact F28.2.2.1 _ _ z27_1
  have z28_2 : w28.1[w14.1.length]? = some (1, 3) := by exact F28.2.2.1 _ _ z27_2
  have z28_3 : w28.1[w26.1.length]? = some (7, 7) := by exact F28.2.2.1 _ _ z27_n
  have z28_4 : w28.1[w9.1.length]? = some (17, 4) := by exact F28.2.2.1 _ _ z27_3
  have o28_0 : w28.2.2.2 a0 3 = some w9.1.length := by rw [F28.2.2.2 _ _ _ z27_0 (ne_z z27_0 z27_n (by decide))]; exact o27_0
  have o28_1 : w28.2.2.2 a0 4 = some w11.1.length := by rw [F28.2.2.2 _ _ _ z27_0 (ne_z z27_0 z27_n (by decide))]; exact o27_1
  have o28_2 : w28.2.2.2 a0 6 = some w14.1.length := by rw [F28.2.2.2 _ _ _ z27_0 (ne_z z27_0 z27_n (by decide))]; exact o27_2
  obtain ⟨w29, e29, h⟩ := blE h
  refine oi_aast (N := 0) dX11_init_127 z28_4 (Or.inr ⟨rfl, rfl⟩) z28_3 (by unfold vp_in; decide) (by decide) e29 ?_
  have l29 : w29.1.length = w.1.length + 304 := by rw [e29]; exact l28
  have s29 : pSl w29.1 = pSl w.1 + 12004 := by rw [e29]; exact s28
  have z29_0 : w29.1[a0]? = some (11, 11) := by rw [e29]; exact z28_0
  have z29_1 : w29.1[w11.1.length]? = some (8, 6) := by rw [e29]; exact z28_1
  have z29_2 : w29.1[w14.1.length]? = some (1, 3) := by rw [e29]; exact z28_2
  have z29_4 : w29.1[w9.1.length]? = some (17, 4) := by rw [e29]; exact z28_4
  have o29_0 : w29.2.2.2 a0 3 = some w9.1.length := by rw [e29, o_R (Or.inl (ne_z z28_0 z28_4 (by decide)))]; exact o28_0
  have o29_1 : w29.2.2.2 a0 4 = some w11.1.length := by rw [e29, o_R (Or.inl (ne_z z28_0 z28_4 (by decide)))]; exact o28_1
  have o29_2 : w29.2.2.2 a0 6 = some w14.1.length := by rw [e29, o_R (Or.inl (ne_z z28_0 z28_4 (by decide)))]; exact o28_2
  refine ok_iinc (u := 1) (l' := [(1, .int 1), (0, .ref a0)]) dX11_init_128 0 rfl (by decide) (Nat.le_of_ble_eq_true rfl) rfl ?_
  refine ok_goto (t := 110) dX11_init_131 (by decide) ?_
  refine ok_iload_n dX11_init_110 0 rfl ?_
  refine ok_iconst (v := 4) dX11_init_111 (by decide) ?_
  refine ok_icmp_ge (t := 134) dX11_init_112 (by decide) (fun q => absurd q (by decide)) (fun _ => ?_)
  refine ok_aload_n dX11_init_115 1 rfl ?_
  refine oi_getR (ci := 11) (k := 3) dX11_init_116 flRX11_28 rfl z29_0 (by decide) o29_0 ?_
  refine ok_iload_n dX11_init_119 0 rfl ?_
  obtain ⟨w30, e30, h⟩ := blE h
  refine oi_new (ci := 7) (q := (RX7, TX7, 7)) dX11_init_120 rfl (tb_i (c := Cond.classLink RX11 26 RX7) 170 (by decide +kernel)) (b_len (mc := 329) l29 hL (by decide)) (b_c1 (mc := 329) l29 (by decide)) (b_s1 (N := 7) (ms := 13540) s29 (by decide)) e30 ?_
  have l30 : w30.1.length = w.1.length + 305 := ln_new e30 l29
  have s30 : pSl w30.1 = pSl w.1 + 12011 := sn_new e30 s29
  have z30_0 : w30.1[a0]? = some (11, 11) := by rw [e30]; exact z_new z29_0
  have z30_1 : w30.1[w11.1.length]? = some (8, 6) := by rw [e30]; exact z_new z29_1
  have z30_2 : w30.1[w14.1.length]? = some (1, 3) := by rw [e30]; exact z_new z29_2
  have z30_3 : w30.1[w9.1.length]? = some (17, 4) := by rw [e30]; exact z_new z29_4
  have z30_n : w30.1[w29.1.length]? = some (7, 7) := by rw [e30]; exact z_at _ _
  have o30_0 : w30.2.2.2 a0 3 = some w9.1.length := by rw [e30, o_new z29_0]; exact o29_0
  have o30_1 : w30.2.2.2 a0 4 = some w11.1.length := by rw [e30, o_new z29_0]; exact o29_1
  have o30_2 : w30.2.2.2 a0 6 = some w14.1.length := by rw [e30, o_new z29_0]; exact o29_2
  refine ok_dup dX11_init_123 rfl ?_
  refine ok_callI (d := (d + 2 + 2)) (mt := m7_init) (mc := 5) (ms := 375) (a := w29.1.length) (As := []) (r := [.ref w29.1.length, .int 1, .ref w9.1.length]) dX11_init_124 mo7_init mv7_init lkRX11_69 rfl rfl (Nat.le_of_ble_eq_true rfl) (dep_le d (by decide)) (b_cm (mc := 329) l30 (by decide)) (b_cm (mc := 13540) s30 (by decide)) ?_
  obtain ⟨w31, e31, h⟩ := blE h
  refine ki7_init (d + 2) z30_n (b_sub l30 hL (by decide)) e31.symm ?_
  show Ok g _ Qx 127 [(1, .int 1), (0, .ref a0)] [.ref w29.1.length, .int 1, .ref w9.1.length] w31
  have F31 := F7_init e31.symm
  have l31 : w31.1.length = w.1.length + 310 := ln_sub F31.1 l30
  have s31 : pSl w31.1 = pSl w.1 + 12386 := ln_sub F31.2.1 s30
  have z31_0 : w31.1[a0]? = some (11, 11) := by exact F31.2.2.1 _ _ z30_0
  have z31_1 : w31.1[w11.1.length]? = some (8, 6) := by exact F31.2.2.1 _ _ z30_1
  have z31_2 : w31.1[w14.1.length]? = some (1, 3) := by exact F31.2.2.1 _ _ z30_2
  have z31_3 : w31.1[w29.1.length]? = some (7, 7) := by exact F31.2.2.1 _ _ z30_n
  have z31_4 : w31.1[w9.1.length]? = some (17, 4) := by exact F31.2.2.1 _ _ z30_3
  have o31_0 : w31.2.2.2 a0 3 = some w9.1.length := by rw [F31.2.2.2 _ _ _ z30_0 (ne_z z30_0 z30_n (by decide))]; exact o30_0
  have o31_1 : w31.2.2.2 a0 4 = some w11.1.length := by rw [F31.2.2.2 _ _ _ z30_0 (ne_z z30_0 z30_n (by decide))]; exact o30_1
  have o31_2 : w31.2.2.2 a0 6 = some w14.1.length := by rw [F31.2.2.2 _ _ _ z30_0 (ne_z z30_0 z30_n (by decide))]; exact o30_2
  obtain ⟨w32, e32, h⟩ := blE h
  refine oi_aast (N := 1) dX11_init_127 z31_4 (Or.inr ⟨rfl, rfl⟩) z31_3 (by unfold vp_in; decide) (by decide) e32 ?_
  have l32 : w32.1.length = w.1.length + 310 := by rw [e32]; exact l31
  have s32 : pSl w32.1 = pSl w.1 + 12386 := by rw [e32]; exact s31
  have z32_0 : w32.1[a0]? = some (11, 11) := by rw [e32]; exact z31_0
  have z32_1 : w32.1[w11.1.length]? = some (8, 6) := by rw [e32]; exact z31_1
  have z32_2 : w32.1[w14.1.length]? = some (1, 3) := by rw [e32]; exact z31_2
  have z32_4 : w32.1[w9.1.length]? = some (17, 4) := by rw [e32]; exact z31_4
  have o32_0 : w32.2.2.2 a0 3 = some w9.1.length := by rw [e32, o_R (Or.inl (ne_z z31_0 z31_4 (by decide)))]; exact o31_0
  have o32_1 : w32.2.2.2 a0 4 = some w11.1.length := by rw [e32, o_R (Or.inl (ne_z z31_0 z31_4 (by decide)))]; exact o31_1
  have o32_2 : w32.2.2.2 a0 6 = some w14.1.length := by rw [e32, o_R (Or.inl (ne_z z31_0 z31_4 (by decide)))]; exact o31_2
  refine ok_iinc (u := 2) (l' := [(1, .int 2), (0, .ref a0)]) dX11_init_128 0 rfl (by decide) (Nat.le_of_ble_eq_true rfl) rfl ?_
  refine ok_goto (t := 110) dX11_init_131 (by decide) ?_
  refine ok_iload_n dX11_init_110 0 rfl ?_
  refine ok_iconst (v := 4) dX11_init_111 (by decide) ?_
  refine ok_icmp_ge (t := 134) dX11_init_112 (by decide) (fun q => absurd q (by decide)) (fun _ => ?_)
  refine ok_aload_n dX11_init_115 1 rfl ?_
  refine oi_getR (ci := 11) (k := 3) dX11_init_116 flRX11_28 rfl z32_0 (by decide) o32_0 ?_
  refine ok_iload_n dX11_init_119 0 rfl ?_
  obtain ⟨w33, e33, h⟩ := blE h
  refine oi_new (ci := 7) (q := (RX7, TX7, 7)) dX11_init_120 rfl (tb_i (c := Cond.classLink RX11 26 RX7) 170 (by decide +kernel)) (b_len (mc := 329) l32 hL (by decide)) (b_c1 (mc := 329) l32 (by decide)) (b_s1 (N := 7) (ms := 13540) s32 (by decide)) e33 ?_
  have l33 : w33.1.length = w.1.length + 311 := ln_new e33 l32
  have s33 : pSl w33.1 = pSl w.1 + 12393 := sn_new e33 s32
  have z33_0 : w33.1[a0]? = some (11, 11) := by rw [e33]; exact z_new z32_0
  have z33_1 : w33.1[w11.1.length]? = some (8, 6) := by rw [e33]; exact z_new z32_1
  have z33_2 : w33.1[w14.1.length]? = some (1, 3) := by rw [e33]; exact z_new z32_2
  have z33_3 : w33.1[w9.1.length]? = some (17, 4) := by rw [e33]; exact z_new z32_4
  have z33_n : w33.1[w32.1.length]? = some (7, 7) := by rw [e33]; exact z_at _ _
  have o33_0 : w33.2.2.2 a0 3 = some w9.1.length := by rw [e33, o_new z32_0]; exact o32_0
  have o33_1 : w33.2.2.2 a0 4 = some w11.1.length := by rw [e33, o_new z32_0]; exact o32_1
  have o33_2 : w33.2.2.2 a0 6 = some w14.1.length := by rw [e33, o_new z32_0]; exact o32_2
  refine ok_dup dX11_init_123 rfl ?_
  refine ok_callI (d := (d + 2 + 2)) (mt := m7_init) (mc := 5) (ms := 375) (a := w32.1.length) (As := []) (r := [.ref w32.1.length, .int 2, .ref w9.1.length]) dX11_init_124 mo7_init mv7_init lkRX11_69 rfl rfl (Nat.le_of_ble_eq_true rfl) (dep_le d (by decide)) (b_cm (mc := 329) l33 (by decide)) (b_cm (mc := 13540) s33 (by decide)) ?_
  obtain ⟨w34, e34, h⟩ := blE h
  refine ki7_init (d + 2) z33_n (b_sub l33 hL (by decide)) e34.symm ?_
  show Ok g _ Qx 127 [(1, .int 2), (0, .ref a0)] [.ref w32.1.length, .int 2, .ref w9.1.length] w34
  have F34 := F7_init e34.symm
  have l34 : w34.1.length = w.1.length + 316 := ln_sub F34.1 l33
  have s34 : pSl w34.1 = pSl w.1 + 12768 := ln_sub F34.2.1 s33
  have z34_0 : w34.1[a0]? = some (11, 11) := by exact F34.2.2.1 _ _ z33_0
  have z34_1 : w34.1[w11.1.length]? = some (8, 6) := by exact F34.2.2.1 _ _ z33_1
  have z34_2 : w34.1[w14.1.length]? = some (1, 3) := by exact F34.2.2.1 _ _ z33_2
  have z34_3 : w34.1[w32.1.length]? = some (7, 7) := by exact F34.2.2.1 _ _ z33_n
  have z34_4 : w34.1[w9.1.length]? = some (17, 4) := by exact F34.2.2.1 _ _ z33_3
  have o34_0 : w34.2.2.2 a0 3 = some w9.1.length := by rw [F34.2.2.2 _ _ _ z33_0 (ne_z z33_0 z33_n (by decide))]; exact o33_0
  have o34_1 : w34.2.2.2 a0 4 = some w11.1.length := by rw [F34.2.2.2 _ _ _ z33_0 (ne_z z33_0 z33_n (by decide))]; exact o33_1
  have o34_2 : w34.2.2.2 a0 6 = some w14.1.length := by rw [F34.2.2.2 _ _ _ z33_0 (ne_z z33_0 z33_n (by decide))]; exact o33_2
  obtain ⟨w35, e35, h⟩ := blE h
  refine oi_aast (N := 2) dX11_init_127 z34_4 (Or.inr ⟨rfl, rfl⟩) z34_3 (by unfold vp_in; decide) (by decide) e35 ?_
  have l35 : w35.1.length = w.1.length + 316 := by rw [e35]; exact l34
  have s35 : pSl w35.1 = pSl w.1 + 12768 := by rw [e35]; exact s34
  have z35_0 : w35.1[a0]? = some (11, 11) := by rw [e35]; exact z34_0
  have z35_1 : w35.1[w11.1.length]? = some (8, 6) := by rw [e35]; exact z34_1
  have z35_2 : w35.1[w14.1.length]? = some (1, 3) := by rw [e35]; exact z34_2
  have z35_4 : w35.1[w9.1.length]? = some (17, 4) := by rw [e35]; exact z34_4
  have o35_0 : w35.2.2.2 a0 3 = some w9.1.length := by rw [e35, o_R (Or.inl (ne_z z34_0 z34_4 (by decide)))]; exact o34_0
  have o35_1 : w35.2.2.2 a0 4 = some w11.1.length := by rw [e35, o_R (Or.inl (ne_z z34_0 z34_4 (by decide)))]; exact o34_1
  have o35_2 : w35.2.2.2 a0 6 = some w14.1.length := by rw [e35, o_R (Or.inl (ne_z z34_0 z34_4 (by decide)))]; exact o34_2
  refine ok_iinc (u := 3) (l' := [(1, .int 3), (0, .ref a0)]) dX11_init_128 0 rfl (by decide) (Nat.le_of_ble_eq_true rfl) rfl ?_
  refine ok_goto (t := 110) dX11_init_131 (by decide) ?_
  refine ok_iload_n dX11_init_110 0 rfl ?_
  refine ok_iconst (v := 4) dX11_init_111 (by decide) ?_
  refine ok_icmp_ge (t := 134) dX11_init_112 (by decide) (fun q => absurd q (by decide)) (fun _ => ?_)
  refine ok_aload_n dX11_init_115 1 rfl ?_
  refine oi_getR (ci := 11) (k := 3) dX11_init_116 flRX11_28 rfl z35_0 (by decide) o35_0 ?_
  refine ok_iload_n dX11_init_119 0 rfl ?_
  obtain ⟨w36, e36, h⟩ := blE h
  refine oi_new (ci := 7) (q := (RX7, TX7, 7)) dX11_init_120 rfl (tb_i (c := Cond.classLink RX11 26 RX7) 170 (by decide +kernel)) (b_len (mc := 329) l35 hL (by decide)) (b_c1 (mc := 329) l35 (by decide)) (b_s1 (N := 7) (ms := 13540) s35 (by decide)) e36 ?_
  have l36 : w36.1.length = w.1.length + 317 := ln_new e36 l35
  have s36 : pSl w36.1 = pSl w.1 + 12775 := sn_new e36 s35
  have z36_0 : w36.1[a0]? = some (11, 11) := by rw [e36]; exact z_new z35_0
  have z36_1 : w36.1[w11.1.length]? = some (8, 6) := by rw [e36]; exact z_new z35_1
  have z36_2 : w36.1[w14.1.length]? = some (1, 3) := by rw [e36]; exact z_new z35_2
  have z36_3 : w36.1[w9.1.length]? = some (17, 4) := by rw [e36]; exact z_new z35_4
  have z36_n : w36.1[w35.1.length]? = some (7, 7) := by rw [e36]; exact z_at _ _
  have o36_0 : w36.2.2.2 a0 3 = some w9.1.length := by rw [e36, o_new z35_0]; exact o35_0
  have o36_1 : w36.2.2.2 a0 4 = some w11.1.length := by rw [e36, o_new z35_0]; exact o35_1
  have o36_2 : w36.2.2.2 a0 6 = some w14.1.length := by rw [e36, o_new z35_0]; exact o35_2
  refine ok_dup dX11_init_123 rfl ?_
  refine ok_callI (d := (d + 2 + 2)) (mt := m7_init) (mc := 5) (ms := 375) (a := w35.1.length) (As := []) (r := [.ref w35.1.length, .int 3, .ref w9.1.length]) dX11_init_124 mo7_init mv7_init lkRX11_69 rfl rfl (Nat.le_of_ble_eq_true rfl) (dep_le d (by decide)) (b_cm (mc := 329) l36 (by decide)) (b_cm (mc := 13540) s36 (by decide)) ?_
  obtain ⟨w37, e37, h⟩ := blE h
  refine ki7_init (d + 2) z36_n (b_sub l36 hL (by decide)) e37.symm ?_
  show Ok g _ Qx 127 [(1, .int 3), (0, .ref a0)] [.ref w35.1.length, .int 3, .ref w9.1.length] w37
  have F37 := F7_init e37.symm
  have l37 : w37.1.length = w.1.length + 322 := ln_sub F37.1 l36
  have s37 : pSl w37.1 = pSl w.1 + 13150 := ln_sub F37.2.1 s36
  have z37_0 : w37.1[a0]? = some (11, 11) := by exact F37.2.2.1 _ _ z36_0
  have z37_1 : w37.1[w11.1.length]? = some (8, 6) := by exact F37.2.2.1 _ _ z36_1
  have z37_2 : w37.1[w14.1.length]? = some (1, 3) := by exact F37.2.2.1 _ _ z36_2
  have z37_3 : w37.1[w35.1.length]? = some (7, 7) := by exact F37.2.2.1 _ _ z36_n
  have z37_4 : w37.1[w9.1.length]? = some (17, 4) := by exact F37.2.2.1 _ _ z36_3
  have o37_0 : w37.2.2.2 a0 3 = some w9.1.length := by rw [F37.2.2.2 _ _ _ z36_0 (ne_z z36_0 z36_n (by decide))]; exact o36_0
  have o37_1 : w37.2.2.2 a0 4 = some w11.1.length := by rw [F37.2.2.2 _ _ _ z36_0 (ne_z z36_0 z36_n (by decide))]; exact o36_1
  have o37_2 : w37.2.2.2 a0 6 = some w14.1.length := by rw [F37.2.2.2 _ _ _ z36_0 (ne_z z36_0 z36_n (by decide))]; exact o36_2
  obtain ⟨w38, e38, h⟩ := blE h
  refine oi_aast (N := 3) dX11_init_127 z37_4 (Or.inr ⟨rfl, rfl⟩) z37_3 (by unfold vp_in; decide) (by decide) e38 ?_
  have l38 : w38.1.length = w.1.length + 322 := by rw [e38]; exact l37
  have s38 : pSl w38.1 = pSl w.1 + 13150 := by rw [e38]; exact s37
  have z38_0 : w38.1[a0]? = some (11, 11) := by rw [e38]; exact z37_0
  have z38_1 : w38.1[w11.1.length]? = some (8, 6) := by rw [e38]; exact z37_1
  have z38_2 : w38.1[w14.1.length]? = some (1, 3) := by rw [e38]; exact z37_2
  have z38_4 : w38.1[w9.1.length]? = some (17, 4) := by rw [e38]; exact z37_4
  have o38_0 : w38.2.2.2 a0 3 = some w9.1.length := by rw [e38, o_R (Or.inl (ne_z z37_0 z37_4 (by decide)))]; exact o37_0
  have o38_1 : w38.2.2.2 a0 4 = some w11.1.length := by rw [e38, o_R (Or.inl (ne_z z37_0 z37_4 (by decide)))]; exact o37_1
  have o38_2 : w38.2.2.2 a0 6 = some w14.1.length := by rw [e38, o_R (Or.inl (ne_z z37_0 z37_4 (by decide)))]; exact o37_2
  refine ok_iinc (u := 4) (l' := [(1, .int 4), (0, .ref a0)]) dX11_init_128 0 rfl (by decide) (Nat.le_of_ble_eq_true rfl) rfl ?_
  refine ok_goto (t := 110) dX11_init_131 (by decide) ?_
  refine ok_iload_n dX11_init_110 0 rfl ?_
  refine ok_iconst (v := 4) dX11_init_111 (by decide) ?_
  refine ok_icmp_ge (t := 134) dX11_init_112 (by decide) (fun _ => ?_) (fun q => absurd (by decide) q)
  refine ok_aload_n dX11_init_134 1 rfl ?_
  obtain ⟨w39, e39, h⟩ := blE h
  refine oi_new (ci := 5) (q := (RX5, TX5, 8)) dX11_init_135 rfl (tb_i (c := Cond.classLink RX11 70 RX5) 321 (by decide +kernel)) (b_len (mc := 329) l38 hL (by decide)) (b_c1 (mc := 329) l38 (by decide)) (b_s1 (N := 8) (ms := 13540) s38 (by decide)) e39 ?_
  have l39 : w39.1.length = w.1.length + 323 := ln_new e39 l38
  have s39 : pSl w39.1 = pSl w.1 + 13158 := sn_new e39 s38
  have z39_0 : w39.1[a0]? = some (11, 11) := by rw [e39]; exact z_new z38_0
  have z39_1 : w39.1[w11.1.length]? = some (8, 6) := by rw [e39]; exact z_new z38_1
  have z39_2 : w39.1[w14.1.length]? = some (1, 3) := by rw [e39]; exact z_new z38_2
  have z39_3 : w39.1[w9.1.length]? = some (17, 4) := by rw [e39]; exact z_new z38_4
  have z39_n : w39.1[w38.1.length]? = some (5, 8) := by rw [e39]; exact z_at _ _
  have o39_0 : w39.2.2.2 a0 3 = some w9.1.length := by rw [e39, o_new z38_0]; exact o38_0
  have o39_1 : w39.2.2.2 a0 4 = some w11.1.length := by rw [e39, o_new z38_0]; exact o38_1
  have o39_2 : w39.2.2.2 a0 6 = some w14.1.length := by rw [e39, o_new z38_0]; exact o38_2
  refine ok_dup dX11_init_138 rfl ?_
  refine ok_aload_n dX11_init_139 1 rfl ?_
  refine oi_getR (ci := 11) (k := 4) dX11_init_140 flRX11_35 rfl z39_0 (by decide) o39_1 ?_
  refine ok_callI (d := (d + 1 + 3)) (mt := m5_init) (mc := 6) (ms := 382) (a := w38.1.length) (As := [.ref w11.1.length]) (r := [.ref w38.1.length, .ref a0]) dX11_init_143 mo5_init mv5_init lkRX11_72 rfl rfl (Nat.le_of_ble_eq_true rfl) (dep_le d (by decide)) (b_cm (mc := 329) l39 (by decide)) (b_cm (mc := 13540) s39 (by decide)) ?_
  obtain ⟨w40, e40, h⟩ := blE h
  refine ki5_init (d + 1) z39_n z39_1 (b_sub l39 hL (by decide)) e40.symm ?_
  show Ok g _ Qx 146 [(1, .int 4), (0, .ref a0)] [.ref w38.1.length, .ref a0] w40
  have F40 := F5_init e40.symm
  have l40 : w40.1.length = w.1.length + 329 := ln_sub F40.1 l39
  have s40 : pSl w40.1 = pSl w.1 + 13540 := ln_sub F40.2.1 s39
  have z40_0 : w40.1[a0]? = some (11, 11) := by exact F40.2.2.1 _ _ z39_0
  have z40_1 : w40.1[w11.1.length]? = some (8, 6) := by exact F40.2.2.1 _ _ z39_1
  have z40_2 : w40.1[w14.1.length]? = some (1, 3) := by exact F40.2.2.1 _ _ z39_2
  have z40_3 : w40.1[w38.1.length]? = some (5, 8) := by exact F40.2.2.1 _ _ z39_n
  have z40_4 : w40.1[w9.1.length]? = some (17, 4) := by exact F40.2.2.1 _ _ z39_3
  have o40_0 : w40.2.2.2 a0 3 = some w9.1.length := by rw [F40.2.2.2 _ _ _ z39_0 (ne_z z39_0 z39_n (by decide))]; exact o39_0
  have o40_1 : w40.2.2.2 a0 4 = some w11.1.length := by rw [F40.2.2.2 _ _ _ z39_0 (ne_z z39_0 z39_n (by decide))]; exact o39_1
  have o40_2 : w40.2.2.2 a0 6 = some w14.1.length := by rw [F40.2.2.2 _ _ _ z39_0 (ne_z z39_0 z39_n (by decide))]; exact o39_2
  obtain ⟨w41, e41, h⟩ := blE h
  refine oi_putR (ci := 11) (k := 5) dX11_init_146 flRX11_75 rfl (Or.inl ⟨_, rfl⟩) (Or.inr ⟨rfl, rfl, rfl⟩) z40_0 (by decide) e41 ?_
  have l41 : w41.1.length = w.1.length + 329 := by rw [e41]; exact l40
  have s41 : pSl w41.1 = pSl w.1 + 13540 := by rw [e41]; exact s40
  have z41_0 : w41.1[a0]? = some (11, 11) := by rw [e41]; exact z40_0
  have z41_1 : w41.1[w11.1.length]? = some (8, 6) := by rw [e41]; exact z40_1
  have z41_2 : w41.1[w14.1.length]? = some (1, 3) := by rw [e41]; exact z40_2
  have z41_4 : w41.1[w9.1.length]? = some (17, 4) := by rw [e41]; exact z40_4
  have o41_0 : w41.2.2.2 a0 3 = some w9.1.length := by rw [e41, o_R (Or.inr (by decide))]; exact o40_0
  have o41_1 : w41.2.2.2 a0 4 = some w11.1.length := by rw [e41, o_R (Or.inr (by decide))]; exact o40_1
  have o41_2 : w41.2.2.2 a0 6 = some w14.1.length := by rw [e41, o_R (Or.inr (by decide))]; exact o40_2
  subst h
  exact ok_vret dX11_init_149 hQ
theorem ki11_init {g : pG} {Q : Option Value → pW → Prop} {w wf : pW} {a0 : Nat} (d : Nat) (hz0 : w.1[a0]? = some (11, 11)) (hL : w.1.length + 329 ≤ 1000) (h : i11_init a0 w = wf) (hQ : Q none wf) : CT g (d + 5) m11_init 329 13540 [.ref a0] w Q :=
  ct_of_ok (mt := m11_init) (ini := true) mo11_init.2.2.2.2 (fun _ => rfl) (Nat.le_of_ble_eq_true rfl) (oi11_init d hz0 hL h ⟨trivial, hQ, (F11_init h).1, (F11_init h).2.1⟩)
