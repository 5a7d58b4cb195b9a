theorem lkRX12_1 : Cond.methodLink RX12 1 objectInit ∈ lw_tbl := tb_i 1301 (by decide +kernel)
theorem dX12_init_0 : decode cX12_init 0 = .ok (.aload_n 0, 1) := by decide +kernel
theorem dX12_init_1 : decode cX12_init 1 = .ok (.invokespecial 1, 3) := by decide +kernel
theorem dX12_init_4 : decode cX12_init 4 = .ok (.aload_n 0, 1) := by decide +kernel
theorem dX12_init_5 : decode cX12_init 5 = .ok (.sipush 4371, 3) := by decide +kernel
theorem dX12_init_8 : decode cX12_init 8 = .ok (.newarray .int, 2) := by decide +kernel
theorem dX12_init_10 : decode cX12_init 10 = .ok (.putfield 7, 3) := by decide +kernel
theorem dX12_init_13 : decode cX12_init 13 = .ok (.aload_n 0, 1) := by decide +kernel
theorem dX12_init_14 : decode cX12_init 14 = .ok (.sipush 4371, 3) := by decide +kernel
theorem dX12_init_17 : decode cX12_init 17 = .ok (.newarray .int, 2) := by decide +kernel
theorem dX12_init_19 : decode cX12_init 19 = .ok (.putfield 13, 3) := by decide +kernel
theorem dX12_init_22 : decode cX12_init 22 = .ok (.aload_n 0, 1) := by decide +kernel
theorem dX12_init_23 : decode cX12_init 23 = .ok (.sipush 4260, 3) := by decide +kernel
theorem dX12_init_26 : decode cX12_init 26 = .ok (.newarray .int, 2) := by decide +kernel
theorem dX12_init_28 : decode cX12_init 28 = .ok (.putfield 16, 3) := by decide +kernel
theorem dX12_init_31 : decode cX12_init 31 = .ok (.aload_n 0, 1) := by decide +kernel
theorem dX12_init_32 : decode cX12_init 32 = .ok (.sipush 300, 3) := by decide +kernel
theorem dX12_init_35 : decode cX12_init 35 = .ok (.newarray .int, 2) := by decide +kernel
theorem dX12_init_37 : decode cX12_init 37 = .ok (.putfield 19, 3) := by decide +kernel
theorem dX12_init_40 : decode cX12_init 40 = .ok (.aload_n 0, 1) := by decide +kernel
theorem dX12_init_41 : decode cX12_init 41 = .ok (.iconst (-1), 1) := by decide +kernel
theorem dX12_init_42 : decode cX12_init 42 = .ok (.putfield 22, 3) := by decide +kernel
theorem dX12_init_45 : decode cX12_init 45 = .ok (.aload_n 0, 1) := by decide +kernel
theorem dX12_init_46 : decode cX12_init 46 = .ok (.iconst (-1), 1) := by decide +kernel
theorem dX12_init_47 : decode cX12_init 47 = .ok (.putfield 26, 3) := by decide +kernel
theorem dX12_init_50 : decode cX12_init 50 = .ok (.aload_n 0, 1) := by decide +kernel
theorem dX12_init_51 : decode cX12_init 51 = .ok (.sipush 160, 3) := by decide +kernel
theorem dX12_init_54 : decode cX12_init 54 = .ok (.newarray .int, 2) := by decide +kernel
theorem dX12_init_56 : decode cX12_init 56 = .ok (.putfield 29, 3) := by decide +kernel
theorem dX12_init_59 : decode cX12_init 59 = .ok (.aload_n 0, 1) := by decide +kernel
theorem dX12_init_60 : decode cX12_init 60 = .ok (.bipush 7, 2) := by decide +kernel
theorem dX12_init_62 : decode cX12_init 62 = .ok (.newarray .int, 2) := by decide +kernel
theorem dX12_init_64 : decode cX12_init 64 = .ok (.putfield 32, 3) := by decide +kernel
theorem dX12_init_67 : decode cX12_init 67 = .ok (.aload_n 0, 1) := by decide +kernel
theorem dX12_init_68 : decode cX12_init 68 = .ok (.sipush 330, 3) := by decide +kernel
theorem dX12_init_71 : decode cX12_init 71 = .ok (.newarray .long, 2) := by decide +kernel
theorem dX12_init_73 : decode cX12_init 73 = .ok (.putfield 35, 3) := by decide +kernel
theorem dX12_init_76 : decode cX12_init 76 = .ok (.aload_n 0, 1) := by decide +kernel
theorem dX12_init_77 : decode cX12_init 77 = .ok (.sipush 330, 3) := by decide +kernel
theorem dX12_init_80 : decode cX12_init 80 = .ok (.newarray .boolean, 2) := by decide +kernel
theorem dX12_init_82 : decode cX12_init 82 = .ok (.putfield 39, 3) := by decide +kernel
theorem dX12_init_85 : decode cX12_init 85 = .ok (.aload_n 0, 1) := by decide +kernel
theorem dX12_init_86 : decode cX12_init 86 = .ok (.iconst 1, 1) := by decide +kernel
theorem dX12_init_87 : decode cX12_init 87 = .ok (.putfield 43, 3) := by decide +kernel
theorem dX12_init_90 : decode cX12_init 90 = .ok (.aload_n 0, 1) := by decide +kernel
theorem dX12_init_91 : decode cX12_init 91 = .ok (.bipush 114, 2) := by decide +kernel
theorem dX12_init_93 : decode cX12_init 93 = .ok (.newarray .int, 2) := by decide +kernel
theorem dX12_init_95 : decode cX12_init 95 = .ok (.putfield 47, 3) := by decide +kernel
theorem dX12_init_98 : decode cX12_init 98 = .ok (.aload_n 0, 1) := by decide +kernel
theorem dX12_init_99 : decode cX12_init 99 = .ok (.sipush 289, 3) := by decide +kernel
theorem dX12_init_102 : decode cX12_init 102 = .ok (.newarray .int, 2) := by decide +kernel
theorem dX12_init_104 : decode cX12_init 104 = .ok (.putfield 50, 3) := by decide +kernel
theorem dX12_init_107 : decode cX12_init 107 = .ok (.aload_n 0, 1) := by decide +kernel
theorem dX12_init_108 : decode cX12_init 108 = .ok (.bipush 16, 2) := by decide +kernel
theorem dX12_init_110 : decode cX12_init 110 = .ok (.newarray .int, 2) := by decide +kernel
theorem dX12_init_112 : decode cX12_init 112 = .ok (.putfield 53, 3) := by decide +kernel
theorem dX12_init_115 : decode cX12_init 115 = .ok (.aload_n 0, 1) := by decide +kernel
theorem dX12_init_116 : decode cX12_init 116 = .ok (.iconst 5, 1) := by decide +kernel
theorem dX12_init_117 : decode cX12_init 117 = .ok (.newarray .int, 2) := by decide +kernel
theorem dX12_init_119 : decode cX12_init 119 = .ok (.putfield 56, 3) := by decide +kernel
theorem dX12_init_122 : decode cX12_init 122 = .ok (.aload_n 0, 1) := by decide +kernel
theorem dX12_init_123 : decode cX12_init 123 = .ok (.iconst 5, 1) := by decide +kernel
theorem dX12_init_124 : decode cX12_init 124 = .ok (.newarray .int, 2) := by decide +kernel
theorem dX12_init_126 : decode cX12_init 126 = .ok (.putfield 59, 3) := by decide +kernel
theorem dX12_init_129 : decode cX12_init 129 = .ok (.aload_n 0, 1) := by decide +kernel
theorem dX12_init_130 : decode cX12_init 130 = .ok (.bipush 80, 2) := by decide +kernel
theorem dX12_init_132 : decode cX12_init 132 = .ok (.newarray .int, 2) := by decide +kernel
theorem dX12_init_134 : decode cX12_init 134 = .ok (.putfield 62, 3) := by decide +kernel
theorem dX12_init_137 : decode cX12_init 137 = .ok (.aload_n 0, 1) := by decide +kernel
theorem dX12_init_138 : decode cX12_init 138 = .ok (.bipush 6, 2) := by decide +kernel
theorem dX12_init_140 : decode cX12_init 140 = .ok (.newarray .int, 2) := by decide +kernel
theorem dX12_init_142 : decode cX12_init 142 = .ok (.putfield 65, 3) := by decide +kernel
theorem dX12_init_145 : decode cX12_init 145 = .ok (.aload_n 0, 1) := by decide +kernel
theorem dX12_init_146 : decode cX12_init 146 = .ok (.bipush 17, 2) := by decide +kernel
theorem dX12_init_148 : decode cX12_init 148 = .ok (.newarray .long, 2) := by decide +kernel
theorem dX12_init_150 : decode cX12_init 150 = .ok (.putfield 68, 3) := by decide +kernel
theorem dX12_init_153 : decode cX12_init 153 = .ok (.aload_n 0, 1) := by decide +kernel
theorem dX12_init_154 : decode cX12_init 154 = .ok (.getfield 7, 3) := by decide +kernel
theorem dX12_init_157 : decode cX12_init 157 = .ok (.bipush 8, 2) := by decide +kernel
theorem dX12_init_159 : decode cX12_init 159 = .ok (.sipush 269, 3) := by decide +kernel
theorem dX12_init_162 : decode cX12_init 162 = .ok (.iastore, 1) := by decide +kernel
theorem dX12_init_163 : decode cX12_init 163 = .ok (.aload_n 0, 1) := by decide +kernel
theorem dX12_init_164 : decode cX12_init 164 = .ok (.getfield 7, 3) := by decide +kernel
theorem dX12_init_167 : decode cX12_init 167 = .ok (.iconst 3, 1) := by decide +kernel
theorem dX12_init_168 : decode cX12_init 168 = .ok (.iconst (-1), 1) := by decide +kernel
theorem dX12_init_169 : decode cX12_init 169 = .ok (.iastore, 1) := by decide +kernel
theorem dX12_init_170 : decode cX12_init 170 = .ok (.aload_n 0, 1) := by decide +kernel
theorem dX12_init_171 : decode cX12_init 171 = .ok (.getfield 7, 3) := by decide +kernel
theorem dX12_init_174 : decode cX12_init 174 = .ok (.aload_n 0, 1) := by decide +kernel
theorem dX12_init_175 : decode cX12_init 175 = .ok (.getfield 13, 3) := by decide +kernel
theorem dX12_init_178 : decode cX12_init 178 = .ok (.invokestatic 71, 3) := by decide +kernel
theorem dX12_init_181 : decode cX12_init 181 = .ok (.return_, 1) := by decide +kernel
def m12_init : pMT := (yX12_init, cX12_init, 1, none)
theorem mo12_init : mOK m12_init 0 := ⟨tb_i 1300 (by decide +kernel), wi_RX12, ⟨wn_RX12.1, wn_RX12.2, by decide +kernel⟩, by decide, plainFor_of_name wp_RX12⟩
theorem mv12_init : mI m12_init := ⟨tb_i 1299 (by decide +kernel), rfl, rfl⟩
def i12_pre (a0 : Nat) (w : pW) : pW := bl (pNew w (13, 4371)) fun w1 => bl (wR w1 a0 0 w.1.length) fun w2 => bl (pNew w2 (13, 4371)) fun w3 => bl (wR w3 a0 1 w2.1.length) fun w4 => bl (pNew w4 (13, 4260)) fun w5 => bl (wR w5 a0 2 w4.1.length) fun w6 => bl (pNew w6 (13, 300)) fun w7 => bl (wR w7 a0 3 w6.1.length) fun w8 => bl (wI w8 a0 5 (-1)) fun w9 => bl (wI w9 a0 6 (-1)) fun w10 => bl (pNew w10 (13, 160)) fun w11 => bl (wR w11 a0 15 w10.1.length) fun w12 => bl (pNew w12 (13, 7)) fun w13 => bl (wR w13 a0 20 w12.1.length) fun w14 => bl (pNew w14 (14, 330)) fun w15 => bl (wR w15 a0 21 w14.1.length) fun w16 => bl (pNew w16 (15, 330)) fun w17 => bl (wR w17 a0 22 w16.1.length) fun w18 => bl (wI w18 a0 23 1) fun w19 => bl (pNew w19 (13, 114)) fun w20 => bl (wR w20 a0 25 w19.1.length) fun w21 => bl (pNew w21 (13, 289)) fun w22 => bl (wR w22 a0 26 w21.1.length) fun w23 => bl (pNew w23 (13, 16)) fun w24 => bl (wR w24 a0 27 w23.1.length) fun w25 => bl (pNew w25 (13, 5)) fun w26 => bl (wR w26 a0 28 w25.1.length) fun w27 => bl (pNew w27 (13, 5)) fun w28 => bl (wR w28 a0 29 w27.1.length) fun w29 => bl (pNew w29 (13, 80)) fun w30 => bl (wR w30 a0 30 w29.1.length) fun w31 => bl (pNew w31 (13, 6)) fun w32 => bl (wR w32 a0 32 w31.1.length) fun w33 => bl (pNew w33 (14, 17)) fun w34 => bl (wR w34 a0 33 w33.1.length) fun w35 => bl (wI w35 w.1.length 8 269) fun w36 => bl (wI w36 w.1.length 3 (-1)) fun w37 => w37
set_option maxHeartbeats 4000000 in
set_option maxRecDepth 20000 in
theorem F12_pre {a0 : Nat} {w wf : pW} (h : i12_pre a0 w = wf) : wf.1.length = w.1.length + 16 ∧ pSl wf.1 = pSl w.1 + 14661 ∧ (∀ (c : Nat) (q : Nat × Nat), w.1[c]? = some q → wf.1[c]? = some q) ∧ ∀ (c k : Nat) (q : Nat × Nat), w.1[c]? = some q → c ≠ a0 → wf.2.2.2 c k = w.2.2.2 c k := by
  unfold i12_pre at h
  have P0 : (w.1.length = w.1.length + 0 ∧ pSl w.1 = pSl w.1 + 0) ∧ (∀ (c : Nat) (q : Nat × Nat), w.1[c]? = some q → w.1[c]? = some q) ∧ ∀ (c k : Nat) (q : Nat × Nat), w.1[c]? = some q → c ≠ a0 → w.2.2.2 c k = w.2.2.2 c k := ⟨⟨rfl, rfl⟩, fun _ _ h => h, fun _ _ _ _ _ => rfl⟩
  obtain ⟨w1, e1, h⟩ := blE h
  have P1 : (w1.1.length = w.1.length + 1 ∧ pSl w1.1 = pSl w.1 + 4371) ∧ (∀ (c : Nat) (q : Nat × Nat), w.1[c]? = some q → w1.1[c]? = some q) ∧ ∀ (c k : Nat) (q : Nat × Nat), w.1[c]? = some q → c ≠ a0 → w1.2.2.2 c k = w.2.2.2 c k := pf_new P0 e1
  obtain ⟨w2, e2, h⟩ := blE h
  have P2 : (w2.1.length = w.1.length + 1 ∧ pSl w2.1 = pSl w.1 + 4371) ∧ (∀ (c : Nat) (q : Nat × Nat), w.1[c]? = some q → w2.1[c]? = some q) ∧ ∀ (c k : Nat) (q : Nat × Nat), w.1[c]? = some q → c ≠ a0 → w2.2.2.2 c k = w.2.2.2 c k := pf_R P1 e2 (fun c q hc => Or.inl rfl)
  obtain ⟨w3, e3, h⟩ := blE h
  have P3 : (w3.1.length = w.1.length + 2 ∧ pSl w3.1 = pSl w.1 + 8742) ∧ (∀ (c : Nat) (q : Nat × Nat), w.1[c]? = some q → w3.1[c]? = some q) ∧ ∀ (c k : Nat) (q : Nat × Nat), w.1[c]? = some q → c ≠ a0 → w3.2.2.2 c k = w.2.2.2 c k := pf_new P2 e3
  obtain ⟨w4, e4, h⟩ := blE h
  have P4 : (w4.1.length = w.1.length + 2 ∧ pSl w4.1 = pSl w.1 + 8742) ∧ (∀ (c : Nat) (q : Nat × Nat), w.1[c]? = some q → w4.1[c]? = some q) ∧ ∀ (c k : Nat) (q : Nat × Nat), w.1[c]? = some q → c ≠ a0 → w4.2.2.2 c k = w.2.2.2 c k := pf_R P3 e4 (fun c q hc => Or.inl rfl)
  obtain ⟨w5, e5, h⟩ := blE h
  have P5 : (w5.1.length = w.1.length + 3 ∧ pSl w5.1 = pSl w.1 + 13002) ∧ (∀ (c : Nat) (q : Nat × Nat), w.1[c]? = some q → w5.1[c]? = some q) ∧ ∀ (c k : Nat) (q : Nat × Nat), w.1[c]? = some q → c ≠ a0 → w5.2.2.2 c k = w.2.2.2 c k := pf_new P4 e5
  obtain ⟨w6, e6, h⟩ := blE h
  have P6 : (w6.1.length = w.1.length + 3 ∧ pSl w6.1 = pSl w.1 + 13002) ∧ (∀ (c : Nat) (q : Nat × Nat), w.1[c]? = some q → w6.1[c]? = some q) ∧ ∀ (c k : Nat) (q : Nat × Nat), w.1[c]? = some q → c ≠ a0 → w6.2.2.2 c k = w.2.2.2 c k := pf_R P5 e6 (fun c q hc => Or.inl rfl)
  obtain ⟨w7, e7, h⟩ := blE h
  have P7 : (w7.1.length = w.1.length + 4 ∧ pSl w7.1 = pSl w.1 + 13302) ∧ (∀ (c : Nat) (q : Nat × Nat), w.1[c]? = some q → w7.1[c]? = some q) ∧ ∀ (c k : Nat) (q : Nat × Nat), w.1[c]? = some q → c ≠ a0 → w7.2.2.2 c k = w.2.2.2 c k := pf_new P6 e7
  obtain ⟨w8, e8, h⟩ := blE h
  have P8 : (w8.1.length = w.1.length + 4 ∧ pSl w8.1 = pSl w.1 + 13302) ∧ (∀ (c : Nat) (q : Nat × Nat), w.1[c]? = some q → w8.1[c]? = some q) ∧ ∀ (c k : Nat) (q : Nat × Nat), w.1[c]? = some q → c ≠ a0 → w8.2.2.2 c k = w.2.2.2 c k := pf_R P7 e8 (fun c q hc => Or.inl rfl)
  obtain ⟨w9, e9, h⟩ := blE h
  have P9 : (w9.1.length = w.1.length + 4 ∧ pSl w9.1 = pSl w.1 + 13302) ∧ (∀ (c : Nat) (q : Nat × Nat), w.1[c]? = some q → w9.1[c]? = some q) ∧ ∀ (c k : Nat) (q : Nat × Nat), w.1[c]? = some q → c ≠ a0 → w9.2.2.2 c k = w.2.2.2 c k := pf_I P8 e9
  obtain ⟨w10, e10, h⟩ := blE h
  have P10 : (w10.1.length = w.1.length + 4 ∧ pSl w10.1 = pSl w.1 + 13302) ∧ (∀ (c : Nat) (q : Nat × Nat), w.1[c]? = some q → w10.1[c]? = some q) ∧ ∀ (c k : Nat) (q : Nat × Nat), w.1[c]? = some q → c ≠ a0 → w10.2.2.2 c k = w.2.2.2 c k := pf_I P9 e10
  obtain ⟨w11, e11, h⟩ := blE h
  have P11 : (w11.1.length = w.1.length + 5 ∧ pSl w11.1 = pSl w.1 + 13462) ∧ (∀ (c : Nat) (q : Nat × Nat), w.1[c]? = some q → w11.1[c]? = some q) ∧ ∀ (c k : Nat) (q : Nat × Nat), w.1[c]? = some q → c ≠ a0 → w11.2.2.2 c k = w.2.2.2 c k := pf_new P10 e11
  obtain ⟨w12, e12, h⟩ := blE h
  have P12 : (w12.1.length = w.1.length + 5 ∧ pSl w12.1 = pSl w.1 + 13462) ∧ (∀ (c : Nat) (q : Nat × Nat), w.1[c]? = some q → w12.1[c]? = some q) ∧ ∀ (c k : Nat) (q : Nat × Nat), w.1[c]? = some q → c ≠ a0 → w12.2.2.2 c k = w.2.2.2 c k := pf_R P11 e12 (fun c q hc => Or.inl rfl)
  obtain ⟨w13, e13, h⟩ := blE h
  have P13 : (w13.1.length = w.1.length + 6 ∧ pSl w13.1 = pSl w.1 + 13469) ∧ (∀ (c : Nat) (q : Nat × Nat), w.1[c]? = some q → w13.1[c]? = some q) ∧ ∀ (c k : Nat) (q : Nat × Nat), w.1[c]? = some q → c ≠ a0 → w13.2.2.2 c k = w.2.2.2 c k := pf_new P12 e13
  obtain ⟨w14, e14, h⟩ := blE h
  have P14 : (w14.1.length = w.1.length + 6 ∧ pSl w14.1 = pSl w.1 + 13469) ∧ (∀ (c : Nat) (q : Nat × Nat), w.1[c]? = some q → w14.1[c]? = some q) ∧ ∀ (c k : Nat) (q : Nat × Nat), w.1[c]? = some q → c ≠ a0 → w14.2.2.2 c k = w.2.2.2 c k := pf_R P13 e14 (fun c q hc => Or.inl rfl)
  obtain ⟨w15, e15, h⟩ := blE h
  have P15 : (w15.1.length = w.1.length + 7 ∧ pSl w15.1 = pSl w.1 + 13799) ∧ (∀ (c : Nat) (q : Nat × Nat), w.1[c]? = some q → w15.1[c]? = some q) ∧ ∀ (c k : Nat) (q : Nat × Nat), w.1[c]? = some q → c ≠ a0 → w15.2.2.2 c k = w.2.2.2 c k := pf_new P14 e15
  obtain ⟨w16, e16, h⟩ := blE h
  have P16 : (w16.1.length = w.1.length + 7 ∧ pSl w16.1 = pSl w.1 + 13799) ∧ (∀ (c : Nat) (q : Nat × Nat), w.1[c]? = some q → w16.1[c]? = some q) ∧ ∀ (c k : Nat) (q : Nat × Nat), w.1[c]? = some q → c ≠ a0 → w16.2.2.2 c k = w.2.2.2 c k := pf_R P15 e16 (fun c q hc => Or.inl rfl)
  obtain ⟨w17, e17, h⟩ := blE h
  have P17 : (w17.1.length = w.1.length + 8 ∧ pSl w17.1 = pSl w.1 + 14129) ∧ (∀ (c : Nat) (q : Nat × Nat), w.1[c]? = some q → w17.1[c]? = some q) ∧ ∀ (c k : Nat) (q : Nat × Nat), w.1[c]? = some q → c ≠ a0 → w17.2.2.2 c k = w.2.2.2 c k := pf_new P16 e17
  obtain ⟨w18, e18, h⟩ := blE h
  have P18 : (w18.1.length = w.1.length + 8 ∧ pSl w18.1 = pSl w.1 + 14129) ∧ (∀ (c : Nat) (q : Nat × Nat), w.1[c]? = some q → w18.1[c]? = some q) ∧ ∀ (c k : Nat) (q : Nat × Nat), w.1[c]? = some q → c ≠ a0 → w18.2.2.2 c k = w.2.2.2 c k := pf_R P17 e18 (fun c q hc => Or.inl rfl)
  obtain ⟨w19, e19, h⟩ := blE h
  have P19 : (w19.1.length = w.1.length + 8 ∧ pSl w19.1 = pSl w.1 + 14129) ∧ (∀ (c : Nat) (q : Nat × Nat), w.1[c]? = some q → w19.1[c]? = some q) ∧ ∀ (c k : Nat) (q : Nat × Nat), w.1[c]? = some q → c ≠ a0 → w19.2.2.2 c k = w.2.2.2 c k := pf_I P18 e19
  obtain ⟨w20, e20, h⟩ := blE h
  have P20 : (w20.1.length = w.1.length + 9 ∧ pSl w20.1 = pSl w.1 + 14243) ∧ (∀ (c : Nat) (q : Nat × Nat), w.1[c]? = some q → w20.1[c]? = some q) ∧ ∀ (c k : Nat) (q : Nat × Nat), w.1[c]? = some q → c ≠ a0 → w20.2.2.2 c k = w.2.2.2 c k := pf_new P19 e20
  obtain ⟨w21, e21, h⟩ := blE h
  have P21 : (w21.1.length = w.1.length + 9 ∧ pSl w21.1 = pSl w.1 + 14243) ∧ (∀ (c : Nat) (q : Nat × Nat), w.1[c]? = some q → w21.1[c]? = some q) ∧ ∀ (c k : Nat) (q : Nat × Nat), w.1[c]? = some q → c ≠ a0 → w21.2.2.2 c k = w.2.2.2 c k := pf_R P20 e21 (fun c q hc => Or.inl rfl)
  obtain ⟨w22, e22, h⟩ := blE h
  have P22 : (w22.1.length = w.1.length + 10 ∧ pSl w22.1 = pSl w.1 + 14532) ∧ (∀ (c : Nat) (q : Nat × Nat), w.1[c]? = some q → w22.1[c]? = some q) ∧ ∀ (c k : Nat) (q : Nat × Nat), w.1[c]? = some q → c ≠ a0 → w22.2.2.2 c k = w.2.2.2 c k := pf_new P21 e22
  obtain ⟨w23, e23, h⟩ := blE h
  have P23 : (w23.1.length = w.1.length + 10 ∧ pSl w23.1 = pSl w.1 + 14532) ∧ (∀ (c : Nat) (q : Nat × Nat), w.1[c]? = some q → w23.1[c]? = some q) ∧ ∀ (c k : Nat) (q : Nat × Nat), w.1[c]? = some q → c ≠ a0 → w23.2.2.2 c k = w.2.2.2 c k := pf_R P22 e23 (fun c q hc => Or.inl rfl)
  obtain ⟨w24, e24, h⟩ := blE h
  have P24 : (w24.1.length = w.1.length + 11 ∧ pSl w24.1 = pSl w.1 + 14548) ∧ (∀ (c : Nat) (q : Nat × Nat), w.1[c]? = some q → w24.1[c]? = some q) ∧ ∀ (c k : Nat) (q : Nat × Nat), w.1[c]? = some q → c ≠ a0 → w24.2.2.2 c k = w.2.2.2 c k := pf_new P23 e24
  obtain ⟨w25, e25, h⟩ := blE h
  have P25 : (w25.1.length = w.1.length + 11 ∧ pSl w25.1 = pSl w.1 + 14548) ∧ (∀ (c : Nat) (q : Nat × Nat), w.1[c]? = some q → w25.1[c]? = some q) ∧ ∀ (c k : Nat) (q : Nat × Nat), w.1[c]? = some q → c ≠ a0 → w25.2.2.2 c k = w.2.2.2 c k := pf_R P24 e25 (fun c q hc => Or.inl rfl)
  obtain ⟨w26, e26, h⟩ := blE h
  have P26 : (w26.1.length = w.1.length + 12 ∧ pSl w26.1 = pSl w.1 + 14553) ∧ (∀ (c : Nat) (q : Nat × Nat), w.1[c]? = some q → w26.1[c]? = some q) ∧ ∀ (c k : Nat) (q : Nat × Nat), w.1[c]? = some q → c ≠ a0 → w26.2.2.2 c k = w.2.2.2 c k := pf_new P25 e26
  obtain ⟨w27, e27, h⟩ := blE h
  have P27 : (w27.1.length = w.1.length + 12 ∧ pSl w27.1 = pSl w.1 + 14553) ∧ (∀ (c : Nat) (q : Nat × Nat), w.1[c]? = some q → w27.1[c]? = some q) ∧ ∀ (c k : Nat) (q : Nat × Nat), w.1[c]? = some q → c ≠ a0 → w27.2.2.2 c k = w.2.2.2 c k := pf_R P26 e27 (fun c q hc => Or.inl rfl)
  obtain ⟨w28, e28, h⟩ := blE h
  have P28 : (w28.1.length = w.1.length + 13 ∧ pSl w28.1 = pSl w.1 + 14558) ∧ (∀ (c : Nat) (q : Nat × Nat), w.1[c]? = some q → w28.1[c]? = some q) ∧ ∀ (c k : Nat) (q : Nat × Nat), w.1[c]? = some q → c ≠ a0 → w28.2.2.2 c k = w.2.2.2 c k := pf_new P27 e28
  obtain ⟨w29, e29, h⟩ := blE h
  have P29 : (w29.1.length = w.1.length + 13 ∧ pSl w29.1 = pSl w.1 + 14558) ∧ (∀ (c : Nat) (q : Nat × Nat), w.1[c]? = some q → w29.1[c]? = some q) ∧ ∀ (c k : Nat) (q : Nat × Nat), w.1[c]? = some q → c ≠ a0 → w29.2.2.2 c k = w.2.2.2 c k := pf_R P28 e29 (fun c q hc => Or.inl rfl)
  obtain ⟨w30, e30, h⟩ := blE h
  have P30 : (w30.1.length = w.1.length + 14 ∧ pSl w30.1 = pSl w.1 + 14638) ∧ (∀ (c : Nat) (q : Nat × Nat), w.1[c]? = some q → w30.1[c]? = some q) ∧ ∀ (c k : Nat) (q : Nat × Nat), w.1[c]? = some q → c ≠ a0 → w30.2.2.2 c k = w.2.2.2 c k := pf_new P29 e30
  obtain ⟨w31, e31, h⟩ := blE h
  have P31 : (w31.1.length = w.1.length + 14 ∧ pSl w31.1 = pSl w.1 + 14638) ∧ (∀ (c : Nat) (q : Nat × Nat), w.1[c]? = some q → w31.1[c]? = some q) ∧ ∀ (c k : Nat) (q : Nat × Nat), w.1[c]? = some q → c ≠ a0 → w31.2.2.2 c k = w.2.2.2 c k := pf_R P30 e31 (fun c q hc => Or.inl rfl)
  obtain ⟨w32, e32, h⟩ := blE h
  have P32 : (w32.1.length = w.1.length + 15 ∧ pSl w32.1 = pSl w.1 + 14644) ∧ (∀ (c : Nat) (q : Nat × Nat), w.1[c]? = some q → w32.1[c]? = some q) ∧ ∀ (c k : Nat) (q : Nat × Nat), w.1[c]? = some q → c ≠ a0 → w32.2.2.2 c k = w.2.2.2 c k := pf_new P31 e32
  obtain ⟨w33, e33, h⟩ := blE h
  have P33 : (w33.1.length = w.1.length + 15 ∧ pSl w33.1 = pSl w.1 + 14644) ∧ (∀ (c : Nat) (q : Nat × Nat), w.1[c]? = some q → w33.1[c]? = some q) ∧ ∀ (c k : Nat) (q : Nat × Nat), w.1[c]? = some q → c ≠ a0 → w33.2.2.2 c k = w.2.2.2 c k := pf_R P32 e33 (fun c q hc => Or.inl rfl)
  obtain ⟨w34, e34, h⟩ := blE h
  have P34 : (w34.1.length = w.1.length + 16 ∧ pSl w34.1 = pSl w.1 + 14661) ∧ (∀ (c : Nat) (q : Nat × Nat), w.1[c]? = some q → w34.1[c]? = some q) ∧ ∀ (c k : Nat) (q : Nat × Nat), w.1[c]? = some q → c ≠ a0 → w34.2.2.2 c k = w.2.2.2 c k := pf_new P33 e34
  obtain ⟨w35, e35, h⟩ := blE h
  have P35 : (w35.1.length = w.1.length + 16 ∧ pSl w35.1 = pSl w.1 + 14661) ∧ (∀ (c : Nat) (q : Nat × Nat), w.1[c]? = some q → w35.1[c]? = some q) ∧ ∀ (c k : Nat) (q : Nat × Nat), w.1[c]? = some q → c ≠ a0 → w35.2.2.2 c k = w.2.2.2 c k := pf_R P34 e35 (fun c q hc => Or.inl rfl)
  obtain ⟨w36, e36, h⟩ := blE h
  have P36 : (w36.1.length = w.1.length + 16 ∧ pSl w36.1 = pSl w.1 + 14661) ∧ (∀ (c : Nat) (q : Nat × Nat), w.1[c]? = some q → w36.1[c]? = some q) ∧ ∀ (c k : Nat) (q : Nat × Nat), w.1[c]? = some q → c ≠ a0 → w36.2.2.2 c k = w.2.2.2 c k := pf_I P35 e36
  obtain ⟨w37, e37, h⟩ := blE h
  have P37 : (w37.1.length = w.1.length + 16 ∧ pSl w37.1 = pSl w.1 + 14661) ∧ (∀ (c : Nat) (q : Nat × Nat), w.1[c]? = some q → w37.1[c]? = some q) ∧ ∀ (c k : Nat) (q : Nat × Nat), w.1[c]? = some q → c ≠ a0 → w37.2.2.2 c k = w.2.2.2 c k := pf_I P36 e37
  subst h
  exact ⟨P37.1.1, P37.1.2, P37.2⟩
set_option maxHeartbeats 4000000 in
set_option maxRecDepth 20000 in
theorem oi12_init {g : pG} {Qx : Option Value → pW → Prop} {w wf : pW} {n : Nat} {I2 : (Nat → Nat → Int32)} {a0 : Nat} (d : Nat) (hz0 : w.1[a0]? = some (12, 34)) (hL : w.1.length + 16 ≤ 1000) (h : i12_pre a0 w = wf) (hW : WT wf.1 wf.2.2.2) (hc : f12_copy n wf.2.1 (rO wf.2.2.2 a0 0) (rO wf.2.2.2 a0 1) = some I2) (hQ : Qx none (wf.1, I2, wf.2.2.1, wf.2.2.2)) : Ok g (d + 3, RX12, cX12_init, 1, true, 16, 14661, w.1.length, pSl w.1) Qx 0 [(0, .ref a0)] [] w := by
  unfold i12_pre at h
  have l0 : w.1.length = w.1.length + 0 := rfl
  have s0 : pSl w.1 = pSl w.1 + 0 := rfl
  refine ok_aload_n dX12_init_0 0 rfl ?_
  refine ok_oinit dX12_init_1 lkRX12_1 (Nat.le_of_ble_eq_true rfl) (by show 1 ≤ d + _; omega) ?_
  refine ok_aload_n dX12_init_4 0 rfl ?_
  refine ok_sipush (v := 4371) dX12_init_5 (by decide) ?_
  obtain ⟨w1, e1, h⟩ := blE h
  refine oi_newa (kd := 13) (N := 4371) dX12_init_8 rfl (Or.inl ⟨rfl, rfl⟩) wa_int (by decide) (by decide) (by decide) (b_len (mc := 16) l0 hL (by decide)) (b_c1 (mc := 16) l0 (by decide)) (b_s1 (ms := 14661) s0 (by decide)) e1 ?_
  have l1 : w1.1.length = w.1.length + 1 := ln_new e1 l0
  have s1 : pSl w1.1 = pSl w.1 + 4371 := sn_new e1 s0
  have z1_0 : w1.1[a0]? = some (12, 34) := by rw [e1]; exact z_new hz0
  have z1_n : w1.1[w.1.length]? = some (13, 4371) := by rw [e1]; exact z_at _ _
  obtain ⟨w2, e2, h⟩ := blE h
  refine oi_putR (ci := 12) (k := 0) dX12_init_10 flRX12_7 rfl (Or.inr ⟨_, rfl⟩) (Or.inr ⟨rfl, rfl, rfl⟩) z1_0 (by decide) e2 ?_
  have l2 : w2.1.length = w.1.length + 1 := by rw [e2]; exact l1
  have s2 : pSl w2.1 = pSl w.1 + 4371 := by rw [e2]; exact s1
  have z2_0 : w2.1[a0]? = some (12, 34) := by rw [e2]; exact z1_0
  have z2_1 : w2.1[w.1.length]? = some (13, 4371) := by rw [e2]; exact z1_n
  have o2_p : w2.2.2.2 a0 0 = some w.1.length := by rw [e2]; exact o_at _ _ _ _
  refine ok_aload_n dX12_init_13 0 rfl ?_
  refine ok_sipush (v := 4371) dX12_init_14 (by decide) ?_
  obtain ⟨w3, e3, h⟩ := blE h
  refine oi_newa (kd := 13) (N := 4371) dX12_init_17 rfl (Or.inl ⟨rfl, rfl⟩) wa_int (by decide) (by decide) (by decide) (b_len (mc := 16) l2 hL (by decide)) (b_c1 (mc := 16) l2 (by decide)) (b_s1 (ms := 14661) s2 (by decide)) e3 ?_
  have l3 : w3.1.length = w.1.length + 2 := ln_new e3 l2
  have s3 : pSl w3.1 = pSl w.1 + 8742 := sn_new e3 s2
  have z3_0 : w3.1[a0]? = some (12, 34) := by rw [e3]; exact z_new z2_0
  have z3_1 : w3.1[w.1.length]? = some (13, 4371) := by rw [e3]; exact z_new z2_1
  have z3_n : w3.1[w2.1.length]? = some (13, 4371) := by rw [e3]; exact z_at _ _
  have o3_0 : w3.2.2.2 a0 0 = some w.1.length := by rw [e3, o_new z2_0]; exact o2_p
  obtain ⟨w4, e4, h⟩ := blE h
  refine oi_putR (ci := 12) (k := 1) dX12_init_19 flRX12_13 rfl (Or.inr ⟨_, rfl⟩) (Or.inr ⟨rfl, rfl, rfl⟩) z3_0 (by decide) e4 ?_
  have l4 : w4.1.length = w.1.length + 2 := by rw [e4]; exact l3
  have s4 : pSl w4.1 = pSl w.1 + 8742 := by rw [e4]; exact s3
  have z4_0 : w4.1[a0]? = some (12, 34) := by rw [e4]; exact z3_0
  have z4_1 : w4.1[w.1.length]? = some (13, 4371) := by rw [e4]; exact z3_1
  have z4_2 : w4.1[w2.1.length]? = some (13, 4371) := by rw [e4]; exact z3_n
  have o4_0 : w4.2.2.2 a0 0 = some w.1.length := by rw [e4, o_R (Or.inr (by decide))]; exact o3_0
  have o4_p : w4.2.2.2 a0 1 = some w2.1.length := by rw [e4]; exact o_at _ _ _ _
  refine ok_aload_n dX12_init_22 0 rfl ?_
  refine ok_sipush (v := 4260) dX12_init_23 (by decide) ?_
  obtain ⟨w5, e5, h⟩ := blE h
  refine oi_newa (kd := 13) (N := 4260) dX12_init_26 rfl (Or.inl ⟨rfl, rfl⟩) wa_int (by decide) (by decide) (by decide) (b_len (mc := 16) l4 hL (by decide)) (b_c1 (mc := 16) l4 (by decide)) (b_s1 (ms := 14661) s4 (by decide)) e5 ?_
  have l5 : w5.1.length = w.1.length + 3 := ln_new e5 l4
  have s5 : pSl w5.1 = pSl w.1 + 13002 := sn_new e5 s4
  have z5_0 : w5.1[a0]? = some (12, 34) := by rw [e5]; exact z_new z4_0
  have z5_1 : w5.1[w.1.length]? = some (13, 4371) := by rw [e5]; exact z_new z4_1
  have z5_2 : w5.1[w2.1.length]? = some (13, 4371) := by rw [e5]; exact z_new z4_2
  have z5_n : w5.1[w4.1.length]? = some (13, 4260) := by rw [e5]; exact z_at _ _
  have o5_0 : w5.2.2.2 a0 0 = some w.1.length := by rw [e5, o_new z4_0]; exact o4_0
  have o5_1 : w5.2.2.2 a0 1 = some w2.1.length := by rw [e5, o_new z4_0]; exact o4_p
  obtain ⟨w6, e6, h⟩ := blE h
  refine oi_putR (ci := 12) (k := 2) dX12_init_28 flRX12_16 rfl (Or.inr ⟨_, rfl⟩) (Or.inr ⟨rfl, rfl, rfl⟩) z5_0 (by decide) e6 ?_
  have l6 : w6.1.length = w.1.length + 3 := by rw [e6]; exact l5
  have s6 : pSl w6.1 = pSl w.1 + 13002 := by rw [e6]; exact s5
  have z6_0 : w6.1[a0]? = some (12, 34) := by rw [e6]; exact z5_0
  have z6_1 : w6.1[w.1.length]? = some (13, 4371) := by rw [e6]; exact z5_1
  have z6_2 : w6.1[w2.1.length]? = some (13, 4371) := by rw [e6]; exact z5_2
  have o6_0 : w6.2.2.2 a0 0 = some w.1.length := by rw [e6, o_R (Or.inr (by decide))]; exact o5_0
  have o6_1 : w6.2.2.2 a0 1 = some w2.1.length := by rw [e6, o_R (Or.inr (by decide))]; exact o5_1
  refine ok_aload_n dX12_init_31 0 rfl ?_
  refine ok_sipush (v := 300) dX12_init_32 (by decide) ?_
  obtain ⟨w7, e7, h⟩ := blE h
  refine oi_newa (kd := 13) (N := 300) dX12_init_35 rfl (Or.inl ⟨rfl, rfl⟩) wa_int (by decide) (by decide) (by decide) (b_len (mc := 16) l6 hL (by decide)) (b_c1 (mc := 16) l6 (by decide)) (b_s1 (ms := 14661) s6 (by decide)) e7 ?_
  have l7 : w7.1.length = w.1.length + 4 := ln_new e7 l6
  have s7 : pSl w7.1 = pSl w.1 + 13302 := sn_new e7 s6
  have z7_0 : w7.1[a0]? = some (12, 34) := by rw [e7]; exact z_new z6_0
  have z7_1 : w7.1[w.1.length]? = some (13, 4371) := by rw [e7]; exact z_new z6_1
  have z7_2 : w7.1[w2.1.length]? = some (13, 4371) := by rw [e7]; exact z_new z6_2
  have z7_n : w7.1[w6.1.length]? = some (13, 300) := by rw [e7]; exact z_at _ _
  have o7_0 : w7.2.2.2 a0 0 = some w.1.length := by rw [e7, o_new z6_0]; exact o6_0
  have o7_1 : w7.2.2.2 a0 1 = some w2.1.length := by rw [e7, o_new z6_0]; exact o6_1
  obtain ⟨w8, e8, h⟩ := blE h
  refine oi_putR (ci := 12) (k := 3) dX12_init_37 flRX12_19 rfl (Or.inr ⟨_, rfl⟩) (Or.inr ⟨rfl, rfl, rfl⟩) z7_0 (by decide) e8 ?_
  have l8 : w8.1.length = w.1.length + 4 := by rw [e8]; exact l7
  have s8 : pSl w8.1 = pSl w.1 + 13302 := by rw [e8]; exact s7
  have z8_0 : w8.1[a0]? = some (12, 34) := by rw [e8]; exact z7_0
  have z8_1 : w8.1[w.1.length]? = some (13, 4371) := by rw [e8]; exact z7_1
  have z8_2 : w8.1[w2.1.length]? = some (13, 4371) := by rw [e8]; exact z7_2
  have o8_0 : w8.2.2.2 a0 0 = some w.1.length := by rw [e8, o_R (Or.inr (by decide))]; exact o7_0
  have o8_1 : w8.2.2.2 a0 1 = some w2.1.length := by rw [e8, o_R (Or.inr (by decide))]; exact o7_1
  refine ok_aload_n dX12_init_40 0 rfl ?_
  refine ok_iconst (v := (-1)) dX12_init_41 (by decide) ?_
  obtain ⟨w9, e9, h⟩ := blE h
  refine oi_putI (ci := 12) (k := 5) dX12_init_42 flRX12_22 rfl (Or.inl rfl) z8_0 (by decide) e9 ?_
  have l9 : w9.1.length = w.1.length + 4 := by rw [e9]; exact l8
  have s9 : pSl w9.1 = pSl w.1 + 13302 := by rw [e9]; exact s8
  have z9_0 : w9.1[a0]? = some (12, 34) := by rw [e9]; exact z8_0
  have z9_1 : w9.1[w.1.length]? = some (13, 4371) := by rw [e9]; exact z8_1
  have z9_2 : w9.1[w2.1.length]? = some (13, 4371) := by rw [e9]; exact z8_2
  have o9_0 : w9.2.2.2 a0 0 = some w.1.length := by rw [e9]; exact o8_0
  have o9_1 : w9.2.2.2 a0 1 = some w2.1.length := by rw [e9]; exact o8_1
  refine ok_aload_n dX12_init_45 0 rfl ?_
  refine ok_iconst (v := (-1)) dX12_init_46 (by decide) ?_
  obtain ⟨w10, e10, h⟩ := blE h
  refine oi_putI (ci := 12) (k := 6) dX12_init_47 flRX12_26 rfl (Or.inl rfl) z9_0 (by decide) e10 ?_
  have l10 : w10.1.length = w.1.length + 4 := by rw [e10]; exact l9
  have s10 : pSl w10.1 = pSl w.1 + 13302 := by rw [e10]; exact s9
  have z10_0 : w10.1[a0]? = some (12, 34) := by rw [e10]; exact z9_0
  have z10_1 : w10.1[w.1.length]? = some (13, 4371) := by rw [e10]; exact z9_1
  have z10_2 : w10.1[w2.1.length]? = some (13, 4371) := by rw [e10]; exact z9_2
  have o10_0 : w10.2.2.2 a0 0 = some w.1.length := by rw [e10]; exact o9_0
  have o10_1 : w10.2.2.2 a0 1 = some w2.1.length := by rw [e10]; exact o9_1
  refine ok_aload_n dX12_init_50 0 rfl ?_
  refine ok_sipush (v := 160) dX12_init_51 (by decide) ?_
  obtain ⟨w11, e11, h⟩ := blE h
  refine oi_newa (kd := 13) (N := 160) dX12_init_54 rfl (Or.inl ⟨rfl, rfl⟩) wa_int (by decide) (by decide) (by decide) (b_len (mc := 16) l10 hL (by decide)) (b_c1 (mc := 16) l10 (by decide)) (b_s1 (ms := 14661) s10 (by decide)) e11 ?_
  have l11 : w11.1.length = w.1.length + 5 := ln_new e11 l10
  have s11 : pSl w11.1 = pSl w.1 + 13462 := sn_new e11 s10
  have z11_0 : w11.1[a0]? = some (12, 34) := by rw [e11]; exact z_new z10_0
  have z11_1 : w11.1[w.1.length]? = some (13, 4371) := by rw [e11]; exact z_new z10_1
  have z11_2 : w11.1[w2.1.length]? = some (13, 4371) := by rw [e11]; exact z_new z10_2
  have z11_n : w11.1[w10.1.length]? = some (13, 160) := by rw [e11]; exact z_at _ _
  have o11_0 : w11.2.2.2 a0 0 = some w.1.length := by rw [e11, o_new z10_0]; exact o10_0
  have o11_1 : w11.2.2.2 a0 1 = some w2.1.length := by rw [e11, o_new z10_0]; exact o10_1
  obtain ⟨w12, e12, h⟩ := blE h
  refine oi_putR (ci := 12) (k := 15) dX12_init_56 flRX12_29 rfl (Or.inr ⟨_, rfl⟩) (Or.inr ⟨rfl, rfl, rfl⟩) z11_0 (by decide) e12 ?_
  have l12 : w12.1.length = w.1.length + 5 := by rw [e12]; exact l11
  have s12 : pSl w12.1 = pSl w.1 + 13462 := by rw [e12]; exact s11
  have z12_0 : w12.1[a0]? = some (12, 34) := by rw [e12]; exact z11_0
  have z12_1 : w12.1[w.1.length]? = some (13, 4371) := by rw [e12]; exact z11_1
  have z12_3 : w12.1[w2.1.length]? = some (13, 4371) := by rw [e12]; exact z11_2
  have o12_0 : w12.2.2.2 a0 0 = some w.1.length := by rw [e12, o_R (Or.inr (by decide))]; exact o11_0
  have o12_1 : w12.2.2.2 a0 1 = some w2.1.length := by rw [e12, o_R (Or.inr (by decide))]; exact o11_1
  refine ok_aload_n dX12_init_59 0 rfl ?_
  refine ok_bipush (v := 7) dX12_init_60 (by decide) ?_
  obtain ⟨w13, e13, h⟩ := blE h
  refine oi_newa (kd := 13) (N := 7) dX12_init_62 rfl (Or.inl ⟨rfl, rfl⟩) wa_int (by decide) (by decide) (by decide) (b_len (mc := 16) l12 hL (by decide)) (b_c1 (mc := 16) l12 (by decide)) (b_s1 (ms := 14661) s12 (by decide)) e13 ?_
  have l13 : w13.1.length = w.1.length + 6 := ln_new e13 l12
  have s13 : pSl w13.1 = pSl w.1 + 13469 := sn_new e13 s12
  have z13_0 : w13.1[a0]? = some (12, 34) := by rw [e13]; exact z_new z12_0
  have z13_1 : w13.1[w.1.length]? = some (13, 4371) := by rw [e13]; exact z_new z12_1
  have z13_2 : w13.1[w2.1.length]? = some (13, 4371) := by rw [e13]; exact z_new z12_3
  have z13_n : w13.1[w12.1.length]? = some (13, 7) := by rw [e13]; exact z_at _ _
  have o13_0 : w13.2.2.2 a0 0 = some w.1.length := by rw [e13, o_new z12_0]; exact o12_0
  have o13_1 : w13.2.2.2 a0 1 = some w2.1.length := by rw [e13, o_new z12_0]; exact o12_1
  obtain ⟨w14, e14, h⟩ := blE h
  refine oi_putR (ci := 12) (k := 20) dX12_init_64 flRX12_32 rfl (Or.inr ⟨_, rfl⟩) (Or.inr ⟨rfl, rfl, rfl⟩) z13_0 (by decide) e14 ?_
  have l14 : w14.1.length = w.1.length + 6 := by rw [e14]; exact l13
  have s14 : pSl w14.1 = pSl w.1 + 13469 := by rw [e14]; exact s13
  have z14_0 : w14.1[a0]? = some (12, 34) := by rw [e14]; exact z13_0
  have z14_1 : w14.1[w.1.length]? = some (13, 4371) := by rw [e14]; exact z13_1
  have z14_3 : w14.1[w2.1.length]? = some (13, 4371) := by rw [e14]; exact z13_2
  have o14_0 : w14.2.2.2 a0 0 = some w.1.length := by rw [e14, o_R (Or.inr (by decide))]; exact o13_0
  have o14_1 : w14.2.2.2 a0 1 = some w2.1.length := by rw [e14, o_R (Or.inr (by decide))]; exact o13_1
  refine ok_aload_n dX12_init_67 0 rfl ?_
  refine ok_sipush (v := 330) dX12_init_68 (by decide) ?_
  obtain ⟨w15, e15, h⟩ := blE h
  refine oi_newa (kd := 14) (N := 330) dX12_init_71 rfl (Or.inr (Or.inl ⟨rfl, rfl⟩)) wa_long (by decide) (by decide) (by decide) (b_len (mc := 16) l14 hL (by decide)) (b_c1 (mc := 16) l14 (by decide)) (b_s1 (ms := 14661) s14 (by decide)) e15 ?_
  have l15 : w15.1.length = w.1.length + 7 := ln_new e15 l14
  have s15 : pSl w15.1 = pSl w.1 + 13799 := sn_new e15 s14
  have z15_0 : w15.1[a0]? = some (12, 34) := by rw [e15]; exact z_new z14_0
  have z15_1 : w15.1[w.1.length]? = some (13, 4371) := by rw [e15]; exact z_new z14_1
  have z15_2 : w15.1[w2.1.length]? = some (13, 4371) := by rw [e15]; exact z_new z14_3
  have z15_n : w15.1[w14.1.length]? = some (14, 330) := by rw [e15]; exact z_at _ _
  have o15_0 : w15.2.2.2 a0 0 = some w.1.length := by rw [e15, o_new z14_0]; exact o14_0
  have o15_1 : w15.2.2.2 a0 1 = some w2.1.length := by rw [e15, o_new z14_0]; exact o14_1
  obtain ⟨w16, e16, h⟩ := blE h
  refine oi_putR (ci := 12) (k := 21) dX12_init_73 flRX12_35 rfl (Or.inr ⟨_, rfl⟩) (Or.inr ⟨rfl, rfl, rfl⟩) z15_0 (by decide) e16 ?_
  have l16 : w16.1.length = w.1.length + 7 := by rw [e16]; exact l15
  have s16 : pSl w16.1 = pSl w.1 + 13799 := by rw [e16]; exact s15
  have z16_0 : w16.1[a0]? = some (12, 34) := by rw [e16]; exact z15_0
  have z16_1 : w16.1[w.1.length]? = some (13, 4371) := by rw [e16]; exact z15_1
  have z16_3 : w16.1[w2.1.length]? = some (13, 4371) := by rw [e16]; exact z15_2
  have o16_0 : w16.2.2.2 a0 0 = some w.1.length := by rw [e16, o_R (Or.inr (by decide))]; exact o15_0
  have o16_1 : w16.2.2.2 a0 1 = some w2.1.length := by rw [e16, o_R (Or.inr (by decide))]; exact o15_1
  refine ok_aload_n dX12_init_76 0 rfl ?_
  refine ok_sipush (v := 330) dX12_init_77 (by decide) ?_
  obtain ⟨w17, e17, h⟩ := blE h
  refine oi_newa (kd := 15) (N := 330) dX12_init_80 rfl (Or.inr (Or.inr ⟨rfl, rfl⟩)) wa_bool (by decide) (by decide) (by decide) (b_len (mc := 16) l16 hL (by decide)) (b_c1 (mc := 16) l16 (by decide)) (b_s1 (ms := 14661) s16 (by decide)) e17 ?_
  have l17 : w17.1.length = w.1.length + 8 := ln_new e17 l16
  have s17 : pSl w17.1 = pSl w.1 + 14129 := sn_new e17 s16
  have z17_0 : w17.1[a0]? = some (12, 34) := by rw [e17]; exact z_new z16_0
  have z17_1 : w17.1[w.1.length]? = some (13, 4371) := by rw [e17]; exact z_new z16_1
  have z17_2 : w17.1[w2.1.length]? = some (13, 4371) := by rw [e17]; exact z_new z16_3
  have z17_n : w17.1[w16.1.length]? = some (15, 330) := by rw [e17]; exact z_at _ _
  have o17_0 : w17.2.2.2 a0 0 = some w.1.length := by rw [e17, o_new z16_0]; exact o16_0
  have o17_1 : w17.2.2.2 a0 1 = some w2.1.length := by rw [e17, o_new z16_0]; exact o16_1
  obtain ⟨w18, e18, h⟩ := blE h
  refine oi_putR (ci := 12) (k := 22) dX12_init_82 flRX12_39 rfl (Or.inr ⟨_, rfl⟩) (Or.inr ⟨rfl, rfl, rfl⟩) z17_0 (by decide) e18 ?_
  have l18 : w18.1.length = w.1.length + 8 := by rw [e18]; exact l17
  have s18 : pSl w18.1 = pSl w.1 + 14129 := by rw [e18]; exact s17
  have z18_0 : w18.1[a0]? = some (12, 34) := by rw [e18]; exact z17_0
  have z18_1 : w18.1[w.1.length]? = some (13, 4371) := by rw [e18]; exact z17_1
  have z18_3 : w18.1[w2.1.length]? = some (13, 4371) := by rw [e18]; exact z17_2
  have o18_0 : w18.2.2.2 a0 0 = some w.1.length := by rw [e18, o_R (Or.inr (by decide))]; exact o17_0
  have o18_1 : w18.2.2.2 a0 1 = some w2.1.length := by rw [e18, o_R (Or.inr (by decide))]; exact o17_1
  refine ok_aload_n dX12_init_85 0 rfl ?_
  refine ok_iconst (v := 1) dX12_init_86 (by decide) ?_
  obtain ⟨w19, e19, h⟩ := blE h
  refine oi_putZ (ci := 12) (k := 23) dX12_init_87 flRX12_43 rfl (Or.inl rfl) z18_0 (by decide) (Or.inr rfl) e19 ?_
  have l19 : w19.1.length = w.1.length + 8 := by rw [e19]; exact l18
  have s19 : pSl w19.1 = pSl w.1 + 14129 := by rw [e19]; exact s18
  have z19_0 : w19.1[a0]? = some (12, 34) := by rw [e19]; exact z18_0
  have z19_1 : w19.1[w.1.length]? = some (13, 4371) := by rw [e19]; exact z18_1
  have z19_2 : w19.1[w2.1.length]? = some (13, 4371) := by rw [e19]; exact z18_3
  have o19_0 : w19.2.2.2 a0 0 = some w.1.length := by rw [e19]; exact o18_0
  have o19_1 : w19.2.2.2 a0 1 = some w2.1.length := by rw [e19]; exact o18_1
  refine ok_aload_n dX12_init_90 0 rfl ?_
  refine ok_bipush (v := 114) dX12_init_91 (by decide) ?_
  obtain ⟨w20, e20, h⟩ := blE h
  refine oi_newa (kd := 13) (N := 114) dX12_init_93 rfl (Or.inl ⟨rfl, rfl⟩) wa_int (by decide) (by decide) (by decide) (b_len (mc := 16) l19 hL (by decide)) (b_c1 (mc := 16) l19 (by decide)) (b_s1 (ms := 14661) s19 (by decide)) e20 ?_
  have l20 : w20.1.length = w.1.length + 9 := ln_new e20 l19
  have s20 : pSl w20.1 = pSl w.1 + 14243 := sn_new e20 s19
  have z20_0 : w20.1[a0]? = some (12, 34) := by rw [e20]; exact z_new z19_0
  have z20_1 : w20.1[w.1.length]? = some (13, 4371) := by rw [e20]; exact z_new z19_1
  have z20_2 : w20.1[w2.1.length]? = some (13, 4371) := by rw [e20]; exact z_new z19_2
  have z20_n : w20.1[w19.1.length]? = some (13, 114) := by rw [e20]; exact z_at _ _
  have o20_0 : w20.2.2.2 a0 0 = some w.1.length := by rw [e20, o_new z19_0]; exact o19_0
  have o20_1 : w20.2.2.2 a0 1 = some w2.1.length := by rw [e20, o_new z19_0]; exact o19_1
  obtain ⟨w21, e21, h⟩ := blE h
  refine oi_putR (ci := 12) (k := 25) dX12_init_95 flRX12_47 rfl (Or.inr ⟨_, rfl⟩) (Or.inr ⟨rfl, rfl, rfl⟩) z20_0 (by decide) e21 ?_
  have l21 : w21.1.length = w.1.length + 9 := by rw [e21]; exact l20
  have s21 : pSl w21.1 = pSl w.1 + 14243 := by rw [e21]; exact s20
  have z21_0 : w21.1[a0]? = some (12, 34) := by rw [e21]; exact z20_0
  have z21_1 : w21.1[w.1.length]? = some (13, 4371) := by rw [e21]; exact z20_1
  have z21_3 : w21.1[w2.1.length]? = some (13, 4371) := by rw [e21]; exact z20_2
  have o21_0 : w21.2.2.2 a0 0 = some w.1.length := by rw [e21, o_R (Or.inr (by decide))]; exact o20_0
  have o21_1 : w21.2.2.2 a0 1 = some w2.1.length := by rw [e21, o_R (Or.inr (by decide))]; exact o20_1
  refine ok_aload_n dX12_init_98 0 rfl ?_
  refine ok_sipush (v := 289) dX12_init_99 (by decide) ?_
  obtain ⟨w22, e22, h⟩ := blE h
  refine oi_newa (kd := 13) (N := 289) dX12_init_102 rfl (Or.inl ⟨rfl, rfl⟩) wa_int (by decide) (by decide) (by decide) (b_len (mc := 16) l21 hL (by decide)) (b_c1 (mc := 16) l21 (by decide)) (b_s1 (ms := 14661) s21 (by decide)) e22 ?_
  have l22 : w22.1.length = w.1.length + 10 := ln_new e22 l21
  have s22 : pSl w22.1 = pSl w.1 + 14532 := sn_new e22 s21
  have z22_0 : w22.1[a0]? = some (12, 34) := by rw [e22]; exact z_new z21_0
  have z22_1 : w22.1[w.1.length]? = some (13, 4371) := by rw [e22]; exact z_new z21_1
  have z22_2 : w22.1[w2.1.length]? = some (13, 4371) := by rw [e22]; exact z_new z21_3
  have z22_n : w22.1[w21.1.length]? = some (13, 289) := by rw [e22]; exact z_at _ _
  have o22_0 : w22.2.2.2 a0 0 = some w.1.length := by rw [e22, o_new z21_0]; exact o21_0
  have o22_1 : w22.2.2.2 a0 1 = some w2.1.length := by rw [e22, o_new z21_0]; exact o21_1
  obtain ⟨w23, e23, h⟩ := blE h
  refine oi_putR (ci := 12) (k := 26) dX12_init_104 flRX12_50 rfl (Or.inr ⟨_, rfl⟩) (Or.inr ⟨rfl, rfl, rfl⟩) z22_0 (by decide) e23 ?_
  have l23 : w23.1.length = w.1.length + 10 := by rw [e23]; exact l22
  have s23 : pSl w23.1 = pSl w.1 + 14532 := by rw [e23]; exact s22
  have z23_0 : w23.1[a0]? = some (12, 34) := by rw [e23]; exact z22_0
  have z23_1 : w23.1[w.1.length]? = some (13, 4371) := by rw [e23]; exact z22_1
  have z23_2 : w23.1[w2.1.length]? = some (13, 4371) := by rw [e23]; exact z22_2
  have o23_0 : w23.2.2.2 a0 0 = some w.1.length := by rw [e23, o_R (Or.inr (by decide))]; exact o22_0
  have o23_1 : w23.2.2.2 a0 1 = some w2.1.length := by rw [e23, o_R (Or.inr (by decide))]; exact o22_1
  refine ok_aload_n dX12_init_107 0 rfl ?_
  refine ok_bipush (v := 16) dX12_init_108 (by decide) ?_
  obtain ⟨w24, e24, h⟩ := blE h
  refine oi_newa (kd := 13) (N := 16) dX12_init_110 rfl (Or.inl ⟨rfl, rfl⟩) wa_int (by decide) (by decide) (by decide) (b_len (mc := 16) l23 hL (by decide)) (b_c1 (mc := 16) l23 (by decide)) (b_s1 (ms := 14661) s23 (by decide)) e24 ?_
  have l24 : w24.1.length = w.1.length + 11 := ln_new e24 l23
  have s24 : pSl w24.1 = pSl w.1 + 14548 := sn_new e24 s23
  have z24_0 : w24.1[a0]? = some (12, 34) := by rw [e24]; exact z_new z23_0
  have z24_1 : w24.1[w.1.length]? = some (13, 4371) := by rw [e24]; exact z_new z23_1
  have z24_2 : w24.1[w2.1.length]? = some (13, 4371) := by rw [e24]; exact z_new z23_2
  have z24_n : w24.1[w23.1.length]? = some (13, 16) := by rw [e24]; exact z_at _ _
  have o24_0 : w24.2.2.2 a0 0 = some w.1.length := by rw [e24, o_new z23_0]; exact o23_0
  have o24_1 : w24.2.2.2 a0 1 = some w2.1.length := by rw [e24, o_new z23_0]; exact o23_1
  obtain ⟨w25, e25, h⟩ := blE h
  refine oi_putR (ci := 12) (k := 27) dX12_init_112 flRX12_53 rfl (Or.inr ⟨_, rfl⟩) (Or.inr ⟨rfl, rfl, rfl⟩) z24_0 (by decide) e25 ?_
  have l25 : w25.1.length = w.1.length + 11 := by rw [e25]; exact l24
  have s25 : pSl w25.1 = pSl w.1 + 14548 := by rw [e25]; exact s24
  have z25_0 : w25.1[a0]? = some (12, 34) := by rw [e25]; exact z24_0
  have z25_1 : w25.1[w.1.length]? = some (13, 4371) := by rw [e25]; exact z24_1
  have z25_2 : w25.1[w2.1.length]? = some (13, 4371) := by rw [e25]; exact z24_2
  have o25_0 : w25.2.2.2 a0 0 = some w.1.length := by rw [e25, o_R (Or.inr (by decide))]; exact o24_0
  have o25_1 : w25.2.2.2 a0 1 = some w2.1.length := by rw [e25, o_R (Or.inr (by decide))]; exact o24_1
  refine ok_aload_n dX12_init_115 0 rfl ?_
  refine ok_iconst (v := 5) dX12_init_116 (by decide) ?_
  obtain ⟨w26, e26, h⟩ := blE h
  refine oi_newa (kd := 13) (N := 5) dX12_init_117 rfl (Or.inl ⟨rfl, rfl⟩) wa_int (by decide) (by decide) (by decide) (b_len (mc := 16) l25 hL (by decide)) (b_c1 (mc := 16) l25 (by decide)) (b_s1 (ms := 14661) s25 (by decide)) e26 ?_
  have l26 : w26.1.length = w.1.length + 12 := ln_new e26 l25
  have s26 : pSl w26.1 = pSl w.1 + 14553 := sn_new e26 s25
  have z26_0 : w26.1[a0]? = some (12, 34) := by rw [e26]; exact z_new z25_0
  have z26_1 : w26.1[w.1.length]? = some (13, 4371) := by rw [e26]; exact z_new z25_1
  have z26_2 : w26.1[w2.1.length]? = some (13, 4371) := by rw [e26]; exact z_new z25_2
  have z26_n : w26.1[w25.1.length]? = some (13, 5) := by rw [e26]; exact z_at _ _
  have o26_0 : w26.2.2.2 a0 0 = some w.1.length := by rw [e26, o_new z25_0]; exact o25_0
  have o26_1 : w26.2.2.2 a0 1 = some w2.1.length := by rw [e26, o_new z25_0]; exact o25_1
  obtain ⟨w27, e27, h⟩ := blE h
  refine oi_putR (ci := 12) (k := 28) dX12_init_119 flRX12_56 rfl (Or.inr ⟨_, rfl⟩) (Or.inr ⟨rfl, rfl, rfl⟩) z26_0 (by decide) e27 ?_
  have l27 : w27.1.length = w.1.length + 12 := by rw [e27]; exact l26
  have s27 : pSl w27.1 = pSl w.1 + 14553 := by rw [e27]; exact s26
  have z27_0 : w27.1[a0]? = some (12, 34) := by rw [e27]; exact z26_0
  have z27_1 : w27.1[w.1.length]? = some (13, 4371) := by rw [e27]; exact z26_1
  have z27_2 : w27.1[w2.1.length]? = some (13, 4371) := by rw [e27]; exact z26_2
  have o27_0 : w27.2.2.2 a0 0 = some w.1.length := by rw [e27, o_R (Or.inr (by decide))]; exact o26_0
  have o27_1 : w27.2.2.2 a0 1 = some w2.1.length := by rw [e27, o_R (Or.inr (by decide))]; exact o26_1
  refine ok_aload_n dX12_init_122 0 rfl ?_
  refine ok_iconst (v := 5) dX12_init_123 (by decide) ?_
  obtain ⟨w28, e28, h⟩ := blE h
  refine oi_newa (kd := 13) (N := 5) dX12_init_124 rfl (Or.inl ⟨rfl, rfl⟩) wa_int (by decide) (by decide) (by decide) (b_len (mc := 16) l27 hL (by decide)) (b_c1 (mc := 16) l27 (by decide)) (b_s1 (ms := 14661) s27 (by decide)) e28 ?_
  have l28 : w28.1.length = w.1.length + 13 := ln_new e28 l27
  have s28 : pSl w28.1 = pSl w.1 + 14558 := sn_new e28 s27
  have z28_0 : w28.1[a0]? = some (12, 34) := by rw [e28]; exact z_new z27_0
  have z28_1 : w28.1[w.1.length]? = some (13, 4371) := by rw [e28]; exact z_new z27_1
  have z28_2 : w28.1[w2.1.length]? = some (13, 4371) := by rw [e28]; exact z_new z27_2
  have z28_n : w28.1[w27.1.length]? = some (13, 5) := by rw [e28]; exact z_at _ _
  have o28_0 : w28.2.2.2 a0 0 = some w.1.length := by rw [e28, o_new z27_0]; exact o27_0
  have o28_1 : w28.2.2.2 a0 1 = some w2.1.length := by rw [e28, o_new z27_0]; exact o27_1
  obtain ⟨w29, e29, h⟩ := blE h
  refine oi_putR (ci := 12) (k := 29) dX12_init_126 flRX12_59 rfl (Or.inr ⟨_, rfl⟩) (Or.inr ⟨rfl, rfl, rfl⟩) z28_0 (by decide) e29 ?_
  have l29 : w29.1.length = w.1.length + 13 := by rw [e29]; exact l28
  have s29 : pSl w29.1 = pSl w.1 + 14558 := by rw [e29]; exact s28
  have z29_0 : w29.1[a0]? = some (12, 34) := by rw [e29]; exact z28_0
  have z29_1 : w29.1[w.1.length]? = some (13, 4371) := by rw [e29]; exact z28_1
  have z29_2 : w29.1[w2.1.length]? = some (13, 4371) := by rw [e29]; exact z28_2
  have o29_0 : w29.2.2.2 a0 0 = some w.1.length := by rw [e29, o_R (Or.inr (by decide))]; exact o28_0
  have o29_1 : w29.2.2.2 a0 1 = some w2.1.length := by rw [e29, o_R (Or.inr (by decide))]; exact o28_1
  refine ok_aload_n dX12_init_129 0 rfl ?_
  refine ok_bipush (v := 80) dX12_init_130 (by decide) ?_
  obtain ⟨w30, e30, h⟩ := blE h
  refine oi_newa (kd := 13) (N := 80) dX12_init_132 rfl (Or.inl ⟨rfl, rfl⟩) wa_int (by decide) (by decide) (by decide) (b_len (mc := 16) l29 hL (by decide)) (b_c1 (mc := 16) l29 (by decide)) (b_s1 (ms := 14661) s29 (by decide)) e30 ?_
  have l30 : w30.1.length = w.1.length + 14 := ln_new e30 l29
  have s30 : pSl w30.1 = pSl w.1 + 14638 := sn_new e30 s29
  have z30_0 : w30.1[a0]? = some (12, 34) := by rw [e30]; exact z_new z29_0
  have z30_1 : w30.1[w.1.length]? = some (13, 4371) := by rw [e30]; exact z_new z29_1
  have z30_2 : w30.1[w2.1.length]? = some (13, 4371) := by rw [e30]; exact z_new z29_2
  have z30_n : w30.1[w29.1.length]? = some (13, 80) := by rw [e30]; exact z_at _ _
  have o30_0 : w30.2.2.2 a0 0 = some w.1.length := by rw [e30, o_new z29_0]; exact o29_0
  have o30_1 : w30.2.2.2 a0 1 = some w2.1.length := by rw [e30, o_new z29_0]; exact o29_1
  obtain ⟨w31, e31, h⟩ := blE h
  refine oi_putR (ci := 12) (k := 30) dX12_init_134 flRX12_62 rfl (Or.inr ⟨_, rfl⟩) (Or.inr ⟨rfl, rfl, rfl⟩) z30_0 (by decide) e31 ?_
  have l31 : w31.1.length = w.1.length + 14 := by rw [e31]; exact l30
  have s31 : pSl w31.1 = pSl w.1 + 14638 := by rw [e31]; exact s30
  have z31_0 : w31.1[a0]? = some (12, 34) := by rw [e31]; exact z30_0
  have z31_1 : w31.1[w.1.length]? = some (13, 4371) := by rw [e31]; exact z30_1
  have z31_2 : w31.1[w2.1.length]? = some (13, 4371) := by rw [e31]; exact z30_2
  have o31_0 : w31.2.2.2 a0 0 = some w.1.length := by rw [e31, o_R (Or.inr (by decide))]; exact o30_0
  have o31_1 : w31.2.2.2 a0 1 = some w2.1.length := by rw [e31, o_R (Or.inr (by decide))]; exact o30_1
  refine ok_aload_n dX12_init_137 0 rfl ?_
  refine ok_bipush (v := 6) dX12_init_138 (by decide) ?_
  obtain ⟨w32, e32, h⟩ := blE h
  refine oi_newa (kd := 13) (N := 6) dX12_init_140 rfl (Or.inl ⟨rfl, rfl⟩) wa_int (by decide) (by decide) (by decide) (b_len (mc := 16) l31 hL (by decide)) (b_c1 (mc := 16) l31 (by decide)) (b_s1 (ms := 14661) s31 (by decide)) e32 ?_
  have l32 : w32.1.length = w.1.length + 15 := ln_new e32 l31
  have s32 : pSl w32.1 = pSl w.1 + 14644 := sn_new e32 s31
  have z32_0 : w32.1[a0]? = some (12, 34) := by rw [e32]; exact z_new z31_0
  have z32_1 : w32.1[w.1.length]? = some (13, 4371) := by rw [e32]; exact z_new z31_1
  have z32_2 : w32.1[w2.1.length]? = some (13, 4371) := by rw [e32]; exact z_new z31_2
  have z32_n : w32.1[w31.1.length]? = some (13, 6) := by rw [e32]; exact z_at _ _
  have o32_0 : w32.2.2.2 a0 0 = some w.1.length := by rw [e32, o_new z31_0]; exact o31_0
  have o32_1 : w32.2.2.2 a0 1 = some w2.1.length := by rw [e32, o_new z31_0]; exact o31_1
  obtain ⟨w33, e33, h⟩ := blE h
  refine oi_putR (ci := 12) (k := 32) dX12_init_142 flRX12_65 rfl (Or.inr ⟨_, rfl⟩) (Or.inr ⟨rfl, rfl, rfl⟩) z32_0 (by decide) e33 ?_
  have l33 : w33.1.length = w.1.length + 15 := by rw [e33]; exact l32
  have s33 : pSl w33.1 = pSl w.1 + 14644 := by rw [e33]; exact s32
  have z33_0 : w33.1[a0]? = some (12, 34) := by rw [e33]; exact z32_0
  have z33_1 : w33.1[w.1.length]? = some (13, 4371) := by rw [e33]; exact z32_1
  have z33_2 : w33.1[w2.1.length]? = some (13, 4371) := by rw [e33]; exact z32_2
  have o33_0 : w33.2.2.2 a0 0 = some w.1.length := by rw [e33, o_R (Or.inr (by decide))]; exact o32_0
  have o33_1 : w33.2.2.2 a0 1 = some w2.1.length := by rw [e33, o_R (Or.inr (by decide))]; exact o32_1
  refine ok_aload_n dX12_init_145 0 rfl ?_
  refine ok_bipush (v := 17) dX12_init_146 (by decide) ?_
  obtain ⟨w34, e34, h⟩ := blE h
  refine oi_newa (kd := 14) (N := 17) dX12_init_148 rfl (Or.inr (Or.inl ⟨rfl, rfl⟩)) wa_long (by decide) (by decide) (by decide) (b_len (mc := 16) l33 hL (by decide)) (b_c1 (mc := 16) l33 (by decide)) (b_s1 (ms := 14661) s33 (by decide)) e34 ?_
  have l34 : w34.1.length = w.1.length + 16 := ln_new e34 l33
  have s34 : pSl w34.1 = pSl w.1 + 14661 := sn_new e34 s33
  have z34_0 : w34.1[a0]? = some (12, 34) := by rw [e34]; exact z_new z33_0
  have z34_1 : w34.1[w.1.length]? = some (13, 4371) := by rw [e34]; exact z_new z33_1
  have z34_2 : w34.1[w2.1.length]? = some (13, 4371) := by rw [e34]; exact z_new z33_2
  have z34_n : w34.1[w33.1.length]? = some (14, 17) := by rw [e34]; exact z_at _ _
  have o34_0 : w34.2.2.2 a0 0 = some w.1.length := by rw [e34, o_new z33_0]; exact o33_0
  have o34_1 : w34.2.2.2 a0 1 = some w2.1.length := by rw [e34, o_new z33_0]; exact o33_1
  obtain ⟨w35, e35, h⟩ := blE h
  refine oi_putR (ci := 12) (k := 33) dX12_init_150 flRX12_68 rfl (Or.inr ⟨_, rfl⟩) (Or.inr ⟨rfl, rfl, rfl⟩) z34_0 (by decide) e35 ?_
  have l35 : w35.1.length = w.1.length + 16 := by rw [e35]; exact l34
  have s35 : pSl w35.1 = pSl w.1 + 14661 := by rw [e35]; exact s34
  have z35_0 : w35.1[a0]? = some (12, 34) := by rw [e35]; exact z34_0
  have z35_1 : w35.1[w.1.length]? = some (13, 4371) := by rw [e35]; exact z34_1
  have z35_2 : w35.1[w2.1.length]? = some (13, 4371) := by rw [e35]; exact z34_2
  have o35_0 : w35.2.2.2 a0 0 = some w.1.length := by rw [e35, o_R (Or.inr (by decide))]; exact o34_0
  have o35_1 : w35.2.2.2 a0 1 = some w2.1.length := by rw [e35, o_R (Or.inr (by decide))]; exact o34_1
  refine ok_aload_n dX12_init_153 0 rfl ?_
  refine oi_getR (ci := 12) (k := 0) dX12_init_154 flRX12_7 rfl z35_0 (by decide) o35_0 ?_
  refine ok_bipush (v := 8) dX12_init_157 (by decide) ?_
  refine ok_sipush (v := 269) dX12_init_159 (by decide) ?_
  obtain ⟨w36, e36, h⟩ := blE h
  refine oi_iast (N := 8) dX12_init_162 z35_1 (by unfold vp_in; decide) (by decide) e36 ?_
  have l36 : w36.1.length = w.1.length + 16 := by rw [e36]; exact l35
  have s36 : pSl w36.1 = pSl w.1 + 14661 := by rw [e36]; exact s35
  have z36_0 : w36.1[a0]? = some (12, 34) := by rw [e36]; exact z35_0
  have z36_1 : w36.1[w.1.length]? = some (13, 4371) := by rw [e36]; exact z35_1
  have z36_2 : w36.1[w2.1.length]? = some (13, 4371) := by rw [e36]; exact z35_2
  have o36_0 : w36.2.2.2 a0 0 = some w.1.length := by rw [e36]; exact o35_0
  have o36_1 : w36.2.2.2 a0 1 = some w2.1.length := by rw [e36]; exact o35_1
  refine ok_aload_n dX12_init_163 0 rfl ?_
  refine oi_getR (ci := 12) (k := 0) dX12_init_164 flRX12_7 rfl z36_0 (by decide) o36_0 ?_
  refine ok_iconst (v := 3) dX12_init_167 (by decide) ?_
  refine ok_iconst (v := (-1)) dX12_init_168 (by decide) ?_
  obtain ⟨w37, e37, h⟩ := blE h
  refine oi_iast (N := 3) dX12_init_169 z36_1 (by unfold vp_in; decide) (by decide) e37 ?_
  have l37 : w37.1.length = w.1.length + 16 := by rw [e37]; exact l36
  have s37 : pSl w37.1 = pSl w.1 + 14661 := by rw [e37]; exact s36
  have z37_0 : w37.1[a0]? = some (12, 34) := by rw [e37]; exact z36_0
  have z37_1 : w37.1[w.1.length]? = some (13, 4371) := by rw [e37]; exact z36_1
  have z37_2 : w37.1[w2.1.length]? = some (13, 4371) := by rw [e37]; exact z36_2
  have o37_0 : w37.2.2.2 a0 0 = some w.1.length := by rw [e37]; exact o36_0
  have o37_1 : w37.2.2.2 a0 1 = some w2.1.length := by rw [e37]; exact o36_1
  refine ok_aload_n dX12_init_170 0 rfl ?_
  refine oi_getR (ci := 12) (k := 0) dX12_init_171 flRX12_7 rfl z37_0 (by decide) o37_0 ?_
  refine ok_aload_n dX12_init_174 0 rfl ?_
  refine oi_getR (ci := 12) (k := 1) dX12_init_175 flRX12_13 rfl z37_0 (by decide) o37_1 ?_
  subst h
  have r1 : rO w37.2.2.2 a0 0 = w.1.length := by unfold rO; rw [o37_0]; rfl
  have r2 : rO w37.2.2.2 a0 1 = w2.1.length := by unfold rO; rw [o37_1]; rfl
  rw [r1, r2] at hc
  refine ok_callS (d := (d + 0 + 2)) (mt := m12_copy) (mc := 0) (ms := 0) (As := [.ref w.1.length, .ref w2.1.length]) (r := []) dX12_init_178 mo12_copy mv12_copy lkRX12_71 rfl rfl (Nat.le_of_ble_eq_true rfl) (dep_le d (by decide)) (b_cm (mc := 16) l37 (by decide)) (b_cm (mc := 14661) s37 (by decide)) (pRt_mono ?_)
  refine k12_copy (Z := w37.1) (I := w37.2.1) (L := w37.2.2.1) (O := w37.2.2.2) (d + 0) hW z37_1 z37_2 hc ?_
  intro _
  show Ok g _ Qx 181 [(0, .ref a0)] [] (w37.1, I2, w37.2.2.1, w37.2.2.2)
  exact ok_vret dX12_init_181 hQ
theorem ki12_init {g : pG} {Q : Option Value → pW → Prop} {w wf : pW} {n : Nat} {I2 : (Nat → Nat → Int32)} {a0 : Nat} (d : Nat) (hz0 : w.1[a0]? = some (12, 34)) (hL : w.1.length + 16 ≤ 1000) (h : i12_pre a0 w = wf) (hW : WT wf.1 wf.2.2.2) (hc : f12_copy n wf.2.1 (rO wf.2.2.2 a0 0) (rO wf.2.2.2 a0 1) = some I2) (hQ : Q none (wf.1, I2, wf.2.2.1, wf.2.2.2)) : CT g (d + 3) m12_init 16 14661 [.ref a0] w Q :=
  ct_of_ok (mt := m12_init) (ini := true) mo12_init.2.2.2.2 (fun _ => rfl) (Nat.le_of_ble_eq_true rfl) (oi12_init d hz0 hL h hW hc ⟨trivial, hQ, (F12_pre h).1, (F12_pre h).2.1⟩)
