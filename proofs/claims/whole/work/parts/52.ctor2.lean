theorem lkRX7_3 : Cond.methodLink RX7 3 objectInit ∈ lw_tbl := tb_i 295 (by decide +kernel)
theorem dX7_init_0 : decode cX7_init 0 = .ok (.aload_n 0, 1) := by decide +kernel
theorem dX7_init_1 : decode cX7_init 1 = .ok (.invokespecial 3, 3) := by decide +kernel
theorem dX7_init_4 : decode cX7_init 4 = .ok (.aload_n 0, 1) := by decide +kernel
theorem dX7_init_5 : decode cX7_init 5 = .ok (.sipush 300, 3) := by decide +kernel
theorem dX7_init_8 : decode cX7_init 8 = .ok (.newarray .int, 2) := by decide +kernel
theorem dX7_init_10 : decode cX7_init 10 = .ok (.putfield 9, 3) := by decide +kernel
theorem dX7_init_13 : decode cX7_init 13 = .ok (.aload_n 0, 1) := by decide +kernel
theorem dX7_init_14 : decode cX7_init 14 = .ok (.bipush 24, 2) := by decide +kernel
theorem dX7_init_16 : decode cX7_init 16 = .ok (.newarray .int, 2) := by decide +kernel
theorem dX7_init_18 : decode cX7_init 18 = .ok (.putfield 15, 3) := by decide +kernel
theorem dX7_init_21 : decode cX7_init 21 = .ok (.aload_n 0, 1) := by decide +kernel
theorem dX7_init_22 : decode cX7_init 22 = .ok (.bipush 24, 2) := by decide +kernel
theorem dX7_init_24 : decode cX7_init 24 = .ok (.newarray .int, 2) := by decide +kernel
theorem dX7_init_26 : decode cX7_init 26 = .ok (.putfield 18, 3) := by decide +kernel
theorem dX7_init_29 : decode cX7_init 29 = .ok (.aload_n 0, 1) := by decide +kernel
theorem dX7_init_30 : decode cX7_init 30 = .ok (.bipush 24, 2) := by decide +kernel
theorem dX7_init_32 : decode cX7_init 32 = .ok (.newarray .int, 2) := by decide +kernel
theorem dX7_init_34 : decode cX7_init 34 = .ok (.putfield 21, 3) := by decide +kernel
theorem dX7_init_37 : decode cX7_init 37 = .ok (.aload_n 0, 1) := by decide +kernel
theorem dX7_init_38 : decode cX7_init 38 = .ok (.iconst 3, 1) := by decide +kernel
theorem dX7_init_39 : decode cX7_init 39 = .ok (.newarray .int, 2) := by decide +kernel
theorem dX7_init_41 : decode cX7_init 41 = .ok (.putfield 24, 3) := by decide +kernel
theorem dX7_init_44 : decode cX7_init 44 = .ok (.return_, 1) := by decide +kernel
def m7_init : pMT := (yX7_init, cX7_init, 1, none)
theorem mo7_init : mOK m7_init 0 := ⟨tb_i 294 (by decide +kernel), wi_RX7, ⟨wn_RX7.1, wn_RX7.2, by decide +kernel⟩, by decide, plainFor_of_name wp_RX7⟩
theorem mv7_init : mI m7_init := ⟨tb_i 293 (by decide +kernel), rfl, rfl⟩
def i7_init (a0 : Nat) (w : pW) : pW := bl (pNew w (13, 300)) fun w1 => bl (wR w1 a0 0 w.1.length) fun w2 => bl (pNew w2 (13, 24)) fun w3 => bl (wR w3 a0 1 w2.1.length) fun w4 => bl (pNew w4 (13, 24)) fun w5 => bl (wR w5 a0 2 w4.1.length) fun w6 => bl (pNew w6 (13, 24)) fun w7 => bl (wR w7 a0 3 w6.1.length) fun w8 => bl (pNew w8 (13, 3)) fun w9 => bl (wR w9 a0 4 w8.1.length) fun w10 => w10
set_option maxHeartbeats 4000000 in
set_option maxRecDepth 20000 in
theorem F7_init {a0 : Nat} {w wf : pW} (h : i7_init a0 w = wf) : wf.1.length = w.1.length + 5 ∧ pSl wf.1 = pSl w.1 + 375 ∧ (∀ (c : Nat) (q : Nat × Nat), w.1[c]? = some q → wf.1[c]? = some q) ∧ ∀ (c k : Nat) (q : Nat × Nat), w.1[c]? = some q → c ≠ a0 → wf.2.2.2 c k = w.2.2.2 c k := by
  unfold i7_init at h
  have P0 : (w.1.length = w.1.length + 0 ∧ pSl w.1 = pSl w.1 + 0) ∧ (∀ (c : Nat) (q : Nat × Nat), w.1[c]? = some q → w.1[c]? = some q) ∧ ∀ (c k : Nat) (q : Nat × Nat), w.1[c]? = some q → c ≠ a0 → w.2.2.2 c k = w.2.2.2 c k := ⟨⟨rfl, rfl⟩, fun _ _ h => h, fun _ _ _ _ _ => rfl⟩
  obtain ⟨w1, e1, h⟩ := blE h
  have P1 : (w1.1.length = w.1.length + 1 ∧ pSl w1.1 = pSl w.1 + 300) ∧ (∀ (c : Nat) (q : Nat × Nat), w.1[c]? = some q → w1.1[c]? = some q) ∧ ∀ (c k : Nat) (q : Nat × Nat), w.1[c]? = some q → c ≠ a0 → w1.2.2.2 c k = w.2.2.2 c k := pf_new P0 e1
  obtain ⟨w2, e2, h⟩ := blE h
  have P2 : (w2.1.length = w.1.length + 1 ∧ pSl w2.1 = pSl w.1 + 300) ∧ (∀ (c : Nat) (q : Nat × Nat), w.1[c]? = some q → w2.1[c]? = some q) ∧ ∀ (c k : Nat) (q : Nat × Nat), w.1[c]? = some q → c ≠ a0 → w2.2.2.2 c k = w.2.2.2 c k := pf_R P1 e2 (fun c q hc => Or.inl rfl)
  obtain ⟨w3, e3, h⟩ := blE h
  have P3 : (w3.1.length = w.1.length + 2 ∧ pSl w3.1 = pSl w.1 + 324) ∧ (∀ (c : Nat) (q : Nat × Nat), w.1[c]? = some q → w3.1[c]? = some q) ∧ ∀ (c k : Nat) (q : Nat × Nat), w.1[c]? = some q → c ≠ a0 → w3.2.2.2 c k = w.2.2.2 c k := pf_new P2 e3
  obtain ⟨w4, e4, h⟩ := blE h
  have P4 : (w4.1.length = w.1.length + 2 ∧ pSl w4.1 = pSl w.1 + 324) ∧ (∀ (c : Nat) (q : Nat × Nat), w.1[c]? = some q → w4.1[c]? = some q) ∧ ∀ (c k : Nat) (q : Nat × Nat), w.1[c]? = some q → c ≠ a0 → w4.2.2.2 c k = w.2.2.2 c k := pf_R P3 e4 (fun c q hc => Or.inl rfl)
  obtain ⟨w5, e5, h⟩ := blE h
  have P5 : (w5.1.length = w.1.length + 3 ∧ pSl w5.1 = pSl w.1 + 348) ∧ (∀ (c : Nat) (q : Nat × Nat), w.1[c]? = some q → w5.1[c]? = some q) ∧ ∀ (c k : Nat) (q : Nat × Nat), w.1[c]? = some q → c ≠ a0 → w5.2.2.2 c k = w.2.2.2 c k := pf_new P4 e5
  obtain ⟨w6, e6, h⟩ := blE h
  have P6 : (w6.1.length = w.1.length + 3 ∧ pSl w6.1 = pSl w.1 + 348) ∧ (∀ (c : Nat) (q : Nat × Nat), w.1[c]? = some q → w6.1[c]? = some q) ∧ ∀ (c k : Nat) (q : Nat × Nat), w.1[c]? = some q → c ≠ a0 → w6.2.2.2 c k = w.2.2.2 c k := pf_R P5 e6 (fun c q hc => Or.inl rfl)
  obtain ⟨w7, e7, h⟩ := blE h
  have P7 : (w7.1.length = w.1.length + 4 ∧ pSl w7.1 = pSl w.1 + 372) ∧ (∀ (c : Nat) (q : Nat × Nat), w.1[c]? = some q → w7.1[c]? = some q) ∧ ∀ (c k : Nat) (q : Nat × Nat), w.1[c]? = some q → c ≠ a0 → w7.2.2.2 c k = w.2.2.2 c k := pf_new P6 e7
  obtain ⟨w8, e8, h⟩ := blE h
  have P8 : (w8.1.length = w.1.length + 4 ∧ pSl w8.1 = pSl w.1 + 372) ∧ (∀ (c : Nat) (q : Nat × Nat), w.1[c]? = some q → w8.1[c]? = some q) ∧ ∀ (c k : Nat) (q : Nat × Nat), w.1[c]? = some q → c ≠ a0 → w8.2.2.2 c k = w.2.2.2 c k := pf_R P7 e8 (fun c q hc => Or.inl rfl)
  obtain ⟨w9, e9, h⟩ := blE h
  have P9 : (w9.1.length = w.1.length + 5 ∧ pSl w9.1 = pSl w.1 + 375) ∧ (∀ (c : Nat) (q : Nat × Nat), w.1[c]? = some q → w9.1[c]? = some q) ∧ ∀ (c k : Nat) (q : Nat × Nat), w.1[c]? = some q → c ≠ a0 → w9.2.2.2 c k = w.2.2.2 c k := pf_new P8 e9
  obtain ⟨w10, e10, h⟩ := blE h
  have P10 : (w10.1.length = w.1.length + 5 ∧ pSl w10.1 = pSl w.1 + 375) ∧ (∀ (c : Nat) (q : Nat × Nat), w.1[c]? = some q → w10.1[c]? = some q) ∧ ∀ (c k : Nat) (q : Nat × Nat), w.1[c]? = some q → c ≠ a0 → w10.2.2.2 c k = w.2.2.2 c k := pf_R P9 e10 (fun c q hc => Or.inl rfl)
  subst h
  exact ⟨P10.1.1, P10.1.2, P10.2⟩
set_option maxHeartbeats 4000000 in
set_option maxRecDepth 20000 in
theorem oi7_init {g : pG} {Qx : Option Value → pW → Prop} {w wf : pW} {a0 : Nat} (d : Nat) (hz0 : w.1[a0]? = some (7, 7)) (hL : w.1.length + 5 ≤ 1000) (h : i7_init a0 w = wf) (hQ : Qx none wf) : Ok g (d + 2, RX7, cX7_init, 1, true, 5, 375, w.1.length, pSl w.1) Qx 0 [(0, .ref a0)] [] w := by
  unfold i7_init at h
  have l0 : w.1.length = w.1.length + 0 := rfl
  have s0 : pSl w.1 = pSl w.1 + 0 := rfl
  refine ok_aload_n dX7_init_0 0 rfl ?_
  refine ok_oinit dX7_init_1 lkRX7_3 (Nat.le_of_ble_eq_true rfl) (by show 1 ≤ d + _; omega) ?_
  refine ok_aload_n dX7_init_4 0 rfl ?_
  refine ok_sipush (v := 300) dX7_init_5 (by decide) ?_
  obtain ⟨w1, e1, h⟩ := blE h
  refine oi_newa (kd := 13) (N := 300) dX7_init_8 rfl (Or.inl ⟨rfl, rfl⟩) wa_int (by decide) (by decide) (by decide) (b_len (mc := 5) l0 hL (by decide)) (b_c1 (mc := 5) l0 (by decide)) (b_s1 (ms := 375) s0 (by decide)) e1 ?_
  have l1 : w1.1.length = w.1.length + 1 := ln_new e1 l0
  have s1 : pSl w1.1 = pSl w.1 + 300 := sn_new e1 s0
  have z1_0 : w1.1[a0]? = some (7, 7) := by rw [e1]; exact z_new hz0
  have z1_n : w1.1[w.1.length]? = some (13, 300) := by rw [e1]; exact z_at _ _
  obtain ⟨w2, e2, h⟩ := blE h
  refine oi_putR (ci := 7) (k := 0) dX7_init_10 flRX7_9 rfl (Or.inr ⟨_, rfl⟩) (Or.inr ⟨rfl, rfl, rfl⟩) z1_0 (by decide) e2 ?_
  have l2 : w2.1.length = w.1.length + 1 := by rw [e2]; exact l1
  have s2 : pSl w2.1 = pSl w.1 + 300 := by rw [e2]; exact s1
  have z2_0 : w2.1[a0]? = some (7, 7) := by rw [e2]; exact z1_0
  refine ok_aload_n dX7_init_13 0 rfl ?_
  refine ok_bipush (v := 24) dX7_init_14 (by decide) ?_
  obtain ⟨w3, e3, h⟩ := blE h
  refine oi_newa (kd := 13) (N := 24) dX7_init_16 rfl (Or.inl ⟨rfl, rfl⟩) wa_int (by decide) (by decide) (by decide) (b_len (mc := 5) l2 hL (by decide)) (b_c1 (mc := 5) l2 (by decide)) (b_s1 (ms := 375) s2 (by decide)) e3 ?_
  have l3 : w3.1.length = w.1.length + 2 := ln_new e3 l2
  have s3 : pSl w3.1 = pSl w.1 + 324 := sn_new e3 s2
  have z3_0 : w3.1[a0]? = some (7, 7) := by rw [e3]; exact z_new z2_0
  have z3_n : w3.1[w2.1.length]? = some (13, 24) := by rw [e3]; exact z_at _ _
  obtain ⟨w4, e4, h⟩ := blE h
  refine oi_putR (ci := 7) (k := 1) dX7_init_18 flRX7_15 rfl (Or.inr ⟨_, rfl⟩) (Or.inr ⟨rfl, rfl, rfl⟩) z3_0 (by decide) e4 ?_
  have l4 : w4.1.length = w.1.length + 2 := by rw [e4]; exact l3
  have s4 : pSl w4.1 = pSl w.1 + 324 := by rw [e4]; exact s3
  have z4_0 : w4.1[a0]? = some (7, 7) := by rw [e4]; exact z3_0
  refine ok_aload_n dX7_init_21 0 rfl ?_
  refine ok_bipush (v := 24) dX7_init_22 (by decide) ?_
  obtain ⟨w5, e5, h⟩ := blE h
  refine oi_newa (kd := 13) (N := 24) dX7_init_24 rfl (Or.inl ⟨rfl, rfl⟩) wa_int (by decide) (by decide) (by decide) (b_len (mc := 5) l4 hL (by decide)) (b_c1 (mc := 5) l4 (by decide)) (b_s1 (ms := 375) s4 (by decide)) e5 ?_
  have l5 : w5.1.length = w.1.length + 3 := ln_new e5 l4
  have s5 : pSl w5.1 = pSl w.1 + 348 := sn_new e5 s4
  have z5_0 : w5.1[a0]? = some (7, 7) := by rw [e5]; exact z_new z4_0
  have z5_n : w5.1[w4.1.length]? = some (13, 24) := by rw [e5]; exact z_at _ _
  obtain ⟨w6, e6, h⟩ := blE h
  refine oi_putR (ci := 7) (k := 2) dX7_init_26 flRX7_18 rfl (Or.inr ⟨_, rfl⟩) (Or.inr ⟨rfl, rfl, rfl⟩) z5_0 (by decide) e6 ?_
  have l6 : w6.1.length = w.1.length + 3 := by rw [e6]; exact l5
  have s6 : pSl w6.1 = pSl w.1 + 348 := by rw [e6]; exact s5
  have z6_0 : w6.1[a0]? = some (7, 7) := by rw [e6]; exact z5_0
  refine ok_aload_n dX7_init_29 0 rfl ?_
  refine ok_bipush (v := 24) dX7_init_30 (by decide) ?_
  obtain ⟨w7, e7, h⟩ := blE h
  refine oi_newa (kd := 13) (N := 24) dX7_init_32 rfl (Or.inl ⟨rfl, rfl⟩) wa_int (by decide) (by decide) (by decide) (b_len (mc := 5) l6 hL (by decide)) (b_c1 (mc := 5) l6 (by decide)) (b_s1 (ms := 375) s6 (by decide)) e7 ?_
  have l7 : w7.1.length = w.1.length + 4 := ln_new e7 l6
  have s7 : pSl w7.1 = pSl w.1 + 372 := sn_new e7 s6
  have z7_0 : w7.1[a0]? = some (7, 7) := by rw [e7]; exact z_new z6_0
  have z7_n : w7.1[w6.1.length]? = some (13, 24) := by rw [e7]; exact z_at _ _
  obtain ⟨w8, e8, h⟩ := blE h
  refine oi_putR (ci := 7) (k := 3) dX7_init_34 flRX7_21 rfl (Or.inr ⟨_, rfl⟩) (Or.inr ⟨rfl, rfl, rfl⟩) z7_0 (by decide) e8 ?_
  have l8 : w8.1.length = w.1.length + 4 := by rw [e8]; exact l7
  have s8 : pSl w8.1 = pSl w.1 + 372 := by rw [e8]; exact s7
  have z8_0 : w8.1[a0]? = some (7, 7) := by rw [e8]; exact z7_0
  refine ok_aload_n dX7_init_37 0 rfl ?_
  refine ok_iconst (v := 3) dX7_init_38 (by decide) ?_
  obtain ⟨w9, e9, h⟩ := blE h
  refine oi_newa (kd := 13) (N := 3) dX7_init_39 rfl (Or.inl ⟨rfl, rfl⟩) wa_int (by decide) (by decide) (by decide) (b_len (mc := 5) l8 hL (by decide)) (b_c1 (mc := 5) l8 (by decide)) (b_s1 (ms := 375) s8 (by decide)) e9 ?_
  have l9 : w9.1.length = w.1.length + 5 := ln_new e9 l8
  have s9 : pSl w9.1 = pSl w.1 + 375 := sn_new e9 s8
  have z9_0 : w9.1[a0]? = some (7, 7) := by rw [e9]; exact z_new z8_0
  have z9_n : w9.1[w8.1.length]? = some (13, 3) := by rw [e9]; exact z_at _ _
  obtain ⟨w10, e10, h⟩ := blE h
  refine oi_putR (ci := 7) (k := 4) dX7_init_41 flRX7_24 rfl (Or.inr ⟨_, rfl⟩) (Or.inr ⟨rfl, rfl, rfl⟩) z9_0 (by decide) e10 ?_
  have l10 : w10.1.length = w.1.length + 5 := by rw [e10]; exact l9
  have s10 : pSl w10.1 = pSl w.1 + 375 := by rw [e10]; exact s9
  have z10_0 : w10.1[a0]? = some (7, 7) := by rw [e10]; exact z9_0
  subst h
  exact ok_vret dX7_init_44 hQ
theorem ki7_init {g : pG} {Q : Option Value → pW → Prop} {w wf : pW} {a0 : Nat} (d : Nat) (hz0 : w.1[a0]? = some (7, 7)) (hL : w.1.length + 5 ≤ 1000) (h : i7_init a0 w = wf) (hQ : Q none wf) : CT g (d + 2) m7_init 5 375 [.ref a0] w Q :=
  ct_of_ok (mt := m7_init) (ini := true) mo7_init.2.2.2.2 (fun _ => rfl) (Nat.le_of_ble_eq_true rfl) (oi7_init d hz0 hL h ⟨trivial, hQ, (F7_init h).1, (F7_init h).2.1⟩)
theorem lkRX8_3 : Cond.methodLink RX8 3 objectInit ∈ lw_tbl := tb_i 177 (by decide +kernel)
theorem dX8_init_0 : decode cX8_init 0 = .ok (.aload_n 0, 1) := by decide +kernel
theorem dX8_init_1 : decode cX8_init 1 = .ok (.invokespecial 3, 3) := by decide +kernel
theorem dX8_init_4 : decode cX8_init 4 = .ok (.aload_n 0, 1) := by decide +kernel
theorem dX8_init_5 : decode cX8_init 5 = .ok (.sipush 300, 3) := by decide +kernel
theorem dX8_init_8 : decode cX8_init 8 = .ok (.newarray .int, 2) := by decide +kernel
theorem dX8_init_10 : decode cX8_init 10 = .ok (.putfield 9, 3) := by decide +kernel
theorem dX8_init_13 : decode cX8_init 13 = .ok (.aload_n 0, 1) := by decide +kernel
theorem dX8_init_14 : decode cX8_init 14 = .ok (.sipush 301, 3) := by decide +kernel
theorem dX8_init_17 : decode cX8_init 17 = .ok (.newarray .int, 2) := by decide +kernel
theorem dX8_init_19 : decode cX8_init 19 = .ok (.putfield 15, 3) := by decide +kernel
theorem dX8_init_22 : decode cX8_init 22 = .ok (.aload_n 0, 1) := by decide +kernel
theorem dX8_init_23 : decode cX8_init 23 = .ok (.sipush 301, 3) := by decide +kernel
theorem dX8_init_26 : decode cX8_init 26 = .ok (.newarray .int, 2) := by decide +kernel
theorem dX8_init_28 : decode cX8_init 28 = .ok (.putfield 18, 3) := by decide +kernel
theorem dX8_init_31 : decode cX8_init 31 = .ok (.aload_n 0, 1) := by decide +kernel
theorem dX8_init_32 : decode cX8_init 32 = .ok (.sipush 301, 3) := by decide +kernel
theorem dX8_init_35 : decode cX8_init 35 = .ok (.newarray .int, 2) := by decide +kernel
theorem dX8_init_37 : decode cX8_init 37 = .ok (.putfield 21, 3) := by decide +kernel
theorem dX8_init_40 : decode cX8_init 40 = .ok (.return_, 1) := by decide +kernel
def m8_init : pMT := (yX8_init, cX8_init, 1, none)
theorem mo8_init : mOK m8_init 0 := ⟨tb_i 176 (by decide +kernel), wi_RX8, ⟨wn_RX8.1, wn_RX8.2, by decide +kernel⟩, by decide, plainFor_of_name wp_RX8⟩
theorem mv8_init : mI m8_init := ⟨tb_i 175 (by decide +kernel), rfl, rfl⟩
def i8_init (a0 : Nat) (w : pW) : pW := bl (pNew w (13, 300)) fun w1 => bl (wR w1 a0 0 w.1.length) fun w2 => bl (pNew w2 (13, 301)) fun w3 => bl (wR w3 a0 1 w2.1.length) fun w4 => bl (pNew w4 (13, 301)) fun w5 => bl (wR w5 a0 2 w4.1.length) fun w6 => bl (pNew w6 (13, 301)) fun w7 => bl (wR w7 a0 3 w6.1.length) fun w8 => w8
set_option maxHeartbeats 4000000 in
set_option maxRecDepth 20000 in
theorem F8_init {a0 : Nat} {w wf : pW} (h : i8_init a0 w = wf) : wf.1.length = w.1.length + 4 ∧ pSl wf.1 = pSl w.1 + 1203 ∧ (∀ (c : Nat) (q : Nat × Nat), w.1[c]? = some q → wf.1[c]? = some q) ∧ ∀ (c k : Nat) (q : Nat × Nat), w.1[c]? = some q → c ≠ a0 → wf.2.2.2 c k = w.2.2.2 c k := by
  unfold i8_init at h
  have P0 : (w.1.length = w.1.length + 0 ∧ pSl w.1 = pSl w.1 + 0) ∧ (∀ (c : Nat) (q : Nat × Nat), w.1[c]? = some q → w.1[c]? = some q) ∧ ∀ (c k : Nat) (q : Nat × Nat), w.1[c]? = some q → c ≠ a0 → w.2.2.2 c k = w.2.2.2 c k := ⟨⟨rfl, rfl⟩, fun _ _ h => h, fun _ _ _ _ _ => rfl⟩
  obtain ⟨w1, e1, h⟩ := blE h
  have P1 : (w1.1.length = w.1.length + 1 ∧ pSl w1.1 = pSl w.1 + 300) ∧ (∀ (c : Nat) (q : Nat × Nat), w.1[c]? = some q → w1.1[c]? = some q) ∧ ∀ (c k : Nat) (q : Nat × Nat), w.1[c]? = some q → c ≠ a0 → w1.2.2.2 c k = w.2.2.2 c k := pf_new P0 e1
  obtain ⟨w2, e2, h⟩ := blE h
  have P2 : (w2.1.length = w.1.length + 1 ∧ pSl w2.1 = pSl w.1 + 300) ∧ (∀ (c : Nat) (q : Nat × Nat), w.1[c]? = some q → w2.1[c]? = some q) ∧ ∀ (c k : Nat) (q : Nat × Nat), w.1[c]? = some q → c ≠ a0 → w2.2.2.2 c k = w.2.2.2 c k := pf_R P1 e2 (fun c q hc => Or.inl rfl)
  obtain ⟨w3, e3, h⟩ := blE h
  have P3 : (w3.1.length = w.1.length + 2 ∧ pSl w3.1 = pSl w.1 + 601) ∧ (∀ (c : Nat) (q : Nat × Nat), w.1[c]? = some q → w3.1[c]? = some q) ∧ ∀ (c k : Nat) (q : Nat × Nat), w.1[c]? = some q → c ≠ a0 → w3.2.2.2 c k = w.2.2.2 c k := pf_new P2 e3
  obtain ⟨w4, e4, h⟩ := blE h
  have P4 : (w4.1.length = w.1.length + 2 ∧ pSl w4.1 = pSl w.1 + 601) ∧ (∀ (c : Nat) (q : Nat × Nat), w.1[c]? = some q → w4.1[c]? = some q) ∧ ∀ (c k : Nat) (q : Nat × Nat), w.1[c]? = some q → c ≠ a0 → w4.2.2.2 c k = w.2.2.2 c k := pf_R P3 e4 (fun c q hc => Or.inl rfl)
  obtain ⟨w5, e5, h⟩ := blE h
  have P5 : (w5.1.length = w.1.length + 3 ∧ pSl w5.1 = pSl w.1 + 902) ∧ (∀ (c : Nat) (q : Nat × Nat), w.1[c]? = some q → w5.1[c]? = some q) ∧ ∀ (c k : Nat) (q : Nat × Nat), w.1[c]? = some q → c ≠ a0 → w5.2.2.2 c k = w.2.2.2 c k := pf_new P4 e5
  obtain ⟨w6, e6, h⟩ := blE h
  have P6 : (w6.1.length = w.1.length + 3 ∧ pSl w6.1 = pSl w.1 + 902) ∧ (∀ (c : Nat) (q : Nat × Nat), w.1[c]? = some q → w6.1[c]? = some q) ∧ ∀ (c k : Nat) (q : Nat × Nat), w.1[c]? = some q → c ≠ a0 → w6.2.2.2 c k = w.2.2.2 c k := pf_R P5 e6 (fun c q hc => Or.inl rfl)
  obtain ⟨w7, e7, h⟩ := blE h
  have P7 : (w7.1.length = w.1.length + 4 ∧ pSl w7.1 = pSl w.1 + 1203) ∧ (∀ (c : Nat) (q : Nat × Nat), w.1[c]? = some q → w7.1[c]? = some q) ∧ ∀ (c k : Nat) (q : Nat × Nat), w.1[c]? = some q → c ≠ a0 → w7.2.2.2 c k = w.2.2.2 c k := pf_new P6 e7
  obtain ⟨w8, e8, h⟩ := blE h
  have P8 : (w8.1.length = w.1.length + 4 ∧ pSl w8.1 = pSl w.1 + 1203) ∧ (∀ (c : Nat) (q : Nat × Nat), w.1[c]? = some q → w8.1[c]? = some q) ∧ ∀ (c k : Nat) (q : Nat × Nat), w.1[c]? = some q → c ≠ a0 → w8.2.2.2 c k = w.2.2.2 c k := pf_R P7 e8 (fun c q hc => Or.inl rfl)
  subst h
  exact ⟨P8.1.1, P8.1.2, P8.2⟩
set_option maxHeartbeats 4000000 in
set_option maxRecDepth 20000 in
theorem oi8_init {g : pG} {Qx : Option Value → pW → Prop} {w wf : pW} {a0 : Nat} (d : Nat) (hz0 : w.1[a0]? = some (8, 6)) (hL : w.1.length + 4 ≤ 1000) (h : i8_init a0 w = wf) (hQ : Qx none wf) : Ok g (d + 2, RX8, cX8_init, 1, true, 4, 1203, w.1.length, pSl w.1) Qx 0 [(0, .ref a0)] [] w := by
  unfold i8_init at h
  have l0 : w.1.length = w.1.length + 0 := rfl
  have s0 : pSl w.1 = pSl w.1 + 0 := rfl
  refine ok_aload_n dX8_init_0 0 rfl ?_
  refine ok_oinit dX8_init_1 lkRX8_3 (Nat.le_of_ble_eq_true rfl) (by show 1 ≤ d + _; omega) ?_
  refine ok_aload_n dX8_init_4 0 rfl ?_
  refine ok_sipush (v := 300) dX8_init_5 (by decide) ?_
  obtain ⟨w1, e1, h⟩ := blE h
  refine oi_newa (kd := 13) (N := 300) dX8_init_8 rfl (Or.inl ⟨rfl, rfl⟩) wa_int (by decide) (by decide) (by decide) (b_len (mc := 4) l0 hL (by decide)) (b_c1 (mc := 4) l0 (by decide)) (b_s1 (ms := 1203) s0 (by decide)) e1 ?_
  have l1 : w1.1.length = w.1.length + 1 := ln_new e1 l0
  have s1 : pSl w1.1 = pSl w.1 + 300 := sn_new e1 s0
  have z1_0 : w1.1[a0]? = some (8, 6) := by rw [e1]; exact z_new hz0
  have z1_n : w1.1[w.1.length]? = some (13, 300) := by rw [e1]; exact z_at _ _
  obtain ⟨w2, e2, h⟩ := blE h
  refine oi_putR (ci := 8) (k := 0) dX8_init_10 flRX8_9 rfl (Or.inr ⟨_, rfl⟩) (Or.inr ⟨rfl, rfl, rfl⟩) z1_0 (by decide) e2 ?_
  have l2 : w2.1.length = w.1.length + 1 := by rw [e2]; exact l1
  have s2 : pSl w2.1 = pSl w.1 + 300 := by rw [e2]; exact s1
  have z2_0 : w2.1[a0]? = some (8, 6) := by rw [e2]; exact z1_0
  refine ok_aload_n dX8_init_13 0 rfl ?_
  refine ok_sipush (v := 301) dX8_init_14 (by decide) ?_
  obtain ⟨w3, e3, h⟩ := blE h
  refine oi_newa (kd := 13) (N := 301) dX8_init_17 rfl (Or.inl ⟨rfl, rfl⟩) wa_int (by decide) (by decide) (by decide) (b_len (mc := 4) l2 hL (by decide)) (b_c1 (mc := 4) l2 (by decide)) (b_s1 (ms := 1203) s2 (by decide)) e3 ?_
  have l3 : w3.1.length = w.1.length + 2 := ln_new e3 l2
  have s3 : pSl w3.1 = pSl w.1 + 601 := sn_new e3 s2
  have z3_0 : w3.1[a0]? = some (8, 6) := by rw [e3]; exact z_new z2_0
  have z3_n : w3.1[w2.1.length]? = some (13, 301) := by rw [e3]; exact z_at _ _
  obtain ⟨w4, e4, h⟩ := blE h
  refine oi_putR (ci := 8) (k := 1) dX8_init_19 flRX8_15 rfl (Or.inr ⟨_, rfl⟩) (Or.inr ⟨rfl, rfl, rfl⟩) z3_0 (by decide) e4 ?_
  have l4 : w4.1.length = w.1.length + 2 := by rw [e4]; exact l3
  have s4 : pSl w4.1 = pSl w.1 + 601 := by rw [e4]; exact s3
  have z4_0 : w4.1[a0]? = some (8, 6) := by rw [e4]; exact z3_0
  refine ok_aload_n dX8_init_22 0 rfl ?_
  refine ok_sipush (v := 301) dX8_init_23 (by decide) ?_
  obtain ⟨w5, e5, h⟩ := blE h
  refine oi_newa (kd := 13) (N := 301) dX8_init_26 rfl (Or.inl ⟨rfl, rfl⟩) wa_int (by decide) (by decide) (by decide) (b_len (mc := 4) l4 hL (by decide)) (b_c1 (mc := 4) l4 (by decide)) (b_s1 (ms := 1203) s4 (by decide)) e5 ?_
  have l5 : w5.1.length = w.1.length + 3 := ln_new e5 l4
  have s5 : pSl w5.1 = pSl w.1 + 902 := sn_new e5 s4
  have z5_0 : w5.1[a0]? = some (8, 6) := by rw [e5]; exact z_new z4_0
  have z5_n : w5.1[w4.1.length]? = some (13, 301) := by rw [e5]; exact z_at _ _
  obtain ⟨w6, e6, h⟩ := blE h
  refine oi_putR (ci := 8) (k := 2) dX8_init_28 flRX8_18 rfl (Or.inr ⟨_, rfl⟩) (Or.inr ⟨rfl, rfl, rfl⟩) z5_0 (by decide) e6 ?_
  have l6 : w6.1.length = w.1.length + 3 := by rw [e6]; exact l5
  have s6 : pSl w6.1 = pSl w.1 + 902 := by rw [e6]; exact s5
  have z6_0 : w6.1[a0]? = some (8, 6) := by rw [e6]; exact z5_0
  refine ok_aload_n dX8_init_31 0 rfl ?_
  refine ok_sipush (v := 301) dX8_init_32 (by decide) ?_
  obtain ⟨w7, e7, h⟩ := blE h
  refine oi_newa (kd := 13) (N := 301) dX8_init_35 rfl (Or.inl ⟨rfl, rfl⟩) wa_int (by decide) (by decide) (by decide) (b_len (mc := 4) l6 hL (by decide)) (b_c1 (mc := 4) l6 (by decide)) (b_s1 (ms := 1203) s6 (by decide)) e7 ?_
  have l7 : w7.1.length = w.1.length + 4 := ln_new e7 l6
  have s7 : pSl w7.1 = pSl w.1 + 1203 := sn_new e7 s6
  have z7_0 : w7.1[a0]? = some (8, 6) := by rw [e7]; exact z_new z6_0
  have z7_n : w7.1[w6.1.length]? = some (13, 301) := by rw [e7]; exact z_at _ _
  obtain ⟨w8, e8, h⟩ := blE h
  refine oi_putR (ci := 8) (k := 3) dX8_init_37 flRX8_21 rfl (Or.inr ⟨_, rfl⟩) (Or.inr ⟨rfl, rfl, rfl⟩) z7_0 (by decide) e8 ?_
  have l8 : w8.1.length = w.1.length + 4 := by rw [e8]; exact l7
  have s8 : pSl w8.1 = pSl w.1 + 1203 := by rw [e8]; exact s7
  have z8_0 : w8.1[a0]? = some (8, 6) := by rw [e8]; exact z7_0
  subst h
  exact ok_vret dX8_init_40 hQ
theorem ki8_init {g : pG} {Q : Option Value → pW → Prop} {w wf : pW} {a0 : Nat} (d : Nat) (hz0 : w.1[a0]? = some (8, 6)) (hL : w.1.length + 4 ≤ 1000) (h : i8_init a0 w = wf) (hQ : Q none wf) : CT g (d + 2) m8_init 4 1203 [.ref a0] w Q :=
  ct_of_ok (mt := m8_init) (ini := true) mo8_init.2.2.2.2 (fun _ => rfl) (Nat.le_of_ble_eq_true rfl) (oi8_init d hz0 hL h ⟨trivial, hQ, (F8_init h).1, (F8_init h).2.1⟩)
theorem lkRX1_3 : Cond.methodLink RX1 3 objectInit ∈ lw_tbl := tb_i 208 (by decide +kernel)
theorem dX1_init_0 : decode cX1_init 0 = .ok (.aload_n 0, 1) := by decide +kernel
theorem dX1_init_1 : decode cX1_init 1 = .ok (.invokespecial 3, 3) := by decide +kernel
theorem dX1_init_4 : decode cX1_init 4 = .ok (.aload_n 0, 1) := by decide +kernel
theorem dX1_init_5 : decode cX1_init 5 = .ok (.bipush 64, 2) := by decide +kernel
theorem dX1_init_7 : decode cX1_init 7 = .ok (.newarray .int, 2) := by decide +kernel
theorem dX1_init_9 : decode cX1_init 9 = .ok (.putfield 9, 3) := by decide +kernel
theorem dX1_init_12 : decode cX1_init 12 = .ok (.aload_n 0, 1) := by decide +kernel
theorem dX1_init_13 : decode cX1_init 13 = .ok (.bipush 7, 2) := by decide +kernel
theorem dX1_init_15 : decode cX1_init 15 = .ok (.newarray .int, 2) := by decide +kernel
theorem dX1_init_17 : decode cX1_init 17 = .ok (.putfield 15, 3) := by decide +kernel
theorem dX1_init_20 : decode cX1_init 20 = .ok (.return_, 1) := by decide +kernel
def m1_init : pMT := (yX1_init, cX1_init, 1, none)
theorem mo1_init : mOK m1_init 0 := ⟨tb_i 207 (by decide +kernel), wi_RX1, ⟨wn_RX1.1, wn_RX1.2, by decide +kernel⟩, by decide, plainFor_of_name wp_RX1⟩
theorem mv1_init : mI m1_init := ⟨tb_i 206 (by decide +kernel), rfl, rfl⟩
def i1_init (a0 : Nat) (w : pW) : pW := bl (pNew w (13, 64)) fun w1 => bl (wR w1 a0 0 w.1.length) fun w2 => bl (pNew w2 (13, 7)) fun w3 => bl (wR w3 a0 1 w2.1.length) fun w4 => w4
set_option maxHeartbeats 4000000 in
set_option maxRecDepth 20000 in
theorem F1_init {a0 : Nat} {w wf : pW} (h : i1_init a0 w = wf) : wf.1.length = w.1.length + 2 ∧ pSl wf.1 = pSl w.1 + 71 ∧ (∀ (c : Nat) (q : Nat × Nat), w.1[c]? = some q → wf.1[c]? = some q) ∧ ∀ (c k : Nat) (q : Nat × Nat), w.1[c]? = some q → c ≠ a0 → wf.2.2.2 c k = w.2.2.2 c k := by
  unfold i1_init at h
  have P0 : (w.1.length = w.1.length + 0 ∧ pSl w.1 = pSl w.1 + 0) ∧ (∀ (c : Nat) (q : Nat × Nat), w.1[c]? = some q → w.1[c]? = some q) ∧ ∀ (c k : Nat) (q : Nat × Nat), w.1[c]? = some q → c ≠ a0 → w.2.2.2 c k = w.2.2.2 c k := ⟨⟨rfl, rfl⟩, fun _ _ h => h, fun _ _ _ _ _ => rfl⟩
  obtain ⟨w1, e1, h⟩ := blE h
  have P1 : (w1.1.length = w.1.length + 1 ∧ pSl w1.1 = pSl w.1 + 64) ∧ (∀ (c : Nat) (q : Nat × Nat), w.1[c]? = some q → w1.1[c]? = some q) ∧ ∀ (c k : Nat) (q : Nat × Nat), w.1[c]? = some q → c ≠ a0 → w1.2.2.2 c k = w.2.2.2 c k := pf_new P0 e1
  obtain ⟨w2, e2, h⟩ := blE h
  have P2 : (w2.1.length = w.1.length + 1 ∧ pSl w2.1 = pSl w.1 + 64) ∧ (∀ (c : Nat) (q : Nat × Nat), w.1[c]? = some q → w2.1[c]? = some q) ∧ ∀ (c k : Nat) (q : Nat × Nat), w.1[c]? = some q → c ≠ a0 → w2.2.2.2 c k = w.2.2.2 c k := pf_R P1 e2 (fun c q hc => Or.inl rfl)
  obtain ⟨w3, e3, h⟩ := blE h
  have P3 : (w3.1.length = w.1.length + 2 ∧ pSl w3.1 = pSl w.1 + 71) ∧ (∀ (c : Nat) (q : Nat × Nat), w.1[c]? = some q → w3.1[c]? = some q) ∧ ∀ (c k : Nat) (q : Nat × Nat), w.1[c]? = some q → c ≠ a0 → w3.2.2.2 c k = w.2.2.2 c k := pf_new P2 e3
  obtain ⟨w4, e4, h⟩ := blE h
  have P4 : (w4.1.length = w.1.length + 2 ∧ pSl w4.1 = pSl w.1 + 71) ∧ (∀ (c : Nat) (q : Nat × Nat), w.1[c]? = some q → w4.1[c]? = some q) ∧ ∀ (c k : Nat) (q : Nat × Nat), w.1[c]? = some q → c ≠ a0 → w4.2.2.2 c k = w.2.2.2 c k := pf_R P3 e4 (fun c q hc => Or.inl rfl)
  subst h
  exact ⟨P4.1.1, P4.1.2, P4.2⟩
set_option maxHeartbeats 4000000 in
set_option maxRecDepth 20000 in
theorem oi1_init {g : pG} {Qx : Option Value → pW → Prop} {w wf : pW} {a0 : Nat} (d : Nat) (hz0 : w.1[a0]? = some (1, 3)) (hL : w.1.length + 2 ≤ 1000) (h : i1_init a0 w = wf) (hQ : Qx none wf) : Ok g (d + 2, RX1, cX1_init, 1, true, 2, 71, w.1.length, pSl w.1) Qx 0 [(0, .ref a0)] [] w := by
  unfold i1_init at h
  have l0 : w.1.length = w.1.length + 0 := rfl
  have s0 : pSl w.1 = pSl w.1 + 0 := rfl
  refine ok_aload_n dX1_init_0 0 rfl ?_
  refine ok_oinit dX1_init_1 lkRX1_3 (Nat.le_of_ble_eq_true rfl) (by show 1 ≤ d + _; omega) ?_
  refine ok_aload_n dX1_init_4 0 rfl ?_
  refine ok_bipush (v := 64) dX1_init_5 (by decide) ?_
  obtain ⟨w1, e1, h⟩ := blE h
  refine oi_newa (kd := 13) (N := 64) dX1_init_7 rfl (Or.inl ⟨rfl, rfl⟩) wa_int (by decide) (by decide) (by decide) (b_len (mc := 2) l0 hL (by decide)) (b_c1 (mc := 2) l0 (by decide)) (b_s1 (ms := 71) s0 (by decide)) e1 ?_
  have l1 : w1.1.length = w.1.length + 1 := ln_new e1 l0
  have s1 : pSl w1.1 = pSl w.1 + 64 := sn_new e1 s0
  have z1_0 : w1.1[a0]? = some (1, 3) := by rw [e1]; exact z_new hz0
  have z1_n : w1.1[w.1.length]? = some (13, 64) := by rw [e1]; exact z_at _ _
  obtain ⟨w2, e2, h⟩ := blE h
  refine oi_putR (ci := 1) (k := 0) dX1_init_9 flRX1_9 rfl (Or.inr ⟨_, rfl⟩) (Or.inr ⟨rfl, rfl, rfl⟩) z1_0 (by decide) e2 ?_
  have l2 : w2.1.length = w.1.length + 1 := by rw [e2]; exact l1
  have s2 : pSl w2.1 = pSl w.1 + 64 := by rw [e2]; exact s1
  have z2_0 : w2.1[a0]? = some (1, 3) := by rw [e2]; exact z1_0
  refine ok_aload_n dX1_init_12 0 rfl ?_
  refine ok_bipush (v := 7) dX1_init_13 (by decide) ?_
  obtain ⟨w3, e3, h⟩ := blE h
  refine oi_newa (kd := 13) (N := 7) dX1_init_15 rfl (Or.inl ⟨rfl, rfl⟩) wa_int (by decide) (by decide) (by decide) (b_len (mc := 2) l2 hL (by decide)) (b_c1 (mc := 2) l2 (by decide)) (b_s1 (ms := 71) s2 (by decide)) e3 ?_
  have l3 : w3.1.length = w.1.length + 2 := ln_new e3 l2
  have s3 : pSl w3.1 = pSl w.1 + 71 := sn_new e3 s2
  have z3_0 : w3.1[a0]? = some (1, 3) := by rw [e3]; exact z_new z2_0
  have z3_n : w3.1[w2.1.length]? = some (13, 7) := by rw [e3]; exact z_at _ _
  obtain ⟨w4, e4, h⟩ := blE h
  refine oi_putR (ci := 1) (k := 1) dX1_init_17 flRX1_15 rfl (Or.inr ⟨_, rfl⟩) (Or.inr ⟨rfl, rfl, rfl⟩) z3_0 (by decide) e4 ?_
  have l4 : w4.1.length = w.1.length + 2 := by rw [e4]; exact l3
  have s4 : pSl w4.1 = pSl w.1 + 71 := by rw [e4]; exact s3
  have z4_0 : w4.1[a0]? = some (1, 3) := by rw [e4]; exact z3_0
  subst h
  exact ok_vret dX1_init_20 hQ
theorem ki1_init {g : pG} {Q : Option Value → pW → Prop} {w wf : pW} {a0 : Nat} (d : Nat) (hz0 : w.1[a0]? = some (1, 3)) (hL : w.1.length + 2 ≤ 1000) (h : i1_init a0 w = wf) (hQ : Q none wf) : CT g (d + 2) m1_init 2 71 [.ref a0] w Q :=
  ct_of_ok (mt := m1_init) (ini := true) mo1_init.2.2.2.2 (fun _ => rfl) (Nat.le_of_ble_eq_true rfl) (oi1_init d hz0 hL h ⟨trivial, hQ, (F1_init h).1, (F1_init h).2.1⟩)
theorem lkRX4_3 : Cond.methodLink RX4 3 objectInit ∈ lw_tbl := tb_i 224 (by decide +kernel)
theorem dX4_init_0 : decode cX4_init 0 = .ok (.aload_n 0, 1) := by decide +kernel
theorem dX4_init_1 : decode cX4_init 1 = .ok (.invokespecial 3, 3) := by decide +kernel
theorem dX4_init_4 : decode cX4_init 4 = .ok (.aload_n 0, 1) := by decide +kernel
theorem dX4_init_5 : decode cX4_init 5 = .ok (.aload_n 1, 1) := by decide +kernel
theorem dX4_init_6 : decode cX4_init 6 = .ok (.putfield 9, 3) := by decide +kernel
theorem dX4_init_9 : decode cX4_init 9 = .ok (.return_, 1) := by decide +kernel
def m4_init : pMT := (yX4_init, cX4_init, 2, none)
theorem mo4_init : mOK m4_init 1 := ⟨tb_i 223 (by decide +kernel), wi_RX4, ⟨wn_RX4.1, wn_RX4.2, by decide +kernel⟩, by decide, plainFor_of_name wp_RX4⟩
theorem mv4_init : mI m4_init := ⟨tb_i 222 (by decide +kernel), rfl, rfl⟩
def i4_init (a0 : Nat) (a1 : Nat) (w : pW) : pW := bl (wR w a0 0 a1) fun w1 => w1
set_option maxHeartbeats 4000000 in
set_option maxRecDepth 20000 in
theorem F4_init {a0 a1 : Nat} {w wf : pW} (h : i4_init a0 a1 w = wf) : wf.1.length = w.1.length + 0 ∧ pSl wf.1 = pSl w.1 + 0 ∧ (∀ (c : Nat) (q : Nat × Nat), w.1[c]? = some q → wf.1[c]? = some q) ∧ ∀ (c k : Nat) (q : Nat × Nat), w.1[c]? = some q → c ≠ a0 → wf.2.2.2 c k = w.2.2.2 c k := by
  unfold i4_init at h
  have P0 : (w.1.length = w.1.length + 0 ∧ pSl w.1 = pSl w.1 + 0) ∧ (∀ (c : Nat) (q : Nat × Nat), w.1[c]? = some q → w.1[c]? = some q) ∧ ∀ (c k : Nat) (q : Nat × Nat), w.1[c]? = some q → c ≠ a0 → w.2.2.2 c k = w.2.2.2 c k := ⟨⟨rfl, rfl⟩, fun _ _ h => h, fun _ _ _ _ _ => rfl⟩
  obtain ⟨w1, e1, h⟩ := blE h
  have P1 : (w1.1.length = w.1.length + 0 ∧ pSl w1.1 = pSl w.1 + 0) ∧ (∀ (c : Nat) (q : Nat × Nat), w.1[c]? = some q → w1.1[c]? = some q) ∧ ∀ (c k : Nat) (q : Nat × Nat), w.1[c]? = some q → c ≠ a0 → w1.2.2.2 c k = w.2.2.2 c k := pf_R P0 e1 (fun c q hc => Or.inl rfl)
  subst h
  exact ⟨P1.1.1, P1.1.2, P1.2⟩
set_option maxHeartbeats 4000000 in
set_option maxRecDepth 20000 in
theorem oi4_init {g : pG} {Qx : Option Value → pW → Prop} {w wf : pW} {a0 a1 : Nat} (d : Nat) (hz0 : w.1[a0]? = some (4, 1)) (hz1 : w.1[a1]? = some (1, 3)) (hL : w.1.length + 0 ≤ 1000) (h : i4_init a0 a1 w = wf) (hQ : Qx none wf) : Ok g (d + 2, RX4, cX4_init, 2, true, 0, 0, w.1.length, pSl w.1) Qx 0 [(0, .ref a0), (1, .ref a1)] [] w := by
  unfold i4_init at h
  have l0 : w.1.length = w.1.length + 0 := rfl
  have s0 : pSl w.1 = pSl w.1 + 0 := rfl
  refine ok_aload_n dX4_init_0 0 rfl ?_
  refine ok_oinit dX4_init_1 lkRX4_3 (Nat.le_of_ble_eq_true rfl) (by show 1 ≤ d + _; omega) ?_
  refine ok_aload_n dX4_init_4 0 rfl ?_
  refine ok_aload_n dX4_init_5 1 rfl ?_
  obtain ⟨w1, e1, h⟩ := blE h
  refine oi_putR (ci := 4) (k := 0) dX4_init_6 flRX4_9 rfl (Or.inl ⟨_, rfl⟩) (Or.inr ⟨rfl, rfl, rfl⟩) hz0 (by decide) e1 ?_
  have l1 : w1.1.length = w.1.length + 0 := by rw [e1]; exact l0
  have s1 : pSl w1.1 = pSl w.1 + 0 := by rw [e1]; exact s0
  have z1_0 : w1.1[a0]? = some (4, 1) := by rw [e1]; exact hz0
  have z1_1 : w1.1[a1]? = some (1, 3) := by rw [e1]; exact hz1
  subst h
  exact ok_vret dX4_init_9 hQ
theorem ki4_init {g : pG} {Q : Option Value → pW → Prop} {w wf : pW} {a0 a1 : Nat} (d : Nat) (hz0 : w.1[a0]? = some (4, 1)) (hz1 : w.1[a1]? = some (1, 3)) (hL : w.1.length + 0 ≤ 1000) (h : i4_init a0 a1 w = wf) (hQ : Q none wf) : CT g (d + 2) m4_init 0 0 [.ref a0, .ref a1] w Q :=
  ct_of_ok (mt := m4_init) (ini := true) mo4_init.2.2.2.2 (fun _ => rfl) (Nat.le_of_ble_eq_true rfl) (oi4_init d hz0 hz1 hL h ⟨trivial, hQ, (F4_init h).1, (F4_init h).2.1⟩)
theorem lkRX2_3 : Cond.methodLink RX2 3 objectInit ∈ lw_tbl := tb_i 234 (by decide +kernel)
theorem dX2_init_0 : decode cX2_init 0 = .ok (.aload_n 0, 1) := by decide +kernel
theorem dX2_init_1 : decode cX2_init 1 = .ok (.invokespecial 3, 3) := by decide +kernel
theorem dX2_init_4 : decode cX2_init 4 = .ok (.aload_n 0, 1) := by decide +kernel
theorem dX2_init_5 : decode cX2_init 5 = .ok (.bipush 16, 2) := by decide +kernel
theorem dX2_init_7 : decode cX2_init 7 = .ok (.newarray .int, 2) := by decide +kernel
theorem dX2_init_9 : decode cX2_init 9 = .ok (.putfield 9, 3) := by decide +kernel
theorem dX2_init_12 : decode cX2_init 12 = .ok (.aload_n 0, 1) := by decide +kernel
theorem dX2_init_13 : decode cX2_init 13 = .ok (.bipush 16, 2) := by decide +kernel
theorem dX2_init_15 : decode cX2_init 15 = .ok (.newarray .int, 2) := by decide +kernel
theorem dX2_init_17 : decode cX2_init 17 = .ok (.putfield 15, 3) := by decide +kernel
theorem dX2_init_20 : decode cX2_init 20 = .ok (.aload_n 0, 1) := by decide +kernel
theorem dX2_init_21 : decode cX2_init 21 = .ok (.sipush 289, 3) := by decide +kernel
theorem dX2_init_24 : decode cX2_init 24 = .ok (.newarray .int, 2) := by decide +kernel
theorem dX2_init_26 : decode cX2_init 26 = .ok (.putfield 18, 3) := by decide +kernel
theorem dX2_init_29 : decode cX2_init 29 = .ok (.aload_n 0, 1) := by decide +kernel
theorem dX2_init_30 : decode cX2_init 30 = .ok (.bipush 16, 2) := by decide +kernel
theorem dX2_init_32 : decode cX2_init 32 = .ok (.newarray .int, 2) := by decide +kernel
theorem dX2_init_34 : decode cX2_init 34 = .ok (.putfield 21, 3) := by decide +kernel
theorem dX2_init_37 : decode cX2_init 37 = .ok (.aload_n 0, 1) := by decide +kernel
theorem dX2_init_38 : decode cX2_init 38 = .ok (.bipush 80, 2) := by decide +kernel
theorem dX2_init_40 : decode cX2_init 40 = .ok (.newarray .int, 2) := by decide +kernel
theorem dX2_init_42 : decode cX2_init 42 = .ok (.putfield 24, 3) := by decide +kernel
theorem dX2_init_45 : decode cX2_init 45 = .ok (.aload_n 0, 1) := by decide +kernel
theorem dX2_init_46 : decode cX2_init 46 = .ok (.iconst 5, 1) := by decide +kernel
theorem dX2_init_47 : decode cX2_init 47 = .ok (.newarray .int, 2) := by decide +kernel
theorem dX2_init_49 : decode cX2_init 49 = .ok (.putfield 27, 3) := by decide +kernel
theorem dX2_init_52 : decode cX2_init 52 = .ok (.aload_n 0, 1) := by decide +kernel
theorem dX2_init_53 : decode cX2_init 53 = .ok (.iconst 5, 1) := by decide +kernel
theorem dX2_init_54 : decode cX2_init 54 = .ok (.newarray .int, 2) := by decide +kernel
theorem dX2_init_56 : decode cX2_init 56 = .ok (.putfield 30, 3) := by decide +kernel
theorem dX2_init_59 : decode cX2_init 59 = .ok (.return_, 1) := by decide +kernel
def m2_init : pMT := (yX2_init, cX2_init, 1, none)
theorem mo2_init : mOK m2_init 0 := ⟨tb_i 233 (by decide +kernel), wi_RX2, ⟨wn_RX2.1, wn_RX2.2, by decide +kernel⟩, by decide, plainFor_of_name wp_RX2⟩
theorem mv2_init : mI m2_init := ⟨tb_i 232 (by decide +kernel), rfl, rfl⟩
def i2_init (a0 : Nat) (w : pW) : pW := bl (pNew w (13, 16)) fun w1 => bl (wR w1 a0 0 w.1.length) fun w2 => bl (pNew w2 (13, 16)) fun w3 => bl (wR w3 a0 1 w2.1.length) fun w4 => bl (pNew w4 (13, 289)) fun w5 => bl (wR w5 a0 2 w4.1.length) fun w6 => bl (pNew w6 (13, 16)) fun w7 => bl (wR w7 a0 3 w6.1.length) fun w8 => bl (pNew w8 (13, 80)) fun w9 => bl (wR w9 a0 4 w8.1.length) fun w10 => bl (pNew w10 (13, 5)) fun w11 => bl (wR w11 a0 5 w10.1.length) fun w12 => bl (pNew w12 (13, 5)) fun w13 => bl (wR w13 a0 6 w12.1.length) fun w14 => w14
set_option maxHeartbeats 4000000 in
set_option maxRecDepth 20000 in
theorem F2_init {a0 : Nat} {w wf : pW} (h : i2_init a0 w = wf) : wf.1.length = w.1.length + 7 ∧ pSl wf.1 = pSl w.1 + 427 ∧ (∀ (c : Nat) (q : Nat × Nat), w.1[c]? = some q → wf.1[c]? = some q) ∧ ∀ (c k : Nat) (q : Nat × Nat), w.1[c]? = some q → c ≠ a0 → wf.2.2.2 c k = w.2.2.2 c k := by
  unfold i2_init at h
  have P0 : (w.1.length = w.1.length + 0 ∧ pSl w.1 = pSl w.1 + 0) ∧ (∀ (c : Nat) (q : Nat × Nat), w.1[c]? = some q → w.1[c]? = some q) ∧ ∀ (c k : Nat) (q : Nat × Nat), w.1[c]? = some q → c ≠ a0 → w.2.2.2 c k = w.2.2.2 c k := ⟨⟨rfl, rfl⟩, fun _ _ h => h, fun _ _ _ _ _ => rfl⟩
  obtain ⟨w1, e1, h⟩ := blE h
  have P1 : (w1.1.length = w.1.length + 1 ∧ pSl w1.1 = pSl w.1 + 16) ∧ (∀ (c : Nat) (q : Nat × Nat), w.1[c]? = some q → w1.1[c]? = some q) ∧ ∀ (c k : Nat) (q : Nat × Nat), w.1[c]? = some q → c ≠ a0 → w1.2.2.2 c k = w.2.2.2 c k := pf_new P0 e1
  obtain ⟨w2, e2, h⟩ := blE h
  have P2 : (w2.1.length = w.1.length + 1 ∧ pSl w2.1 = pSl w.1 + 16) ∧ (∀ (c : Nat) (q : Nat × Nat), w.1[c]? = some q → w2.1[c]? = some q) ∧ ∀ (c k : Nat) (q : Nat × Nat), w.1[c]? = some q → c ≠ a0 → w2.2.2.2 c k = w.2.2.2 c k := pf_R P1 e2 (fun c q hc => Or.inl rfl)
  obtain ⟨w3, e3, h⟩ := blE h
  have P3 : (w3.1.length = w.1.length + 2 ∧ pSl w3.1 = pSl w.1 + 32) ∧ (∀ (c : Nat) (q : Nat × Nat), w.1[c]? = some q → w3.1[c]? = some q) ∧ ∀ (c k : Nat) (q : Nat × Nat), w.1[c]? = some q → c ≠ a0 → w3.2.2.2 c k = w.2.2.2 c k := pf_new P2 e3
  obtain ⟨w4, e4, h⟩ := blE h
  have P4 : (w4.1.length = w.1.length + 2 ∧ pSl w4.1 = pSl w.1 + 32) ∧ (∀ (c : Nat) (q : Nat × Nat), w.1[c]? = some q → w4.1[c]? = some q) ∧ ∀ (c k : Nat) (q : Nat × Nat), w.1[c]? = some q → c ≠ a0 → w4.2.2.2 c k = w.2.2.2 c k := pf_R P3 e4 (fun c q hc => Or.inl rfl)
  obtain ⟨w5, e5, h⟩ := blE h
  have P5 : (w5.1.length = w.1.length + 3 ∧ pSl w5.1 = pSl w.1 + 321) ∧ (∀ (c : Nat) (q : Nat × Nat), w.1[c]? = some q → w5.1[c]? = some q) ∧ ∀ (c k : Nat) (q : Nat × Nat), w.1[c]? = some q → c ≠ a0 → w5.2.2.2 c k = w.2.2.2 c k := pf_new P4 e5
  obtain ⟨w6, e6, h⟩ := blE h
  have P6 : (w6.1.length = w.1.length + 3 ∧ pSl w6.1 = pSl w.1 + 321) ∧ (∀ (c : Nat) (q : Nat × Nat), w.1[c]? = some q → w6.1[c]? = some q) ∧ ∀ (c k : Nat) (q : Nat × Nat), w.1[c]? = some q → c ≠ a0 → w6.2.2.2 c k = w.2.2.2 c k := pf_R P5 e6 (fun c q hc => Or.inl rfl)
  obtain ⟨w7, e7, h⟩ := blE h
  have P7 : (w7.1.length = w.1.length + 4 ∧ pSl w7.1 = pSl w.1 + 337) ∧ (∀ (c : Nat) (q : Nat × Nat), w.1[c]? = some q → w7.1[c]? = some q) ∧ ∀ (c k : Nat) (q : Nat × Nat), w.1[c]? = some q → c ≠ a0 → w7.2.2.2 c k = w.2.2.2 c k := pf_new P6 e7
  obtain ⟨w8, e8, h⟩ := blE h
  have P8 : (w8.1.length = w.1.length + 4 ∧ pSl w8.1 = pSl w.1 + 337) ∧ (∀ (c : Nat) (q : Nat × Nat), w.1[c]? = some q → w8.1[c]? = some q) ∧ ∀ (c k : Nat) (q : Nat × Nat), w.1[c]? = some q → c ≠ a0 → w8.2.2.2 c k = w.2.2.2 c k := pf_R P7 e8 (fun c q hc => Or.inl rfl)
  obtain ⟨w9, e9, h⟩ := blE h
  have P9 : (w9.1.length = w.1.length + 5 ∧ pSl w9.1 = pSl w.1 + 417) ∧ (∀ (c : Nat) (q : Nat × Nat), w.1[c]? = some q → w9.1[c]? = some q) ∧ ∀ (c k : Nat) (q : Nat × Nat), w.1[c]? = some q → c ≠ a0 → w9.2.2.2 c k = w.2.2.2 c k := pf_new P8 e9
  obtain ⟨w10, e10, h⟩ := blE h
  have P10 : (w10.1.length = w.1.length + 5 ∧ pSl w10.1 = pSl w.1 + 417) ∧ (∀ (c : Nat) (q : Nat × Nat), w.1[c]? = some q → w10.1[c]? = some q) ∧ ∀ (c k : Nat) (q : Nat × Nat), w.1[c]? = some q → c ≠ a0 → w10.2.2.2 c k = w.2.2.2 c k := pf_R P9 e10 (fun c q hc => Or.inl rfl)
  obtain ⟨w11, e11, h⟩ := blE h
  have P11 : (w11.1.length = w.1.length + 6 ∧ pSl w11.1 = pSl w.1 + 422) ∧ (∀ (c : Nat) (q : Nat × Nat), w.1[c]? = some q → w11.1[c]? = some q) ∧ ∀ (c k : Nat) (q : Nat × Nat), w.1[c]? = some q → c ≠ a0 → w11.2.2.2 c k = w.2.2.2 c k := pf_new P10 e11
  obtain ⟨w12, e12, h⟩ := blE h
  have P12 : (w12.1.length = w.1.length + 6 ∧ pSl w12.1 = pSl w.1 + 422) ∧ (∀ (c : Nat) (q : Nat × Nat), w.1[c]? = some q → w12.1[c]? = some q) ∧ ∀ (c k : Nat) (q : Nat × Nat), w.1[c]? = some q → c ≠ a0 → w12.2.2.2 c k = w.2.2.2 c k := pf_R P11 e12 (fun c q hc => Or.inl rfl)
  obtain ⟨w13, e13, h⟩ := blE h
  have P13 : (w13.1.length = w.1.length + 7 ∧ pSl w13.1 = pSl w.1 + 427) ∧ (∀ (c : Nat) (q : Nat × Nat), w.1[c]? = some q → w13.1[c]? = some q) ∧ ∀ (c k : Nat) (q : Nat × Nat), w.1[c]? = some q → c ≠ a0 → w13.2.2.2 c k = w.2.2.2 c k := pf_new P12 e13
  obtain ⟨w14, e14, h⟩ := blE h
  have P14 : (w14.1.length = w.1.length + 7 ∧ pSl w14.1 = pSl w.1 + 427) ∧ (∀ (c : Nat) (q : Nat × Nat), w.1[c]? = some q → w14.1[c]? = some q) ∧ ∀ (c k : Nat) (q : Nat × Nat), w.1[c]? = some q → c ≠ a0 → w14.2.2.2 c k = w.2.2.2 c k := pf_R P13 e14 (fun c q hc => Or.inl rfl)
  subst h
  exact ⟨P14.1.1, P14.1.2, P14.2⟩
set_option maxHeartbeats 4000000 in
set_option maxRecDepth 20000 in
theorem oi2_init {g : pG} {Qx : Option Value → pW → Prop} {w wf : pW} {a0 : Nat} (d : Nat) (hz0 : w.1[a0]? = some (2, 10)) (hL : w.1.length + 7 ≤ 1000) (h : i2_init a0 w = wf) (hQ : Qx none wf) : Ok g (d + 2, RX2, cX2_init, 1, true, 7, 427, w.1.length, pSl w.1) Qx 0 [(0, .ref a0)] [] w := by
  unfold i2_init at h
  have l0 : w.1.length = w.1.length + 0 := rfl
  have s0 : pSl w.1 = pSl w.1 + 0 := rfl
  refine ok_aload_n dX2_init_0 0 rfl ?_
  refine ok_oinit dX2_init_1 lkRX2_3 (Nat.le_of_ble_eq_true rfl) (by show 1 ≤ d + _; omega) ?_
  refine ok_aload_n dX2_init_4 0 rfl ?_
  refine ok_bipush (v := 16) dX2_init_5 (by decide) ?_
  obtain ⟨w1, e1, h⟩ := blE h
  refine oi_newa (kd := 13) (N := 16) dX2_init_7 rfl (Or.inl ⟨rfl, rfl⟩) wa_int (by decide) (by decide) (by decide) (b_len (mc := 7) l0 hL (by decide)) (b_c1 (mc := 7) l0 (by decide)) (b_s1 (ms := 427) s0 (by decide)) e1 ?_
  have l1 : w1.1.length = w.1.length + 1 := ln_new e1 l0
  have s1 : pSl w1.1 = pSl w.1 + 16 := sn_new e1 s0
  have z1_0 : w1.1[a0]? = some (2, 10) := by rw [e1]; exact z_new hz0
  have z1_n : w1.1[w.1.length]? = some (13, 16) := by rw [e1]; exact z_at _ _
  obtain ⟨w2, e2, h⟩ := blE h
  refine oi_putR (ci := 2) (k := 0) dX2_init_9 flRX2_9 rfl (Or.inr ⟨_, rfl⟩) (Or.inr ⟨rfl, rfl, rfl⟩) z1_0 (by decide) e2 ?_
  have l2 : w2.1.length = w.1.length + 1 := by rw [e2]; exact l1
  have s2 : pSl w2.1 = pSl w.1 + 16 := by rw [e2]; exact s1
  have z2_0 : w2.1[a0]? = some (2, 10) := by rw [e2]; exact z1_0
  refine ok_aload_n dX2_init_12 0 rfl ?_
  refine ok_bipush (v := 16) dX2_init_13 (by decide) ?_
  obtain ⟨w3, e3, h⟩ := blE h
  refine oi_newa (kd := 13) (N := 16) dX2_init_15 rfl (Or.inl ⟨rfl, rfl⟩) wa_int (by decide) (by decide) (by decide) (b_len (mc := 7) l2 hL (by decide)) (b_c1 (mc := 7) l2 (by decide)) (b_s1 (ms := 427) s2 (by decide)) e3 ?_
  have l3 : w3.1.length = w.1.length + 2 := ln_new e3 l2
  have s3 : pSl w3.1 = pSl w.1 + 32 := sn_new e3 s2
  have z3_0 : w3.1[a0]? = some (2, 10) := by rw [e3]; exact z_new z2_0
  have z3_n : w3.1[w2.1.length]? = some (13, 16) := by rw [e3]; exact z_at _ _
  obtain ⟨w4, e4, h⟩ := blE h
  refine oi_putR (ci := 2) (k := 1) dX2_init_17 flRX2_15 rfl (Or.inr ⟨_, rfl⟩) (Or.inr ⟨rfl, rfl, rfl⟩) z3_0 (by decide) e4 ?_
  have l4 : w4.1.length = w.1.length + 2 := by rw [e4]; exact l3
  have s4 : pSl w4.1 = pSl w.1 + 32 := by rw [e4]; exact s3
  have z4_0 : w4.1[a0]? = some (2, 10) := by rw [e4]; exact z3_0
  refine ok_aload_n dX2_init_20 0 rfl ?_
  refine ok_sipush (v := 289) dX2_init_21 (by decide) ?_
  obtain ⟨w5, e5, h⟩ := blE h
  refine oi_newa (kd := 13) (N := 289) dX2_init_24 rfl (Or.inl ⟨rfl, rfl⟩) wa_int (by decide) (by decide) (by decide) (b_len (mc := 7) l4 hL (by decide)) (b_c1 (mc := 7) l4 (by decide)) (b_s1 (ms := 427) s4 (by decide)) e5 ?_
  have l5 : w5.1.length = w.1.length + 3 := ln_new e5 l4
  have s5 : pSl w5.1 = pSl w.1 + 321 := sn_new e5 s4
  have z5_0 : w5.1[a0]? = some (2, 10) := by rw [e5]; exact z_new z4_0
  have z5_n : w5.1[w4.1.length]? = some (13, 289) := by rw [e5]; exact z_at _ _
  obtain ⟨w6, e6, h⟩ := blE h
  refine oi_putR (ci := 2) (k := 2) dX2_init_26 flRX2_18 rfl (Or.inr ⟨_, rfl⟩) (Or.inr ⟨rfl, rfl, rfl⟩) z5_0 (by decide) e6 ?_
  have l6 : w6.1.length = w.1.length + 3 := by rw [e6]; exact l5
  have s6 : pSl w6.1 = pSl w.1 + 321 := by rw [e6]; exact s5
  have z6_0 : w6.1[a0]? = some (2, 10) := by rw [e6]; exact z5_0
  refine ok_aload_n dX2_init_29 0 rfl ?_
  refine ok_bipush (v := 16) dX2_init_30 (by decide) ?_
  obtain ⟨w7, e7, h⟩ := blE h
  refine oi_newa (kd := 13) (N := 16) dX2_init_32 rfl (Or.inl ⟨rfl, rfl⟩) wa_int (by decide) (by decide) (by decide) (b_len (mc := 7) l6 hL (by decide)) (b_c1 (mc := 7) l6 (by decide)) (b_s1 (ms := 427) s6 (by decide)) e7 ?_
  have l7 : w7.1.length = w.1.length + 4 := ln_new e7 l6
  have s7 : pSl w7.1 = pSl w.1 + 337 := sn_new e7 s6
  have z7_0 : w7.1[a0]? = some (2, 10) := by rw [e7]; exact z_new z6_0
  have z7_n : w7.1[w6.1.length]? = some (13, 16) := by rw [e7]; exact z_at _ _
  obtain ⟨w8, e8, h⟩ := blE h
  refine oi_putR (ci := 2) (k := 3) dX2_init_34 flRX2_21 rfl (Or.inr ⟨_, rfl⟩) (Or.inr ⟨rfl, rfl, rfl⟩) z7_0 (by decide) e8 ?_
  have l8 : w8.1.length = w.1.length + 4 := by rw [e8]; exact l7
  have s8 : pSl w8.1 = pSl w.1 + 337 := by rw [e8]; exact s7
  have z8_0 : w8.1[a0]? = some (2, 10) := by rw [e8]; exact z7_0
  refine ok_aload_n dX2_init_37 0 rfl ?_
  refine ok_bipush (v := 80) dX2_init_38 (by decide) ?_
  obtain ⟨w9, e9, h⟩ := blE h
  refine oi_newa (kd := 13) (N := 80) dX2_init_40 rfl (Or.inl ⟨rfl, rfl⟩) wa_int (by decide) (by decide) (by decide) (b_len (mc := 7) l8 hL (by decide)) (b_c1 (mc := 7) l8 (by decide)) (b_s1 (ms := 427) s8 (by decide)) e9 ?_
  have l9 : w9.1.length = w.1.length + 5 := ln_new e9 l8
  have s9 : pSl w9.1 = pSl w.1 + 417 := sn_new e9 s8
  have z9_0 : w9.1[a0]? = some (2, 10) := by rw [e9]; exact z_new z8_0
  have z9_n : w9.1[w8.1.length]? = some (13, 80) := by rw [e9]; exact z_at _ _
  obtain ⟨w10, e10, h⟩ := blE h
  refine oi_putR (ci := 2) (k := 4) dX2_init_42 flRX2_24 rfl (Or.inr ⟨_, rfl⟩) (Or.inr ⟨rfl, rfl, rfl⟩) z9_0 (by decide) e10 ?_
  have l10 : w10.1.length = w.1.length + 5 := by rw [e10]; exact l9
  have s10 : pSl w10.1 = pSl w.1 + 417 := by rw [e10]; exact s9
  have z10_0 : w10.1[a0]? = some (2, 10) := by rw [e10]; exact z9_0
  refine ok_aload_n dX2_init_45 0 rfl ?_
  refine ok_iconst (v := 5) dX2_init_46 (by decide) ?_
  obtain ⟨w11, e11, h⟩ := blE h
  refine oi_newa (kd := 13) (N := 5) dX2_init_47 rfl (Or.inl ⟨rfl, rfl⟩) wa_int (by decide) (by decide) (by decide) (b_len (mc := 7) l10 hL (by decide)) (b_c1 (mc := 7) l10 (by decide)) (b_s1 (ms := 427) s10 (by decide)) e11 ?_
  have l11 : w11.1.length = w.1.length + 6 := ln_new e11 l10
  have s11 : pSl w11.1 = pSl w.1 + 422 := sn_new e11 s10
  have z11_0 : w11.1[a0]? = some (2, 10) := by rw [e11]; exact z_new z10_0
  have z11_n : w11.1[w10.1.length]? = some (13, 5) := by rw [e11]; exact z_at _ _
  obtain ⟨w12, e12, h⟩ := blE h
  refine oi_putR (ci := 2) (k := 5) dX2_init_49 flRX2_27 rfl (Or.inr ⟨_, rfl⟩) (Or.inr ⟨rfl, rfl, rfl⟩) z11_0 (by decide) e12 ?_
  have l12 : w12.1.length = w.1.length + 6 := by rw [e12]; exact l11
  have s12 : pSl w12.1 = pSl w.1 + 422 := by rw [e12]; exact s11
  have z12_0 : w12.1[a0]? = some (2, 10) := by rw [e12]; exact z11_0
  refine ok_aload_n dX2_init_52 0 rfl ?_
  refine ok_iconst (v := 5) dX2_init_53 (by decide) ?_
  obtain ⟨w13, e13, h⟩ := blE h
  refine oi_newa (kd := 13) (N := 5) dX2_init_54 rfl (Or.inl ⟨rfl, rfl⟩) wa_int (by decide) (by decide) (by decide) (b_len (mc := 7) l12 hL (by decide)) (b_c1 (mc := 7) l12 (by decide)) (b_s1 (ms := 427) s12 (by decide)) e13 ?_
  have l13 : w13.1.length = w.1.length + 7 := ln_new e13 l12
  have s13 : pSl w13.1 = pSl w.1 + 427 := sn_new e13 s12
  have z13_0 : w13.1[a0]? = some (2, 10) := by rw [e13]; exact z_new z12_0
  have z13_n : w13.1[w12.1.length]? = some (13, 5) := by rw [e13]; exact z_at _ _
  obtain ⟨w14, e14, h⟩ := blE h
  refine oi_putR (ci := 2) (k := 6) dX2_init_56 flRX2_30 rfl (Or.inr ⟨_, rfl⟩) (Or.inr ⟨rfl, rfl, rfl⟩) z13_0 (by decide) e14 ?_
  have l14 : w14.1.length = w.1.length + 7 := by rw [e14]; exact l13
  have s14 : pSl w14.1 = pSl w.1 + 427 := by rw [e14]; exact s13
  have z14_0 : w14.1[a0]? = some (2, 10) := by rw [e14]; exact z13_0
  subst h
  exact ok_vret dX2_init_59 hQ
theorem ki2_init {g : pG} {Q : Option Value → pW → Prop} {w wf : pW} {a0 : Nat} (d : Nat) (hz0 : w.1[a0]? = some (2, 10)) (hL : w.1.length + 7 ≤ 1000) (h : i2_init a0 w = wf) (hQ : Q none wf) : CT g (d + 2) m2_init 7 427 [.ref a0] w Q :=
  ct_of_ok (mt := m2_init) (ini := true) mo2_init.2.2.2.2 (fun _ => rfl) (Nat.le_of_ble_eq_true rfl) (oi2_init d hz0 hL h ⟨trivial, hQ, (F2_init h).1, (F2_init h).2.1⟩)
theorem lkRX6_3 : Cond.methodLink RX6 3 objectInit ∈ lw_tbl := tb_i 273 (by decide +kernel)
theorem dX6_init_0 : decode cX6_init 0 = .ok (.aload_n 0, 1) := by decide +kernel
theorem dX6_init_1 : decode cX6_init 1 = .ok (.invokespecial 3, 3) := by decide +kernel
theorem dX6_init_4 : decode cX6_init 4 = .ok (.aload_n 0, 1) := by decide +kernel
theorem dX6_init_5 : decode cX6_init 5 = .ok (.iconst 5, 1) := by decide +kernel
theorem dX6_init_6 : decode cX6_init 6 = .ok (.newarray .int, 2) := by decide +kernel
theorem dX6_init_8 : decode cX6_init 8 = .ok (.putfield 9, 3) := by decide +kernel
theorem dX6_init_11 : decode cX6_init 11 = .ok (.aload_n 0, 1) := by decide +kernel
theorem dX6_init_12 : decode cX6_init 12 = .ok (.bipush 30, 2) := by decide +kernel
theorem dX6_init_14 : decode cX6_init 14 = .ok (.newarray .int, 2) := by decide +kernel
theorem dX6_init_16 : decode cX6_init 16 = .ok (.putfield 15, 3) := by decide +kernel
theorem dX6_init_19 : decode cX6_init 19 = .ok (.aload_n 0, 1) := by decide +kernel
theorem dX6_init_20 : decode cX6_init 20 = .ok (.sipush 600, 3) := by decide +kernel
theorem dX6_init_23 : decode cX6_init 23 = .ok (.newarray .int, 2) := by decide +kernel
theorem dX6_init_25 : decode cX6_init 25 = .ok (.putfield 18, 3) := by decide +kernel
theorem dX6_init_28 : decode cX6_init 28 = .ok (.aload_n 0, 1) := by decide +kernel
theorem dX6_init_29 : decode cX6_init 29 = .ok (.bipush 17, 2) := by decide +kernel
theorem dX6_init_31 : decode cX6_init 31 = .ok (.newarray .long, 2) := by decide +kernel
theorem dX6_init_33 : decode cX6_init 33 = .ok (.putfield 21, 3) := by decide +kernel
theorem dX6_init_36 : decode cX6_init 36 = .ok (.aload_n 0, 1) := by decide +kernel
theorem dX6_init_37 : decode cX6_init 37 = .ok (.aload_n 1, 1) := by decide +kernel
theorem dX6_init_38 : decode cX6_init 38 = .ok (.putfield 25, 3) := by decide +kernel
theorem dX6_init_41 : decode cX6_init 41 = .ok (.return_, 1) := by decide +kernel
def m6_init : pMT := (yX6_init, cX6_init, 2, none)
theorem mo6_init : mOK m6_init 1 := ⟨tb_i 272 (by decide +kernel), wi_RX6, ⟨wn_RX6.1, wn_RX6.2, by decide +kernel⟩, by decide, plainFor_of_name wp_RX6⟩
theorem mv6_init : mI m6_init := ⟨tb_i 271 (by decide +kernel), rfl, rfl⟩
def i6_init (a0 : Nat) (a1 : Nat) (w : pW) : pW := bl (pNew w (13, 5)) fun w1 => bl (wR w1 a0 1 w.1.length) fun w2 => bl (pNew w2 (13, 30)) fun w3 => bl (wR w3 a0 2 w2.1.length) fun w4 => bl (pNew w4 (13, 600)) fun w5 => bl (wR w5 a0 3 w4.1.length) fun w6 => bl (pNew w6 (14, 17)) fun w7 => bl (wR w7 a0 4 w6.1.length) fun w8 => bl (wR w8 a0 0 a1) fun w9 => w9
set_option maxHeartbeats 4000000 in
set_option maxRecDepth 20000 in
theorem F6_init {a0 a1 : Nat} {w wf : pW} (h : i6_init a0 a1 w = wf) : wf.1.length = w.1.length + 4 ∧ pSl wf.1 = pSl w.1 + 652 ∧ (∀ (c : Nat) (q : Nat × Nat), w.1[c]? = some q → wf.1[c]? = some q) ∧ ∀ (c k : Nat) (q : Nat × Nat), w.1[c]? = some q → c ≠ a0 → wf.2.2.2 c k = w.2.2.2 c k := by
  unfold i6_init at h
  have P0 : (w.1.length = w.1.length + 0 ∧ pSl w.1 = pSl w.1 + 0) ∧ (∀ (c : Nat) (q : Nat × Nat), w.1[c]? = some q → w.1[c]? = some q) ∧ ∀ (c k : Nat) (q : Nat × Nat), w.1[c]? = some q → c ≠ a0 → w.2.2.2 c k = w.2.2.2 c k := ⟨⟨rfl, rfl⟩, fun _ _ h => h, fun _ _ _ _ _ => rfl⟩
  obtain ⟨w1, e1, h⟩ := blE h
  have P1 : (w1.1.length = w.1.length + 1 ∧ pSl w1.1 = pSl w.1 + 5) ∧ (∀ (c : Nat) (q : Nat × Nat), w.1[c]? = some q → w1.1[c]? = some q) ∧ ∀ (c k : Nat) (q : Nat × Nat), w.1[c]? = some q → c ≠ a0 → w1.2.2.2 c k = w.2.2.2 c k := pf_new P0 e1
  obtain ⟨w2, e2, h⟩ := blE h
  have P2 : (w2.1.length = w.1.length + 1 ∧ pSl w2.1 = pSl w.1 + 5) ∧ (∀ (c : Nat) (q : Nat × Nat), w.1[c]? = some q → w2.1[c]? = some q) ∧ ∀ (c k : Nat) (q : Nat × Nat), w.1[c]? = some q → c ≠ a0 → w2.2.2.2 c k = w.2.2.2 c k := pf_R P1 e2 (fun c q hc => Or.inl rfl)
  obtain ⟨w3, e3, h⟩ := blE h
  have P3 : (w3.1.length = w.1.length + 2 ∧ pSl w3.1 = pSl w.1 + 35) ∧ (∀ (c : Nat) (q : Nat × Nat), w.1[c]? = some q → w3.1[c]? = some q) ∧ ∀ (c k : Nat) (q : Nat × Nat), w.1[c]? = some q → c ≠ a0 → w3.2.2.2 c k = w.2.2.2 c k := pf_new P2 e3
  obtain ⟨w4, e4, h⟩ := blE h
  have P4 : (w4.1.length = w.1.length + 2 ∧ pSl w4.1 = pSl w.1 + 35) ∧ (∀ (c : Nat) (q : Nat × Nat), w.1[c]? = some q → w4.1[c]? = some q) ∧ ∀ (c k : Nat) (q : Nat × Nat), w.1[c]? = some q → c ≠ a0 → w4.2.2.2 c k = w.2.2.2 c k := pf_R P3 e4 (fun c q hc => Or.inl rfl)
  obtain ⟨w5, e5, h⟩ := blE h
  have P5 : (w5.1.length = w.1.length + 3 ∧ pSl w5.1 = pSl w.1 + 635) ∧ (∀ (c : Nat) (q : Nat × Nat), w.1[c]? = some q → w5.1[c]? = some q) ∧ ∀ (c k : Nat) (q : Nat × Nat), w.1[c]? = some q → c ≠ a0 → w5.2.2.2 c k = w.2.2.2 c k := pf_new P4 e5
  obtain ⟨w6, e6, h⟩ := blE h
  have P6 : (w6.1.length = w.1.length + 3 ∧ pSl w6.1 = pSl w.1 + 635) ∧ (∀ (c : Nat) (q : Nat × Nat), w.1[c]? = some q → w6.1[c]? = some q) ∧ ∀ (c k : Nat) (q : Nat × Nat), w.1[c]? = some q → c ≠ a0 → w6.2.2.2 c k = w.2.2.2 c k := pf_R P5 e6 (fun c q hc => Or.inl rfl)
  obtain ⟨w7, e7, h⟩ := blE h
  have P7 : (w7.1.length = w.1.length + 4 ∧ pSl w7.1 = pSl w.1 + 652) ∧ (∀ (c : Nat) (q : Nat × Nat), w.1[c]? = some q → w7.1[c]? = some q) ∧ ∀ (c k : Nat) (q : Nat × Nat), w.1[c]? = some q → c ≠ a0 → w7.2.2.2 c k = w.2.2.2 c k := pf_new P6 e7
  obtain ⟨w8, e8, h⟩ := blE h
  have P8 : (w8.1.length = w.1.length + 4 ∧ pSl w8.1 = pSl w.1 + 652) ∧ (∀ (c : Nat) (q : Nat × Nat), w.1[c]? = some q → w8.1[c]? = some q) ∧ ∀ (c k : Nat) (q : Nat × Nat), w.1[c]? = some q → c ≠ a0 → w8.2.2.2 c k = w.2.2.2 c k := pf_R P7 e8 (fun c q hc => Or.inl rfl)
  obtain ⟨w9, e9, h⟩ := blE h
  have P9 : (w9.1.length = w.1.length + 4 ∧ pSl w9.1 = pSl w.1 + 652) ∧ (∀ (c : Nat) (q : Nat × Nat), w.1[c]? = some q → w9.1[c]? = some q) ∧ ∀ (c k : Nat) (q : Nat × Nat), w.1[c]? = some q → c ≠ a0 → w9.2.2.2 c k = w.2.2.2 c k := pf_R P8 e9 (fun c q hc => Or.inl rfl)
  subst h
  exact ⟨P9.1.1, P9.1.2, P9.2⟩
set_option maxHeartbeats 4000000 in
set_option maxRecDepth 20000 in
theorem oi6_init {g : pG} {Qx : Option Value → pW → Prop} {w wf : pW} {a0 a1 : Nat} (d : Nat) (hz0 : w.1[a0]? = some (6, 5)) (hz1 : w.1[a1]? = some (1, 3)) (hL : w.1.length + 4 ≤ 1000) (h : i6_init a0 a1 w = wf) (hQ : Qx none wf) : Ok g (d + 2, RX6, cX6_init, 2, true, 4, 652, w.1.length, pSl w.1) Qx 0 [(0, .ref a0), (1, .ref a1)] [] w := by
  unfold i6_init at h
  have l0 : w.1.length = w.1.length + 0 := rfl
  have s0 : pSl w.1 = pSl w.1 + 0 := rfl
  refine ok_aload_n dX6_init_0 0 rfl ?_
  refine ok_oinit dX6_init_1 lkRX6_3 (Nat.le_of_ble_eq_true rfl) (by show 1 ≤ d + _; omega) ?_
  refine ok_aload_n dX6_init_4 0 rfl ?_
  refine ok_iconst (v := 5) dX6_init_5 (by decide) ?_
  obtain ⟨w1, e1, h⟩ := blE h
  refine oi_newa (kd := 13) (N := 5) dX6_init_6 rfl (Or.inl ⟨rfl, rfl⟩) wa_int (by decide) (by decide) (by decide) (b_len (mc := 4) l0 hL (by decide)) (b_c1 (mc := 4) l0 (by decide)) (b_s1 (ms := 652) s0 (by decide)) e1 ?_
  have l1 : w1.1.length = w.1.length + 1 := ln_new e1 l0
  have s1 : pSl w1.1 = pSl w.1 + 5 := sn_new e1 s0
  have z1_0 : w1.1[a0]? = some (6, 5) := by rw [e1]; exact z_new hz0
  have z1_1 : w1.1[a1]? = some (1, 3) := by rw [e1]; exact z_new hz1
  have z1_n : w1.1[w.1.length]? = some (13, 5) := by rw [e1]; exact z_at _ _
  obtain ⟨w2, e2, h⟩ := blE h
  refine oi_putR (ci := 6) (k := 1) dX6_init_8 flRX6_9 rfl (Or.inr ⟨_, rfl⟩) (Or.inr ⟨rfl, rfl, rfl⟩) z1_0 (by decide) e2 ?_
  have l2 : w2.1.length = w.1.length + 1 := by rw [e2]; exact l1
  have s2 : pSl w2.1 = pSl w.1 + 5 := by rw [e2]; exact s1
  have z2_0 : w2.1[a0]? = some (6, 5) := by rw [e2]; exact z1_0
  have z2_1 : w2.1[a1]? = some (1, 3) := by rw [e2]; exact z1_1
  refine ok_aload_n dX6_init_11 0 rfl ?_
  refine ok_bipush (v := 30) dX6_init_12 (by decide) ?_
  obtain ⟨w3, e3, h⟩ := blE h
  refine oi_newa (kd := 13) (N := 30) dX6_init_14 rfl (Or.inl ⟨rfl, rfl⟩) wa_int (by decide) (by decide) (by decide) (b_len (mc := 4) l2 hL (by decide)) (b_c1 (mc := 4) l2 (by decide)) (b_s1 (ms := 652) s2 (by decide)) e3 ?_
  have l3 : w3.1.length = w.1.length + 2 := ln_new e3 l2
  have s3 : pSl w3.1 = pSl w.1 + 35 := sn_new e3 s2
  have z3_0 : w3.1[a0]? = some (6, 5) := by rw [e3]; exact z_new z2_0
  have z3_1 : w3.1[a1]? = some (1, 3) := by rw [e3]; exact z_new z2_1
  have z3_n : w3.1[w2.1.length]? = some (13, 30) := by rw [e3]; exact z_at _ _
  obtain ⟨w4, e4, h⟩ := blE h
  refine oi_putR (ci := 6) (k := 2) dX6_init_16 flRX6_15 rfl (Or.inr ⟨_, rfl⟩) (Or.inr ⟨rfl, rfl, rfl⟩) z3_0 (by decide) e4 ?_
  have l4 : w4.1.length = w.1.length + 2 := by rw [e4]; exact l3
  have s4 : pSl w4.1 = pSl w.1 + 35 := by rw [e4]; exact s3
  have z4_0 : w4.1[a0]? = some (6, 5) := by rw [e4]; exact z3_0
  have z4_1 : w4.1[a1]? = some (1, 3) := by rw [e4]; exact z3_1
  refine ok_aload_n dX6_init_19 0 rfl ?_
  refine ok_sipush (v := 600) dX6_init_20 (by decide) ?_
  obtain ⟨w5, e5, h⟩ := blE h
  refine oi_newa (kd := 13) (N := 600) dX6_init_23 rfl (Or.inl ⟨rfl, rfl⟩) wa_int (by decide) (by decide) (by decide) (b_len (mc := 4) l4 hL (by decide)) (b_c1 (mc := 4) l4 (by decide)) (b_s1 (ms := 652) s4 (by decide)) e5 ?_
  have l5 : w5.1.length = w.1.length + 3 := ln_new e5 l4
  have s5 : pSl w5.1 = pSl w.1 + 635 := sn_new e5 s4
  have z5_0 : w5.1[a0]? = some (6, 5) := by rw [e5]; exact z_new z4_0
  have z5_1 : w5.1[a1]? = some (1, 3) := by rw [e5]; exact z_new z4_1
  have z5_n : w5.1[w4.1.length]? = some (13, 600) := by rw [e5]; exact z_at _ _
  obtain ⟨w6, e6, h⟩ := blE h
  refine oi_putR (ci := 6) (k := 3) dX6_init_25 flRX6_18 rfl (Or.inr ⟨_, rfl⟩) (Or.inr ⟨rfl, rfl, rfl⟩) z5_0 (by decide) e6 ?_
  have l6 : w6.1.length = w.1.length + 3 := by rw [e6]; exact l5
  have s6 : pSl w6.1 = pSl w.1 + 635 := by rw [e6]; exact s5
  have z6_0 : w6.1[a0]? = some (6, 5) := by rw [e6]; exact z5_0
  have z6_1 : w6.1[a1]? = some (1, 3) := by rw [e6]; exact z5_1
  refine ok_aload_n dX6_init_28 0 rfl ?_
  refine ok_bipush (v := 17) dX6_init_29 (by decide) ?_
  obtain ⟨w7, e7, h⟩ := blE h
  refine oi_newa (kd := 14) (N := 17) dX6_init_31 rfl (Or.inr (Or.inl ⟨rfl, rfl⟩)) wa_long (by decide) (by decide) (by decide) (b_len (mc := 4) l6 hL (by decide)) (b_c1 (mc := 4) l6 (by decide)) (b_s1 (ms := 652) s6 (by decide)) e7 ?_
  have l7 : w7.1.length = w.1.length + 4 := ln_new e7 l6
  have s7 : pSl w7.1 = pSl w.1 + 652 := sn_new e7 s6
  have z7_0 : w7.1[a0]? = some (6, 5) := by rw [e7]; exact z_new z6_0
  have z7_1 : w7.1[a1]? = some (1, 3) := by rw [e7]; exact z_new z6_1
  have z7_n : w7.1[w6.1.length]? = some (14, 17) := by rw [e7]; exact z_at _ _
  obtain ⟨w8, e8, h⟩ := blE h
  refine oi_putR (ci := 6) (k := 4) dX6_init_33 flRX6_21 rfl (Or.inr ⟨_, rfl⟩) (Or.inr ⟨rfl, rfl, rfl⟩) z7_0 (by decide) e8 ?_
  have l8 : w8.1.length = w.1.length + 4 := by rw [e8]; exact l7
  have s8 : pSl w8.1 = pSl w.1 + 652 := by rw [e8]; exact s7
  have z8_0 : w8.1[a0]? = some (6, 5) := by rw [e8]; exact z7_0
  have z8_1 : w8.1[a1]? = some (1, 3) := by rw [e8]; exact z7_1
  refine ok_aload_n dX6_init_36 0 rfl ?_
  refine ok_aload_n dX6_init_37 1 rfl ?_
  obtain ⟨w9, e9, h⟩ := blE h
  refine oi_putR (ci := 6) (k := 0) dX6_init_38 flRX6_25 rfl (Or.inl ⟨_, rfl⟩) (Or.inr ⟨rfl, rfl, rfl⟩) z8_0 (by decide) e9 ?_
  have l9 : w9.1.length = w.1.length + 4 := by rw [e9]; exact l8
  have s9 : pSl w9.1 = pSl w.1 + 652 := by rw [e9]; exact s8
  have z9_0 : w9.1[a0]? = some (6, 5) := by rw [e9]; exact z8_0
  have z9_1 : w9.1[a1]? = some (1, 3) := by rw [e9]; exact z8_1
  subst h
  exact ok_vret dX6_init_41 hQ
theorem ki6_init {g : pG} {Q : Option Value → pW → Prop} {w wf : pW} {a0 a1 : Nat} (d : Nat) (hz0 : w.1[a0]? = some (6, 5)) (hz1 : w.1[a1]? = some (1, 3)) (hL : w.1.length + 4 ≤ 1000) (h : i6_init a0 a1 w = wf) (hQ : Q none wf) : CT g (d + 2) m6_init 4 652 [.ref a0, .ref a1] w Q :=
  ct_of_ok (mt := m6_init) (ini := true) mo6_init.2.2.2.2 (fun _ => rfl) (Nat.le_of_ble_eq_true rfl) (oi6_init d hz0 hz1 hL h ⟨trivial, hQ, (F6_init h).1, (F6_init h).2.1⟩)
theorem lkRX5_3 : Cond.methodLink RX5 3 objectInit ∈ lw_tbl := tb_i 326 (by decide +kernel)
theorem lkRX5_11 : Cond.methodLink RX5 11 yX7_init ∈ lw_tbl := tb_i 328 (by decide +kernel)
theorem dX5_init_0 : decode cX5_init 0 = .ok (.aload_n 0, 1) := by decide +kernel
theorem dX5_init_1 : decode cX5_init 1 = .ok (.invokespecial 3, 3) := by decide +kernel
theorem dX5_init_4 : decode cX5_init 4 = .ok (.aload_n 0, 1) := by decide +kernel
theorem dX5_init_5 : decode cX5_init 5 = .ok (.new 9, 3) := by decide +kernel
theorem dX5_init_8 : decode cX5_init 8 = .ok (.dup, 1) := by decide +kernel
theorem dX5_init_9 : decode cX5_init 9 = .ok (.invokespecial 11, 3) := by decide +kernel
theorem dX5_init_12 : decode cX5_init 12 = .ok (.putfield 12, 3) := by decide +kernel
theorem dX5_init_15 : decode cX5_init 15 = .ok (.aload_n 0, 1) := by decide +kernel
theorem dX5_init_16 : decode cX5_init 16 = .ok (.iconst (-1), 1) := by decide +kernel
theorem dX5_init_17 : decode cX5_init 17 = .ok (.putfield 18, 3) := by decide +kernel
theorem dX5_init_20 : decode cX5_init 20 = .ok (.aload_n 0, 1) := by decide +kernel
theorem dX5_init_21 : decode cX5_init 21 = .ok (.aload_n 1, 1) := by decide +kernel
theorem dX5_init_22 : decode cX5_init 22 = .ok (.putfield 22, 3) := by decide +kernel
theorem dX5_init_25 : decode cX5_init 25 = .ok (.return_, 1) := by decide +kernel
def m5_init : pMT := (yX5_init, cX5_init, 2, none)
theorem mo5_init : mOK m5_init 1 := ⟨tb_i 325 (by decide +kernel), wi_RX5, ⟨wn_RX5.1, wn_RX5.2, by decide +kernel⟩, by decide, plainFor_of_name wp_RX5⟩
theorem mv5_init : mI m5_init := ⟨tb_i 324 (by decide +kernel), rfl, rfl⟩
def i5_init (a0 : Nat) (a1 : Nat) (w : pW) : pW := bl (pNew w (7, 7)) fun w1 => bl (i7_init w.1.length w1) fun w2 => bl (wR w2 a0 1 w.1.length) fun w3 => bl (wI w3 a0 7 (-1)) fun w4 => bl (wR w4 a0 0 a1) fun w5 => w5
set_option maxHeartbeats 4000000 in
set_option maxRecDepth 20000 in
theorem F5_init {a0 a1 : Nat} {w wf : pW} (h : i5_init a0 a1 w = wf) : wf.1.length = w.1.length + 6 ∧ pSl wf.1 = pSl w.1 + 382 ∧ (∀ (c : Nat) (q : Nat × Nat), w.1[c]? = some q → wf.1[c]? = some q) ∧ ∀ (c k : Nat) (q : Nat × Nat), w.1[c]? = some q → c ≠ a0 → wf.2.2.2 c k = w.2.2.2 c k := by
  unfold i5_init at h
  have P0 : (w.1.length = w.1.length + 0 ∧ pSl w.1 = pSl w.1 + 0) ∧ (∀ (c : Nat) (q : Nat × Nat), w.1[c]? = some q → w.1[c]? = some q) ∧ ∀ (c k : Nat) (q : Nat × Nat), w.1[c]? = some q → c ≠ a0 → w.2.2.2 c k = w.2.2.2 c k := ⟨⟨rfl, rfl⟩, fun _ _ h => h, fun _ _ _ _ _ => rfl⟩
  obtain ⟨w1, e1, h⟩ := blE h
  have P1 : (w1.1.length = w.1.length + 1 ∧ pSl w1.1 = pSl w.1 + 7) ∧ (∀ (c : Nat) (q : Nat × Nat), w.1[c]? = some q → w1.1[c]? = some q) ∧ ∀ (c k : Nat) (q : Nat × Nat), w.1[c]? = some q → c ≠ a0 → w1.2.2.2 c k = w.2.2.2 c k := pf_new P0 e1
  obtain ⟨w2, e2, h⟩ := blE h
  have P2 : (w2.1.length = w.1.length + 6 ∧ pSl w2.1 = pSl w.1 + 382) ∧ (∀ (c : Nat) (q : Nat × Nat), w.1[c]? = some q → w2.1[c]? = some q) ∧ ∀ (c k : Nat) (q : Nat × Nat), w.1[c]? = some q → c ≠ a0 → w2.2.2.2 c k = w.2.2.2 c k := pf_S P1 (F7_init e2.symm) (fun c q hc => pf_ne P0 hc)
  obtain ⟨w3, e3, h⟩ := blE h
  have P3 : (w3.1.length = w.1.length + 6 ∧ pSl w3.1 = pSl w.1 + 382) ∧ (∀ (c : Nat) (q : Nat × Nat), w.1[c]? = some q → w3.1[c]? = some q) ∧ ∀ (c k : Nat) (q : Nat × Nat), w.1[c]? = some q → c ≠ a0 → w3.2.2.2 c k = w.2.2.2 c k := pf_R P2 e3 (fun c q hc => Or.inl rfl)
  obtain ⟨w4, e4, h⟩ := blE h
  have P4 : (w4.1.length = w.1.length + 6 ∧ pSl w4.1 = pSl w.1 + 382) ∧ (∀ (c : Nat) (q : Nat × Nat), w.1[c]? = some q → w4.1[c]? = some q) ∧ ∀ (c k : Nat) (q : Nat × Nat), w.1[c]? = some q → c ≠ a0 → w4.2.2.2 c k = w.2.2.2 c k := pf_I P3 e4
  obtain ⟨w5, e5, h⟩ := blE h
  have P5 : (w5.1.length = w.1.length + 6 ∧ pSl w5.1 = pSl w.1 + 382) ∧ (∀ (c : Nat) (q : Nat × Nat), w.1[c]? = some q → w5.1[c]? = some q) ∧ ∀ (c k : Nat) (q : Nat × Nat), w.1[c]? = some q → c ≠ a0 → w5.2.2.2 c k = w.2.2.2 c k := pf_R P4 e5 (fun c q hc => Or.inl rfl)
  subst h
  exact ⟨P5.1.1, P5.1.2, P5.2⟩
set_option maxHeartbeats 4000000 in
set_option maxRecDepth 20000 in
theorem oi5_init {g : pG} {Qx : Option Value → pW → Prop} {w wf : pW} {a0 a1 : Nat} (d : Nat) (hz0 : w.1[a0]? = some (5, 8)) (hz1 : w.1[a1]? = some (8, 6)) (hL : w.1.length + 6 ≤ 1000) (h : i5_init a0 a1 w = wf) (hQ : Qx none wf) : Ok g (d + 3, RX5, cX5_init, 2, true, 6, 382, w.1.length, pSl w.1) Qx 0 [(0, .ref a0), (1, .ref a1)] [] w := by
  unfold i5_init at h
  have l0 : w.1.length = w.1.length + 0 := rfl
  have s0 : pSl w.1 = pSl w.1 + 0 := rfl
  refine ok_aload_n dX5_init_0 0 rfl ?_
  refine ok_oinit dX5_init_1 lkRX5_3 (Nat.le_of_ble_eq_true rfl) (by show 1 ≤ d + _; omega) ?_
  refine ok_aload_n dX5_init_4 0 rfl ?_
  obtain ⟨w1, e1, h⟩ := blE h
  refine oi_new (ci := 7) (q := (RX7, TX7, 7)) dX5_init_5 rfl (tb_i (c := Cond.classLink RX5 9 RX7) 327 (by decide +kernel)) (b_len (mc := 6) l0 hL (by decide)) (b_c1 (mc := 6) l0 (by decide)) (b_s1 (N := 7) (ms := 382) s0 (by decide)) e1 ?_
  have l1 : w1.1.length = w.1.length + 1 := ln_new e1 l0
  have s1 : pSl w1.1 = pSl w.1 + 7 := sn_new e1 s0
  have z1_0 : w1.1[a0]? = some (5, 8) := by rw [e1]; exact z_new hz0
  have z1_1 : w1.1[a1]? = some (8, 6) := by rw [e1]; exact z_new hz1
  have z1_n : w1.1[w.1.length]? = some (7, 7) := by rw [e1]; exact z_at _ _
  refine ok_dup dX5_init_8 rfl ?_
  refine ok_callI (d := (d + 0 + 2)) (mt := m7_init) (mc := 5) (ms := 375) (a := w.1.length) (As := []) (r := [.ref w.1.length, .ref a0]) dX5_init_9 mo7_init mv7_init lkRX5_11 rfl rfl (Nat.le_of_ble_eq_true rfl) (dep_le d (by decide)) (b_cm (mc := 6) l1 (by decide)) (b_cm (mc := 382) s1 (by decide)) ?_
  obtain ⟨w2, e2, h⟩ := blE h
  refine ki7_init (d + 0) z1_n (b_sub l1 hL (by decide)) e2.symm ?_
  show Ok g _ Qx 12 [(0, .ref a0), (1, .ref a1)] [.ref w.1.length, .ref a0] w2
  have F2 := F7_init e2.symm
  have l2 : w2.1.length = w.1.length + 6 := ln_sub F2.1 l1
  have s2 : pSl w2.1 = pSl w.1 + 382 := ln_sub F2.2.1 s1
  have z2_0 : w2.1[a0]? = some (5, 8) := by exact F2.2.2.1 _ _ z1_0
  have z2_1 : w2.1[a1]? = some (8, 6) := by exact F2.2.2.1 _ _ z1_1
  have z2_2 : w2.1[w.1.length]? = some (7, 7) := by exact F2.2.2.1 _ _ z1_n
  obtain ⟨w3, e3, h⟩ := blE h
  refine oi_putR (ci := 5) (k := 1) dX5_init_12 flRX5_12 rfl (Or.inl ⟨_, rfl⟩) (Or.inl rfl) z2_0 (by decide) e3 ?_
  have l3 : w3.1.length = w.1.length + 6 := by rw [e3]; exact l2
  have s3 : pSl w3.1 = pSl w.1 + 382 := by rw [e3]; exact s2
  have z3_0 : w3.1[a0]? = some (5, 8) := by rw [e3]; exact z2_0
  have z3_1 : w3.1[a1]? = some (8, 6) := by rw [e3]; exact z2_1
  refine ok_aload_n dX5_init_15 0 rfl ?_
  refine ok_iconst (v := (-1)) dX5_init_16 (by decide) ?_
  obtain ⟨w4, e4, h⟩ := blE h
  refine oi_putI (ci := 5) (k := 7) dX5_init_17 flRX5_18 rfl (Or.inl rfl) z3_0 (by decide) e4 ?_
  have l4 : w4.1.length = w.1.length + 6 := by rw [e4]; exact l3
  have s4 : pSl w4.1 = pSl w.1 + 382 := by rw [e4]; exact s3
  have z4_0 : w4.1[a0]? = some (5, 8) := by rw [e4]; exact z3_0
  have z4_1 : w4.1[a1]? = some (8, 6) := by rw [e4]; exact z3_1
  refine ok_aload_n dX5_init_20 0 rfl ?_
  refine ok_aload_n dX5_init_21 1 rfl ?_
  obtain ⟨w5, e5, h⟩ := blE h
  refine oi_putR (ci := 5) (k := 0) dX5_init_22 flRX5_22 rfl (Or.inl ⟨_, rfl⟩) (Or.inr ⟨rfl, rfl, rfl⟩) z4_0 (by decide) e5 ?_
  have l5 : w5.1.length = w.1.length + 6 := by rw [e5]; exact l4
  have s5 : pSl w5.1 = pSl w.1 + 382 := by rw [e5]; exact s4
  have z5_0 : w5.1[a0]? = some (5, 8) := by rw [e5]; exact z4_0
  have z5_1 : w5.1[a1]? = some (8, 6) := by rw [e5]; exact z4_1
  subst h
  exact ok_vret dX5_init_25 hQ
theorem ki5_init {g : pG} {Q : Option Value → pW → Prop} {w wf : pW} {a0 a1 : Nat} (d : Nat) (hz0 : w.1[a0]? = some (5, 8)) (hz1 : w.1[a1]? = some (8, 6)) (hL : w.1.length + 6 ≤ 1000) (h : i5_init a0 a1 w = wf) (hQ : Q none wf) : CT g (d + 3) m5_init 6 382 [.ref a0, .ref a1] w Q :=
  ct_of_ok (mt := m5_init) (ini := true) mo5_init.2.2.2.2 (fun _ => rfl) (Nat.le_of_ble_eq_true rfl) (oi5_init d hz0 hz1 hL h ⟨trivial, hQ, (F5_init h).1, (F5_init h).2.1⟩)
