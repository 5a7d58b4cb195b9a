theorem lkRX3_3 : Cond.methodLink RX3 3 objectInit ∈ lw_tbl := tb_i 47 (by decide +kernel)
theorem dX3_init_0 : decode cX3_init 0 = .ok (.aload_n 0, 1) := by decide +kernel
theorem dX3_init_1 : decode cX3_init 1 = .ok (.invokespecial 3, 3) := by decide +kernel
theorem dX3_init_4 : decode cX3_init 4 = .ok (.aload_n 0, 1) := by decide +kernel
theorem dX3_init_5 : decode cX3_init 5 = .ok (.bipush 80, 2) := by decide +kernel
theorem dX3_init_7 : decode cX3_init 7 = .ok (.newarray .int, 2) := by decide +kernel
theorem dX3_init_9 : decode cX3_init 9 = .ok (.putfield 9, 3) := by decide +kernel
theorem dX3_init_12 : decode cX3_init 12 = .ok (.aload_n 0, 1) := by decide +kernel
theorem dX3_init_13 : decode cX3_init 13 = .ok (.bipush 24, 2) := by decide +kernel
theorem dX3_init_15 : decode cX3_init 15 = .ok (.newarray .int, 2) := by decide +kernel
theorem dX3_init_17 : decode cX3_init 17 = .ok (.putfield 15, 3) := by decide +kernel
theorem dX3_init_20 : decode cX3_init 20 = .ok (.aload_n 0, 1) := by decide +kernel
theorem dX3_init_21 : decode cX3_init 21 = .ok (.bipush 30, 2) := by decide +kernel
theorem dX3_init_23 : decode cX3_init 23 = .ok (.newarray .int, 2) := by decide +kernel
theorem dX3_init_25 : decode cX3_init 25 = .ok (.putfield 18, 3) := by decide +kernel
theorem dX3_init_28 : decode cX3_init 28 = .ok (.aload_n 0, 1) := by decide +kernel
theorem dX3_init_29 : decode cX3_init 29 = .ok (.sipush 269, 3) := by decide +kernel
theorem dX3_init_32 : decode cX3_init 32 = .ok (.putfield 21, 3) := by decide +kernel
theorem dX3_init_35 : decode cX3_init 35 = .ok (.return_, 1) := by decide +kernel
def m3_init : pMT := (yX3_init, cX3_init, 1, none)
theorem mo3_init : mOK m3_init 0 := ⟨tb_i 46 (by decide +kernel), wi_RX3, ⟨wn_RX3.1, wn_RX3.2, by decide +kernel⟩, by decide, plainFor_of_name wp_RX3⟩
theorem mv3_init : mI m3_init := ⟨tb_i 45 (by decide +kernel), rfl, rfl⟩
def i3_init (a0 : Nat) (w : pW) : pW := bl (pNew w (13, 80)) fun w1 => bl (wR w1 a0 0 w.1.length) fun w2 => bl (pNew w2 (13, 24)) fun w3 => bl (wR w3 a0 1 w2.1.length) fun w4 => bl (pNew w4 (13, 30)) fun w5 => bl (wR w5 a0 2 w4.1.length) fun w6 => bl (wI w6 a0 5 269) fun w7 => w7
set_option maxHeartbeats 4000000 in
set_option maxRecDepth 20000 in
theorem F3_init {a0 : Nat} {w wf : pW} (h : i3_init a0 w = wf) : wf.1.length = w.1.length + 3 ∧ pSl wf.1 = pSl w.1 + 134 ∧ (∀ (c : Nat) (q : Nat × Nat), w.1[c]? = some q → wf.1[c]? = some q) ∧ ∀ (c k : Nat) (q : Nat × Nat), w.1[c]? = some q → c ≠ a0 → wf.2.2.2 c k = w.2.2.2 c k := by
  unfold i3_init at h
  have P0 : (w.1.length = w.1.length + 0 ∧ pSl w.1 = pSl w.1 + 0) ∧ (∀ (c : Nat) (q : Nat × Nat), w.1[c]? = some q → w.1[c]? = some q) ∧ ∀ (c k : Nat) (q : Nat × Nat), w.1[c]? = some q → c ≠ a0 → w.2.2.2 c k = w.2.2.2 c k := ⟨⟨rfl, rfl⟩, fun _ _ h => h, fun _ _ _ _ _ => rfl⟩
  obtain ⟨w1, e1, h⟩ := blE h
  have P1 : (w1.1.length = w.1.length + 1 ∧ pSl w1.1 = pSl w.1 + 80) ∧ (∀ (c : Nat) (q : Nat × Nat), w.1[c]? = some q → w1.1[c]? = some q) ∧ ∀ (c k : Nat) (q : Nat × Nat), w.1[c]? = some q → c ≠ a0 → w1.2.2.2 c k = w.2.2.2 c k := pf_new P0 e1
  obtain ⟨w2, e2, h⟩ := blE h
  have P2 : (w2.1.length = w.1.length + 1 ∧ pSl w2.1 = pSl w.1 + 80) ∧ (∀ (c : Nat) (q : Nat × Nat), w.1[c]? = some q → w2.1[c]? = some q) ∧ ∀ (c k : Nat) (q : Nat × Nat), w.1[c]? = some q → c ≠ a0 → w2.2.2.2 c k = w.2.2.2 c k := pf_R P1 e2 (fun c q hc => Or.inl rfl)
  obtain ⟨w3, e3, h⟩ := blE h
  have P3 : (w3.1.length = w.1.length + 2 ∧ pSl w3.1 = pSl w.1 + 104) ∧ (∀ (c : Nat) (q : Nat × Nat), w.1[c]? = some q → w3.1[c]? = some q) ∧ ∀ (c k : Nat) (q : Nat × Nat), w.1[c]? = some q → c ≠ a0 → w3.2.2.2 c k = w.2.2.2 c k := pf_new P2 e3
  obtain ⟨w4, e4, h⟩ := blE h
  have P4 : (w4.1.length = w.1.length + 2 ∧ pSl w4.1 = pSl w.1 + 104) ∧ (∀ (c : Nat) (q : Nat × Nat), w.1[c]? = some q → w4.1[c]? = some q) ∧ ∀ (c k : Nat) (q : Nat × Nat), w.1[c]? = some q → c ≠ a0 → w4.2.2.2 c k = w.2.2.2 c k := pf_R P3 e4 (fun c q hc => Or.inl rfl)
  obtain ⟨w5, e5, h⟩ := blE h
  have P5 : (w5.1.length = w.1.length + 3 ∧ pSl w5.1 = pSl w.1 + 134) ∧ (∀ (c : Nat) (q : Nat × Nat), w.1[c]? = some q → w5.1[c]? = some q) ∧ ∀ (c k : Nat) (q : Nat × Nat), w.1[c]? = some q → c ≠ a0 → w5.2.2.2 c k = w.2.2.2 c k := pf_new P4 e5
  obtain ⟨w6, e6, h⟩ := blE h
  have P6 : (w6.1.length = w.1.length + 3 ∧ pSl w6.1 = pSl w.1 + 134) ∧ (∀ (c : Nat) (q : Nat × Nat), w.1[c]? = some q → w6.1[c]? = some q) ∧ ∀ (c k : Nat) (q : Nat × Nat), w.1[c]? = some q → c ≠ a0 → w6.2.2.2 c k = w.2.2.2 c k := pf_R P5 e6 (fun c q hc => Or.inl rfl)
  obtain ⟨w7, e7, h⟩ := blE h
  have P7 : (w7.1.length = w.1.length + 3 ∧ pSl w7.1 = pSl w.1 + 134) ∧ (∀ (c : Nat) (q : Nat × Nat), w.1[c]? = some q → w7.1[c]? = some q) ∧ ∀ (c k : Nat) (q : Nat × Nat), w.1[c]? = some q → c ≠ a0 → w7.2.2.2 c k = w.2.2.2 c k := pf_I P6 e7
  subst h
  exact ⟨P7.1.1, P7.1.2, P7.2⟩
set_option maxHeartbeats 4000000 in
set_option maxRecDepth 20000 in
theorem oi3_init {g : pG} {Qx : Option Value → pW → Prop} {w wf : pW} {a0 : Nat} (d : Nat) (hz0 : w.1[a0]? = some (3, 6)) (hL : w.1.length + 3 ≤ 1000) (h : i3_init a0 w = wf) (hQ : Qx none wf) : Ok g (d + 2, RX3, cX3_init, 1, true, 3, 134, w.1.length, pSl w.1) Qx 0 [(0, .ref a0)] [] w := by
  unfold i3_init at h
  have l0 : w.1.length = w.1.length + 0 := rfl
  have s0 : pSl w.1 = pSl w.1 + 0 := rfl
  refine ok_aload_n dX3_init_0 0 rfl ?_
  refine ok_oinit dX3_init_1 lkRX3_3 (Nat.le_of_ble_eq_true rfl) (by show 1 ≤ d + _; omega) ?_
  refine ok_aload_n dX3_init_4 0 rfl ?_
  refine ok_bipush (v := 80) dX3_init_5 (by decide) ?_
  obtain ⟨w1, e1, h⟩ := blE h
  refine oi_newa (kd := 13) (N := 80) dX3_init_7 rfl (Or.inl ⟨rfl, rfl⟩) wa_int (by decide) (by decide) (by decide) (b_len (mc := 3) l0 hL (by decide)) (b_c1 (mc := 3) l0 (by decide)) (b_s1 (ms := 134) s0 (by decide)) e1 ?_
  have l1 : w1.1.length = w.1.length + 1 := ln_new e1 l0
  have s1 : pSl w1.1 = pSl w.1 + 80 := sn_new e1 s0
  have z1_0 : w1.1[a0]? = some (3, 6) := by rw [e1]; exact z_new hz0
  have z1_n : w1.1[w.1.length]? = some (13, 80) := by rw [e1]; exact z_at _ _
  obtain ⟨w2, e2, h⟩ := blE h
  refine oi_putR (ci := 3) (k := 0) dX3_init_9 flRX3_9 rfl (Or.inr ⟨_, rfl⟩) (Or.inr ⟨rfl, rfl, rfl⟩) z1_0 (by decide) e2 ?_
  have l2 : w2.1.length = w.1.length + 1 := by rw [e2]; exact l1
  have s2 : pSl w2.1 = pSl w.1 + 80 := by rw [e2]; exact s1
  have z2_0 : w2.1[a0]? = some (3, 6) := by rw [e2]; exact z1_0
  refine ok_aload_n dX3_init_12 0 rfl ?_
  refine ok_bipush (v := 24) dX3_init_13 (by decide) ?_
  obtain ⟨w3, e3, h⟩ := blE h
  refine oi_newa (kd := 13) (N := 24) dX3_init_15 rfl (Or.inl ⟨rfl, rfl⟩) wa_int (by decide) (by decide) (by decide) (b_len (mc := 3) l2 hL (by decide)) (b_c1 (mc := 3) l2 (by decide)) (b_s1 (ms := 134) s2 (by decide)) e3 ?_
  have l3 : w3.1.length = w.1.length + 2 := ln_new e3 l2
  have s3 : pSl w3.1 = pSl w.1 + 104 := sn_new e3 s2
  have z3_0 : w3.1[a0]? = some (3, 6) := by rw [e3]; exact z_new z2_0
  have z3_n : w3.1[w2.1.length]? = some (13, 24) := by rw [e3]; exact z_at _ _
  obtain ⟨w4, e4, h⟩ := blE h
  refine oi_putR (ci := 3) (k := 1) dX3_init_17 flRX3_15 rfl (Or.inr ⟨_, rfl⟩) (Or.inr ⟨rfl, rfl, rfl⟩) z3_0 (by decide) e4 ?_
  have l4 : w4.1.length = w.1.length + 2 := by rw [e4]; exact l3
  have s4 : pSl w4.1 = pSl w.1 + 104 := by rw [e4]; exact s3
  have z4_0 : w4.1[a0]? = some (3, 6) := by rw [e4]; exact z3_0
  refine ok_aload_n dX3_init_20 0 rfl ?_
  refine ok_bipush (v := 30) dX3_init_21 (by decide) ?_
  obtain ⟨w5, e5, h⟩ := blE h
  refine oi_newa (kd := 13) (N := 30) dX3_init_23 rfl (Or.inl ⟨rfl, rfl⟩) wa_int (by decide) (by decide) (by decide) (b_len (mc := 3) l4 hL (by decide)) (b_c1 (mc := 3) l4 (by decide)) (b_s1 (ms := 134) s4 (by decide)) e5 ?_
  have l5 : w5.1.length = w.1.length + 3 := ln_new e5 l4
  have s5 : pSl w5.1 = pSl w.1 + 134 := sn_new e5 s4
  have z5_0 : w5.1[a0]? = some (3, 6) := by rw [e5]; exact z_new z4_0
  have z5_n : w5.1[w4.1.length]? = some (13, 30) := by rw [e5]; exact z_at _ _
  obtain ⟨w6, e6, h⟩ := blE h
  refine oi_putR (ci := 3) (k := 2) dX3_init_25 flRX3_18 rfl (Or.inr ⟨_, rfl⟩) (Or.inr ⟨rfl, rfl, rfl⟩) z5_0 (by decide) e6 ?_
  have l6 : w6.1.length = w.1.length + 3 := by rw [e6]; exact l5
  have s6 : pSl w6.1 = pSl w.1 + 134 := by rw [e6]; exact s5
  have z6_0 : w6.1[a0]? = some (3, 6) := by rw [e6]; exact z5_0
  refine ok_aload_n dX3_init_28 0 rfl ?_
  refine ok_sipush (v := 269) dX3_init_29 (by decide) ?_
  obtain ⟨w7, e7, h⟩ := blE h
  refine oi_putI (ci := 3) (k := 5) dX3_init_32 flRX3_21 rfl (Or.inl rfl) z6_0 (by decide) e7 ?_
  have l7 : w7.1.length = w.1.length + 3 := by rw [e7]; exact l6
  have s7 : pSl w7.1 = pSl w.1 + 134 := by rw [e7]; exact s6
  have z7_0 : w7.1[a0]? = some (3, 6) := by rw [e7]; exact z6_0
  subst h
  exact ok_vret dX3_init_35 hQ
theorem ki3_init {g : pG} {Q : Option Value → pW → Prop} {w wf : pW} {a0 : Nat} (d : Nat) (hz0 : w.1[a0]? = some (3, 6)) (hL : w.1.length + 3 ≤ 1000) (h : i3_init a0 w = wf) (hQ : Q none wf) : CT g (d + 2) m3_init 3 134 [.ref a0] w Q :=
  ct_of_ok (mt := m3_init) (ini := true) mo3_init.2.2.2.2 (fun _ => rfl) (Nat.le_of_ble_eq_true rfl) (oi3_init d hz0 hL h ⟨trivial, hQ, (F3_init h).1, (F3_init h).2.1⟩)
theorem lkRX10_3 : Cond.methodLink RX10 3 objectInit ∈ lw_tbl := tb_i 41 (by decide +kernel)
theorem lkRX10_20 : Cond.methodLink RX10 20 yX3_init ∈ lw_tbl := tb_i 44 (by decide +kernel)
theorem dX10_init_0 : decode cX10_init 0 = .ok (.aload_n 0, 1) := by decide +kernel
theorem dX10_init_1 : decode cX10_init 1 = .ok (.invokespecial 3, 3) := by decide +kernel
theorem dX10_init_4 : decode cX10_init 4 = .ok (.aload_n 0, 1) := by decide +kernel
theorem dX10_init_5 : decode cX10_init 5 = .ok (.iconst 5, 1) := by decide +kernel
theorem dX10_init_6 : decode cX10_init 6 = .ok (.newarray .int, 2) := by decide +kernel
theorem dX10_init_8 : decode cX10_init 8 = .ok (.putfield 9, 3) := by decide +kernel
theorem dX10_init_11 : decode cX10_init 11 = .ok (.aload_n 0, 1) := by decide +kernel
theorem dX10_init_12 : decode cX10_init 12 = .ok (.bipush 80, 2) := by decide +kernel
theorem dX10_init_14 : decode cX10_init 14 = .ok (.newarray .int, 2) := by decide +kernel
theorem dX10_init_16 : decode cX10_init 16 = .ok (.putfield 15, 3) := by decide +kernel
theorem dX10_init_19 : decode cX10_init 19 = .ok (.aload_n 0, 1) := by decide +kernel
theorem dX10_init_20 : decode cX10_init 20 = .ok (.new 18, 3) := by decide +kernel
theorem dX10_init_23 : decode cX10_init 23 = .ok (.dup, 1) := by decide +kernel
theorem dX10_init_24 : decode cX10_init 24 = .ok (.invokespecial 20, 3) := by decide +kernel
theorem dX10_init_27 : decode cX10_init 27 = .ok (.putfield 21, 3) := by decide +kernel
theorem dX10_init_30 : decode cX10_init 30 = .ok (.return_, 1) := by decide +kernel
def m10_init : pMT := (yX10_init, cX10_init, 1, none)
theorem mo10_init : mOK m10_init 0 := ⟨tb_i 40 (by decide +kernel), wi_RX10, ⟨wn_RX10.1, wn_RX10.2, by decide +kernel⟩, by decide, plainFor_of_name wp_RX10⟩
theorem mv10_init : mI m10_init := ⟨tb_i 39 (by decide +kernel), rfl, rfl⟩
def i10_init (a0 : Nat) (w : pW) : pW := bl (pNew w (13, 5)) fun w1 => bl (wR w1 a0 0 w.1.length) fun w2 => bl (pNew w2 (13, 80)) fun w3 => bl (wR w3 a0 1 w2.1.length) fun w4 => bl (pNew w4 (3, 6)) fun w5 => bl (i3_init w4.1.length w5) fun w6 => bl (wR w6 a0 2 w4.1.length) fun w7 => w7
set_option maxHeartbeats 4000000 in
set_option maxRecDepth 20000 in
theorem F10_init {a0 : Nat} {w wf : pW} (h : i10_init a0 w = wf) : wf.1.length = w.1.length + 6 ∧ pSl wf.1 = pSl w.1 + 225 ∧ (∀ (c : Nat) (q : Nat × Nat), w.1[c]? = some q → wf.1[c]? = some q) ∧ ∀ (c k : Nat) (q : Nat × Nat), w.1[c]? = some q → c ≠ a0 → wf.2.2.2 c k = w.2.2.2 c k := by
  unfold i10_init at h
  have P0 : (w.1.length = w.1.length + 0 ∧ pSl w.1 = pSl w.1 + 0) ∧ (∀ (c : Nat) (q : Nat × Nat), w.1[c]? = some q → w.1[c]? = some q) ∧ ∀ (c k : Nat) (q : Nat × Nat), w.1[c]? = some q → c ≠ a0 → w.2.2.2 c k = w.2.2.2 c k := ⟨⟨rfl, rfl⟩, fun _ _ h => h, fun _ _ _ _ _ => rfl⟩
  obtain ⟨w1, e1, h⟩ := blE h
  have P1 : (w1.1.length = w.1.length + 1 ∧ pSl w1.1 = pSl w.1 + 5) ∧ (∀ (c : Nat) (q : Nat × Nat), w.1[c]? = some q → w1.1[c]? = some q) ∧ ∀ (c k : Nat) (q : Nat × Nat), w.1[c]? = some q → c ≠ a0 → w1.2.2.2 c k = w.2.2.2 c k := pf_new P0 e1
  obtain ⟨w2, e2, h⟩ := blE h
  have P2 : (w2.1.length = w.1.length + 1 ∧ pSl w2.1 = pSl w.1 + 5) ∧ (∀ (c : Nat) (q : Nat × Nat), w.1[c]? = some q → w2.1[c]? = some q) ∧ ∀ (c k : Nat) (q : Nat × Nat), w.1[c]? = some q → c ≠ a0 → w2.2.2.2 c k = w.2.2.2 c k := pf_R P1 e2 (fun c q hc => Or.inl rfl)
  obtain ⟨w3, e3, h⟩ := blE h
  have P3 : (w3.1.length = w.1.length + 2 ∧ pSl w3.1 = pSl w.1 + 85) ∧ (∀ (c : Nat) (q : Nat × Nat), w.1[c]? = some q → w3.1[c]? = some q) ∧ ∀ (c k : Nat) (q : Nat × Nat), w.1[c]? = some q → c ≠ a0 → w3.2.2.2 c k = w.2.2.2 c k := pf_new P2 e3
  obtain ⟨w4, e4, h⟩ := blE h
  have P4 : (w4.1.length = w.1.length + 2 ∧ pSl w4.1 = pSl w.1 + 85) ∧ (∀ (c : Nat) (q : Nat × Nat), w.1[c]? = some q → w4.1[c]? = some q) ∧ ∀ (c k : Nat) (q : Nat × Nat), w.1[c]? = some q → c ≠ a0 → w4.2.2.2 c k = w.2.2.2 c k := pf_R P3 e4 (fun c q hc => Or.inl rfl)
  obtain ⟨w5, e5, h⟩ := blE h
  have P5 : (w5.1.length = w.1.length + 3 ∧ pSl w5.1 = pSl w.1 + 91) ∧ (∀ (c : Nat) (q : Nat × Nat), w.1[c]? = some q → w5.1[c]? = some q) ∧ ∀ (c k : Nat) (q : Nat × Nat), w.1[c]? = some q → c ≠ a0 → w5.2.2.2 c k = w.2.2.2 c k := pf_new P4 e5
  obtain ⟨w6, e6, h⟩ := blE h
  have P6 : (w6.1.length = w.1.length + 6 ∧ pSl w6.1 = pSl w.1 + 225) ∧ (∀ (c : Nat) (q : Nat × Nat), w.1[c]? = some q → w6.1[c]? = some q) ∧ ∀ (c k : Nat) (q : Nat × Nat), w.1[c]? = some q → c ≠ a0 → w6.2.2.2 c k = w.2.2.2 c k := pf_S P5 (F3_init e6.symm) (fun c q hc => pf_ne P4 hc)
  obtain ⟨w7, e7, h⟩ := blE h
  have P7 : (w7.1.length = w.1.length + 6 ∧ pSl w7.1 = pSl w.1 + 225) ∧ (∀ (c : Nat) (q : Nat × Nat), w.1[c]? = some q → w7.1[c]? = some q) ∧ ∀ (c k : Nat) (q : Nat × Nat), w.1[c]? = some q → c ≠ a0 → w7.2.2.2 c k = w.2.2.2 c k := pf_R P6 e7 (fun c q hc => Or.inl rfl)
  subst h
  exact ⟨P7.1.1, P7.1.2, P7.2⟩
set_option maxHeartbeats 4000000 in
set_option maxRecDepth 20000 in
theorem oi10_init {g : pG} {Qx : Option Value → pW → Prop} {w wf : pW} {a0 : Nat} (d : Nat) (hz0 : w.1[a0]? = some (10, 5)) (hL : w.1.length + 6 ≤ 1000) (h : i10_init a0 w = wf) (hQ : Qx none wf) : Ok g (d + 3, RX10, cX10_init, 1, true, 6, 225, w.1.length, pSl w.1) Qx 0 [(0, .ref a0)] [] w := by
  unfold i10_init at h
  have l0 : w.1.length = w.1.length + 0 := rfl
  have s0 : pSl w.1 = pSl w.1 + 0 := rfl
  refine ok_aload_n dX10_init_0 0 rfl ?_
  refine ok_oinit dX10_init_1 lkRX10_3 (Nat.le_of_ble_eq_true rfl) (by show 1 ≤ d + _; omega) ?_
  refine ok_aload_n dX10_init_4 0 rfl ?_
  refine ok_iconst (v := 5) dX10_init_5 (by decide) ?_
  obtain ⟨w1, e1, h⟩ := blE h
  refine oi_newa (kd := 13) (N := 5) dX10_init_6 rfl (Or.inl ⟨rfl, rfl⟩) wa_int (by decide) (by decide) (by decide) (b_len (mc := 6) l0 hL (by decide)) (b_c1 (mc := 6) l0 (by decide)) (b_s1 (ms := 225) s0 (by decide)) e1 ?_
  have l1 : w1.1.length = w.1.length + 1 := ln_new e1 l0
  have s1 : pSl w1.1 = pSl w.1 + 5 := sn_new e1 s0
  have z1_0 : w1.1[a0]? = some (10, 5) := by rw [e1]; exact z_new hz0
  have z1_n : w1.1[w.1.length]? = some (13, 5) := by rw [e1]; exact z_at _ _
  obtain ⟨w2, e2, h⟩ := blE h
  refine oi_putR (ci := 10) (k := 0) dX10_init_8 flRX10_9 rfl (Or.inr ⟨_, rfl⟩) (Or.inr ⟨rfl, rfl, rfl⟩) z1_0 (by decide) e2 ?_
  have l2 : w2.1.length = w.1.length + 1 := by rw [e2]; exact l1
  have s2 : pSl w2.1 = pSl w.1 + 5 := by rw [e2]; exact s1
  have z2_0 : w2.1[a0]? = some (10, 5) := by rw [e2]; exact z1_0
  refine ok_aload_n dX10_init_11 0 rfl ?_
  refine ok_bipush (v := 80) dX10_init_12 (by decide) ?_
  obtain ⟨w3, e3, h⟩ := blE h
  refine oi_newa (kd := 13) (N := 80) dX10_init_14 rfl (Or.inl ⟨rfl, rfl⟩) wa_int (by decide) (by decide) (by decide) (b_len (mc := 6) l2 hL (by decide)) (b_c1 (mc := 6) l2 (by decide)) (b_s1 (ms := 225) s2 (by decide)) e3 ?_
  have l3 : w3.1.length = w.1.length + 2 := ln_new e3 l2
  have s3 : pSl w3.1 = pSl w.1 + 85 := sn_new e3 s2
  have z3_0 : w3.1[a0]? = some (10, 5) := by rw [e3]; exact z_new z2_0
  have z3_n : w3.1[w2.1.length]? = some (13, 80) := by rw [e3]; exact z_at _ _
  obtain ⟨w4, e4, h⟩ := blE h
  refine oi_putR (ci := 10) (k := 1) dX10_init_16 flRX10_15 rfl (Or.inr ⟨_, rfl⟩) (Or.inr ⟨rfl, rfl, rfl⟩) z3_0 (by decide) e4 ?_
  have l4 : w4.1.length = w.1.length + 2 := by rw [e4]; exact l3
  have s4 : pSl w4.1 = pSl w.1 + 85 := by rw [e4]; exact s3
  have z4_0 : w4.1[a0]? = some (10, 5) := by rw [e4]; exact z3_0
  refine ok_aload_n dX10_init_19 0 rfl ?_
  obtain ⟨w5, e5, h⟩ := blE h
  refine oi_new (ci := 3) (q := (RX3, TX3, 6)) dX10_init_20 rfl (tb_i (c := Cond.classLink RX10 18 RX3) 42 (by decide +kernel)) (b_len (mc := 6) l4 hL (by decide)) (b_c1 (mc := 6) l4 (by decide)) (b_s1 (N := 6) (ms := 225) s4 (by decide)) e5 ?_
  have l5 : w5.1.length = w.1.length + 3 := ln_new e5 l4
  have s5 : pSl w5.1 = pSl w.1 + 91 := sn_new e5 s4
  have z5_0 : w5.1[a0]? = some (10, 5) := by rw [e5]; exact z_new z4_0
  have z5_n : w5.1[w4.1.length]? = some (3, 6) := by rw [e5]; exact z_at _ _
  refine ok_dup dX10_init_23 rfl ?_
  refine ok_callI (d := (d + 0 + 2)) (mt := m3_init) (mc := 3) (ms := 134) (a := w4.1.length) (As := []) (r := [.ref w4.1.length, .ref a0]) dX10_init_24 mo3_init mv3_init lkRX10_20 rfl rfl (Nat.le_of_ble_eq_true rfl) (dep_le d (by decide)) (b_cm (mc := 6) l5 (by decide)) (b_cm (mc := 225) s5 (by decide)) ?_
  obtain ⟨w6, e6, h⟩ := blE h
  refine ki3_init (d + 0) z5_n (b_sub l5 hL (by decide)) e6.symm ?_
  show Ok g _ Qx 27 [(0, .ref a0)] [.ref w4.1.length, .ref a0] w6
  have F6 := F3_init e6.symm
  have l6 : w6.1.length = w.1.length + 6 := ln_sub F6.1 l5
  have s6 : pSl w6.1 = pSl w.1 + 225 := ln_sub F6.2.1 s5
  have z6_0 : w6.1[a0]? = some (10, 5) := by exact F6.2.2.1 _ _ z5_0
  have z6_1 : w6.1[w4.1.length]? = some (3, 6) := by exact F6.2.2.1 _ _ z5_n
  obtain ⟨w7, e7, h⟩ := blE h
  refine oi_putR (ci := 10) (k := 2) dX10_init_27 flRX10_21 rfl (Or.inl ⟨_, rfl⟩) (Or.inr ⟨rfl, rfl, rfl⟩) z6_0 (by decide) e7 ?_
  have l7 : w7.1.length = w.1.length + 6 := by rw [e7]; exact l6
  have s7 : pSl w7.1 = pSl w.1 + 225 := by rw [e7]; exact s6
  have z7_0 : w7.1[a0]? = some (10, 5) := by rw [e7]; exact z6_0
  subst h
  exact ok_vret dX10_init_30 hQ
theorem ki10_init {g : pG} {Q : Option Value → pW → Prop} {w wf : pW} {a0 : Nat} (d : Nat) (hz0 : w.1[a0]? = some (10, 5)) (hL : w.1.length + 6 ≤ 1000) (h : i10_init a0 w = wf) (hQ : Q none wf) : CT g (d + 3) m10_init 6 225 [.ref a0] w Q :=
  ct_of_ok (mt := m10_init) (ini := true) mo10_init.2.2.2.2 (fun _ => rfl) (Nat.le_of_ble_eq_true rfl) (oi10_init d hz0 hL h ⟨trivial, hQ, (F10_init h).1, (F10_init h).2.1⟩)
theorem lkRX0_3 : Cond.methodLink RX0 3 objectInit ∈ lw_tbl := tb_i 109 (by decide +kernel)
theorem lkRX0_17 : Cond.methodLink RX0 17 yX3_init ∈ lw_tbl := tb_i 112 (by decide +kernel)
theorem dX0_init_0 : decode cX0_init 0 = .ok (.aload_n 0, 1) := by decide +kernel
theorem dX0_init_1 : decode cX0_init 1 = .ok (.invokespecial 3, 3) := by decide +kernel
theorem dX0_init_4 : decode cX0_init 4 = .ok (.aload_n 0, 1) := by decide +kernel
theorem dX0_init_5 : decode cX0_init 5 = .ok (.bipush 30, 2) := by decide +kernel
theorem dX0_init_7 : decode cX0_init 7 = .ok (.anewarray 9, 3) := by decide +kernel
theorem dX0_init_10 : decode cX0_init 10 = .ok (.putfield 11, 3) := by decide +kernel
theorem dX0_init_13 : decode cX0_init 13 = .ok (.iconst 0, 1) := by decide +kernel
theorem dX0_init_14 : decode cX0_init 14 = .ok (.istore_n 1, 1) := by decide +kernel
theorem dX0_init_15 : decode cX0_init 15 = .ok (.iload_n 1, 1) := by decide +kernel
theorem dX0_init_16 : decode cX0_init 16 = .ok (.bipush 30, 2) := by decide +kernel
theorem dX0_init_18 : decode cX0_init 18 = .ok (.if_icmp .ge 22, 3) := by decide +kernel
theorem dX0_init_21 : decode cX0_init 21 = .ok (.aload_n 0, 1) := by decide +kernel
theorem dX0_init_22 : decode cX0_init 22 = .ok (.getfield 11, 3) := by decide +kernel
theorem dX0_init_25 : decode cX0_init 25 = .ok (.iload_n 1, 1) := by decide +kernel
theorem dX0_init_26 : decode cX0_init 26 = .ok (.new 9, 3) := by decide +kernel
theorem dX0_init_29 : decode cX0_init 29 = .ok (.dup, 1) := by decide +kernel
theorem dX0_init_30 : decode cX0_init 30 = .ok (.invokespecial 17, 3) := by decide +kernel
theorem dX0_init_33 : decode cX0_init 33 = .ok (.aastore, 1) := by decide +kernel
theorem dX0_init_34 : decode cX0_init 34 = .ok (.iinc 1 1, 3) := by decide +kernel
theorem dX0_init_37 : decode cX0_init 37 = .ok (.goto (-22), 3) := by decide +kernel
theorem dX0_init_40 : decode cX0_init 40 = .ok (.return_, 1) := by decide +kernel
def m0_init : pMT := (yX0_init, cX0_init, 2, none)
theorem mo0_init : mOK m0_init 0 := ⟨tb_i 108 (by decide +kernel), wi_RX0, ⟨wn_RX0.1, wn_RX0.2, by decide +kernel⟩, by decide, plainFor_of_name wp_RX0⟩
theorem mv0_init : mI m0_init := ⟨tb_i 107 (by decide +kernel), rfl, rfl⟩
def i0_init (a0 : Nat) (w : pW) : pW := bl (pNew w (16, 30)) fun w1 => bl (wR w1 a0 0 w.1.length) fun w2 => bl (pNew w2 (3, 6)) fun w3 => bl (i3_init w2.1.length w3) fun w4 => bl (wR w4 w.1.length 0 w2.1.length) fun w5 => bl (pNew w5 (3, 6)) fun w6 => bl (i3_init w5.1.length w6) fun w7 => bl (wR w7 w.1.length 1 w5.1.length) fun w8 => bl (pNew w8 (3, 6)) fun w9 => bl (i3_init w8.1.length w9) fun w10 => bl (wR w10 w.1.length 2 w8.1.length) fun w11 => bl (pNew w11 (3, 6)) fun w12 => bl (i3_init w11.1.length w12) fun w13 => bl (wR w13 w.1.length 3 w11.1.length) fun w14 => bl (pNew w14 (3, 6)) fun w15 => bl (i3_init w14.1.length w15) fun w16 => bl (wR w16 w.1.length 4 w14.1.length) fun w17 => bl (pNew w17 (3, 6)) fun w18 => bl (i3_init w17.1.length w18) fun w19 => bl (wR w19 w.1.length 5 w17.1.length) fun w20 => bl (pNew w20 (3, 6)) fun w21 => bl (i3_init w20.1.length w21) fun w22 => bl (wR w22 w.1.length 6 w20.1.length) fun w23 => bl (pNew w23 (3, 6)) fun w24 => bl (i3_init w23.1.length w24) fun w25 => bl (wR w25 w.1.length 7 w23.1.length) fun w26 => bl (pNew w26 (3, 6)) fun w27 => bl (i3_init w26.1.length w27) fun w28 => bl (wR w28 w.1.length 8 w26.1.length) fun w29 => bl (pNew w29 (3, 6)) fun w30 => bl (i3_init w29.1.length w30) fun w31 => bl (wR w31 w.1.length 9 w29.1.length) fun w32 => bl (pNew w32 (3, 6)) fun w33 => bl (i3_init w32.1.length w33) fun w34 => bl (wR w34 w.1.length 10 w32.1.length) fun w35 => bl (pNew w35 (3, 6)) fun w36 => bl (i3_init w35.1.length w36) fun w37 => bl (wR w37 w.1.length 11 w35.1.length) fun w38 => bl (pNew w38 (3, 6)) fun w39 => bl (i3_init w38.1.length w39) fun w40 => bl (wR w40 w.1.length 12 w38.1.length) fun w41 => bl (pNew w41 (3, 6)) fun w42 => bl (i3_init w41.1.length w42) fun w43 => bl (wR w43 w.1.length 13 w41.1.length) fun w44 => bl (pNew w44 (3, 6)) fun w45 => bl (i3_init w44.1.length w45) fun w46 => bl (wR w46 w.1.length 14 w44.1.length) fun w47 => bl (pNew w47 (3, 6)) fun w48 => bl (i3_init w47.1.length w48) fun w49 => bl (wR w49 w.1.length 15 w47.1.length) fun w50 => bl (pNew w50 (3, 6)) fun w51 => bl (i3_init w50.1.length w51) fun w52 => bl (wR w52 w.1.length 16 w50.1.length) fun w53 => bl (pNew w53 (3, 6)) fun w54 => bl (i3_init w53.1.length w54) fun w55 => bl (wR w55 w.1.length 17 w53.1.length) fun w56 => bl (pNew w56 (3, 6)) fun w57 => bl (i3_init w56.1.length w57) fun w58 => bl (wR w58 w.1.length 18 w56.1.length) fun w59 => bl (pNew w59 (3, 6)) fun w60 => bl (i3_init w59.1.length w60) fun w61 => bl (wR w61 w.1.length 19 w59.1.length) fun w62 => bl (pNew w62 (3, 6)) fun w63 => bl (i3_init w62.1.length w63) fun w64 => bl (wR w64 w.1.length 20 w62.1.length) fun w65 => bl (pNew w65 (3, 6)) fun w66 => bl (i3_init w65.1.length w66) fun w67 => bl (wR w67 w.1.length 21 w65.1.length) fun w68 => bl (pNew w68 (3, 6)) fun w69 => bl (i3_init w68.1.length w69) fun w70 => bl (wR w70 w.1.length 22 w68.1.length) fun w71 => bl (pNew w71 (3, 6)) fun w72 => bl (i3_init w71.1.length w72) fun w73 => bl (wR w73 w.1.length 23 w71.1.length) fun w74 => bl (pNew w74 (3, 6)) fun w75 => bl (i3_init w74.1.length w75) fun w76 => bl (wR w76 w.1.length 24 w74.1.length) fun w77 => bl (pNew w77 (3, 6)) fun w78 => bl (i3_init w77.1.length w78) fun w79 => bl (wR w79 w.1.length 25 w77.1.length) fun w80 => bl (pNew w80 (3, 6)) fun w81 => bl (i3_init w80.1.length w81) fun w82 => bl (wR w82 w.1.length 26 w80.1.length) fun w83 => bl (pNew w83 (3, 6)) fun w84 => bl (i3_init w83.1.length w84) fun w85 => bl (wR w85 w.1.length 27 w83.1.length) fun w86 => bl (pNew w86 (3, 6)) fun w87 => bl (i3_init w86.1.length w87) fun w88 => bl (wR w88 w.1.length 28 w86.1.length) fun w89 => bl (pNew w89 (3, 6)) fun w90 => bl (i3_init w89.1.length w90) fun w91 => bl (wR w91 w.1.length 29 w89.1.length) fun w92 => w92
set_option maxHeartbeats 4000000 in
set_option maxRecDepth 20000 in
theorem F0_init {a0 : Nat} {w wf : pW} (h : i0_init a0 w = wf) : wf.1.length = w.1.length + 121 ∧ pSl wf.1 = pSl w.1 + 4230 ∧ (∀ (c : Nat) (q : Nat × Nat), w.1[c]? = some q → wf.1[c]? = some q) ∧ ∀ (c k : Nat) (q : Nat × Nat), w.1[c]? = some q → c ≠ a0 → wf.2.2.2 c k = w.2.2.2 c k := by
  unfold i0_init at h
  have P0 : (w.1.length = w.1.length + 0 ∧ pSl w.1 = pSl w.1 + 0) ∧ (∀ (c : Nat) (q : Nat × Nat), w.1[c]? = some q → w.1[c]? = some q) ∧ ∀ (c k : Nat) (q : Nat × Nat), w.1[c]? = some q → c ≠ a0 → w.2.2.2 c k = w.2.2.2 c k := ⟨⟨rfl, rfl⟩, fun _ _ h => h, fun _ _ _ _ _ => rfl⟩
  obtain ⟨w1, e1, h⟩ := blE h
  have P1 : (w1.1.length = w.1.length + 1 ∧ pSl w1.1 = pSl w.1 + 30) ∧ (∀ (c : Nat) (q : Nat × Nat), w.1[c]? = some q → w1.1[c]? = some q) ∧ ∀ (c k : Nat) (q : Nat × Nat), w.1[c]? = some q → c ≠ a0 → w1.2.2.2 c k = w.2.2.2 c k := pf_new P0 e1
  obtain ⟨w2, e2, h⟩ := blE h
  have P2 : (w2.1.length = w.1.length + 1 ∧ pSl w2.1 = pSl w.1 + 30) ∧ (∀ (c : Nat) (q : Nat × Nat), w.1[c]? = some q → w2.1[c]? = some q) ∧ ∀ (c k : Nat) (q : Nat × Nat), w.1[c]? = some q → c ≠ a0 → w2.2.2.2 c k = w.2.2.2 c k := pf_R P1 e2 (fun c q hc => Or.inl rfl)
  obtain ⟨w3, e3, h⟩ := blE h
  have P3 : (w3.1.length = w.1.length + 2 ∧ pSl w3.1 = pSl w.1 + 36) ∧ (∀ (c : Nat) (q : Nat × Nat), w.1[c]? = some q → w3.1[c]? = some q) ∧ ∀ (c k : Nat) (q : Nat × Nat), w.1[c]? = some q → c ≠ a0 → w3.2.2.2 c k = w.2.2.2 c k := pf_new P2 e3
  obtain ⟨w4, e4, h⟩ := blE h
  have P4 : (w4.1.length = w.1.length + 5 ∧ pSl w4.1 = pSl w.1 + 170) ∧ (∀ (c : Nat) (q : Nat × Nat), w.1[c]? = some q → w4.1[c]? = some q) ∧ ∀ (c k : Nat) (q : Nat × Nat), w.1[c]? = some q → c ≠ a0 → w4.2.2.2 c k = w.2.2.2 c k := pf_S P3 (F3_init e4.symm) (fun c q hc => pf_ne P2 hc)
  obtain ⟨w5, e5, h⟩ := blE h
  have P5 : (w5.1.length = w.1.length + 5 ∧ pSl w5.1 = pSl w.1 + 170) ∧ (∀ (c : Nat) (q : Nat × Nat), w.1[c]? = some q → w5.1[c]? = some q) ∧ ∀ (c k : Nat) (q : Nat × Nat), w.1[c]? = some q → c ≠ a0 → w5.2.2.2 c k = w.2.2.2 c k := pf_R P4 e5 (fun c q hc => Or.inr (pf_ne P0 hc))
  obtain ⟨w6, e6, h⟩ := blE h
  have P6 : (w6.1.length = w.1.length + 6 ∧ pSl w6.1 = pSl w.1 + 176) ∧ (∀ (c : Nat) (q : Nat × Nat), w.1[c]? = some q → w6.1[c]? = some q) ∧ ∀ (c k : Nat) (q : Nat × Nat), w.1[c]? = some q → c ≠ a0 → w6.2.2.2 c k = w.2.2.2 c k := pf_new P5 e6
  obtain ⟨w7, e7, h⟩ := blE h
  have P7 : (w7.1.length = w.1.length + 9 ∧ pSl w7.1 = pSl w.1 + 310) ∧ (∀ (c : Nat) (q : Nat × Nat), w.1[c]? = some q → w7.1[c]? = some q) ∧ ∀ (c k : Nat) (q : Nat × Nat), w.1[c]? = some q → c ≠ a0 → w7.2.2.2 c k = w.2.2.2 c k := pf_S P6 (F3_init e7.symm) (fun c q hc => pf_ne P5 hc)
  obtain ⟨w8, e8, h⟩ := blE h
  have P8 : (w8.1.length = w.1.length + 9 ∧ pSl w8.1 = pSl w.1 + 310) ∧ (∀ (c : Nat) (q : Nat × Nat), w.1[c]? = some q → w8.1[c]? = some q) ∧ ∀ (c k : Nat) (q : Nat × Nat), w.1[c]? = some q → c ≠ a0 → w8.2.2.2 c k = w.2.2.2 c k := pf_R P7 e8 (fun c q hc => Or.inr (pf_ne P0 hc))
  obtain ⟨w9, e9, h⟩ := blE h
  have P9 : (w9.1.length = w.1.length + 10 ∧ pSl w9.1 = pSl w.1 + 316) ∧ (∀ (c : Nat) (q : Nat × Nat), w.1[c]? = some q → w9.1[c]? = some q) ∧ ∀ (c k : Nat) (q : Nat × Nat), w.1[c]? = some q → c ≠ a0 → w9.2.2.2 c k = w.2.2.2 c k := pf_new P8 e9
  obtain ⟨w10, e10, h⟩ := blE h
  have P10 : (w10.1.length = w.1.length + 13 ∧ pSl w10.1 = pSl w.1 + 450) ∧ (∀ (c : Nat) (q : Nat × Nat), w.1[c]? = some q → w10.1[c]? = some q) ∧ ∀ (c k : Nat) (q : Nat × Nat), w.1[c]? = some q → c ≠ a0 → w10.2.2.2 c k = w.2.2.2 c k := pf_S P9 (F3_init e10.symm) (fun c q hc => pf_ne P8 hc)
  obtain ⟨w11, e11, h⟩ := blE h
  have P11 : (w11.1.length = w.1.length + 13 ∧ pSl w11.1 = pSl w.1 + 450) ∧ (∀ (c : Nat) (q : Nat × Nat), w.1[c]? = some q → w11.1[c]? = some q) ∧ ∀ (c k : Nat) (q : Nat × Nat), w.1[c]? = some q → c ≠ a0 → w11.2.2.2 c k = w.2.2.2 c k := pf_R P10 e11 (fun c q hc => Or.inr (pf_ne P0 hc))
  obtain ⟨w12, e12, h⟩ := blE h
  have P12 : (w12.1.length = w.1.length + 14 ∧ pSl w12.1 = pSl w.1 + 456) ∧ (∀ (c : Nat) (q : Nat × Nat), w.1[c]? = some q → w12.1[c]? = some q) ∧ ∀ (c k : Nat) (q : Nat × Nat), w.1[c]? = some q → c ≠ a0 → w12.2.2.2 c k = w.2.2.2 c k := pf_new P11 e12
  obtain ⟨w13, e13, h⟩ := blE h
  have P13 : (w13.1.length = w.1.length + 17 ∧ pSl w13.1 = pSl w.1 + 590) ∧ (∀ (c : Nat) (q : Nat × Nat), w.1[c]? = some q → w13.1[c]? = some q) ∧ ∀ (c k : Nat) (q : Nat × Nat), w.1[c]? = some q → c ≠ a0 → w13.2.2.2 c k = w.2.2.2 c k := pf_S P12 (F3_init e13.symm) (fun c q hc => pf_ne P11 hc)
  obtain ⟨w14, e14, h⟩ := blE h
  have P14 : (w14.1.length = w.1.length + 17 ∧ pSl w14.1 = pSl w.1 + 590) ∧ (∀ (c : Nat) (q : Nat × Nat), w.1[c]? = some q → w14.1[c]? = some q) ∧ ∀ (c k : Nat) (q : Nat × Nat), w.1[c]? = some q → c ≠ a0 → w14.2.2.2 c k = w.2.2.2 c k := pf_R P13 e14 (fun c q hc => Or.inr (pf_ne P0 hc))
  obtain ⟨w15, e15, h⟩ := blE h
  have P15 : (w15.1.length = w.1.length + 18 ∧ pSl w15.1 = pSl w.1 + 596) ∧ (∀ (c : Nat) (q : Nat × Nat), w.1[c]? = some q → w15.1[c]? = some q) ∧ ∀ (c k : Nat) (q : Nat × Nat), w.1[c]? = some q → c ≠ a0 → w15.2.2.2 c k = w.2.2.2 c k := pf_new P14 e15
  obtain ⟨w16, e16, h⟩ := blE h
  have P16 : (w16.1.length = w.1.length + 21 ∧ pSl w16.1 = pSl w.1 + 730) ∧ (∀ (c : Nat) (q : Nat × Nat), w.1[c]? = some q → w16.1[c]? = some q) ∧ ∀ (c k : Nat) (q : Nat × Nat), w.1[c]? = some q → c ≠ a0 → w16.2.2.2 c k = w.2.2.2 c k := pf_S P15 (F3_init e16.symm) (fun c q hc => pf_ne P14 hc)
  obtain ⟨w17, e17, h⟩ := blE h
  have P17 : (w17.1.length = w.1.length + 21 ∧ pSl w17.1 = pSl w.1 + 730) ∧ (∀ (c : Nat) (q : Nat × Nat), w.1[c]? = some q → w17.1[c]? = some q) ∧ ∀ (c k : Nat) (q : Nat × Nat), w.1[c]? = some q → c ≠ a0 → w17.2.2.2 c k = w.2.2.2 c k := pf_R P16 e17 (fun c q hc => Or.inr (pf_ne P0 hc))
  obtain ⟨w18, e18, h⟩ := blE h
  have P18 : (w18.1.length = w.1.length + 22 ∧ pSl w18.1 = pSl w.1 + 736) ∧ (∀ (c : Nat) (q : Nat × Nat), w.1[c]? = some q → w18.1[c]? = some q) ∧ ∀ (c k : Nat) (q : Nat × Nat), w.1[c]? = some q → c ≠ a0 → w18.2.2.2 c k = w.2.2.2 c k := pf_new P17 e18
  obtain ⟨w19, e19, h⟩ := blE h
  have P19 : (w19.1.length = w.1.length + 25 ∧ pSl w19.1 = pSl w.1 + 870) ∧ (∀ (c : Nat) (q : Nat × Nat), w.1[c]? = some q → w19.1[c]? = some q) ∧ ∀ (c k : Nat) (q : Nat × Nat), w.1[c]? = some q → c ≠ a0 → w19.2.2.2 c k = w.2.2.2 c k := pf_S P18 (F3_init e19.symm) (fun c q hc => pf_ne P17 hc)
  obtain ⟨w20, e20, h⟩ := blE h
  have P20 : (w20.1.length = w.1.length + 25 ∧ pSl w20.1 = pSl w.1 + 870) ∧ (∀ (c : Nat) (q : Nat × Nat), w.1[c]? = some q → w20.1[c]? = some q) ∧ ∀ (c k : Nat) (q : Nat × Nat), w.1[c]? = some q → c ≠ a0 → w20.2.2.2 c k = w.2.2.2 c k := pf_R P19 e20 (fun c q hc => Or.inr (pf_ne P0 hc))
  obtain ⟨w21, e21, h⟩ := blE h
  have P21 : (w21.1.length = w.1.length + 26 ∧ pSl w21.1 = pSl w.1 + 876) ∧ (∀ (c : Nat) (q : Nat × Nat), w.1[c]? = some q → w21.1[c]? = some q) ∧ ∀ (c k : Nat) (q : Nat × Nat), w.1[c]? = some q → c ≠ a0 → w21.2.2.2 c k = w.2.2.2 c k := pf_new P20 e21
  obtain ⟨w22, e22, h⟩ := blE h
  have P22 : (w22.1.length = w.1.length + 29 ∧ pSl w22.1 = pSl w.1 + 1010) ∧ (∀ (c : Nat) (q : Nat × Nat), w.1[c]? = some q → w22.1[c]? = some q) ∧ ∀ (c k : Nat) (q : Nat × Nat), w.1[c]? = some q → c ≠ a0 → w22.2.2.2 c k = w.2.2.2 c k := pf_S P21 (F3_init e22.symm) (fun c q hc => pf_ne P20 hc)
  obtain ⟨w23, e23, h⟩ := blE h
  have P23 : (w23.1.length = w.1.length + 29 ∧ pSl w23.1 = pSl w.1 + 1010) ∧ (∀ (c : Nat) (q : Nat × Nat), w.1[c]? = some q → w23.1[c]? = some q) ∧ ∀ (c k : Nat) (q : Nat × Nat), w.1[c]? = some q → c ≠ a0 → w23.2.2.2 c k = w.2.2.2 c k := pf_R P22 e23 (fun c q hc => Or.inr (pf_ne P0 hc))
  obtain ⟨w24, e24, h⟩ := blE h
  have P24 : (w24.1.length = w.1.length + 30 ∧ pSl w24.1 = pSl w.1 + 1016) ∧ (∀ (c : Nat) (q : Nat × Nat), w.1[c]? = some q → w24.1[c]? = some q) ∧ ∀ (c k : Nat) (q : Nat × Nat), w.1[c]? = some q → c ≠ a0 → w24.2.2.2 c k = w.2.2.2 c k := pf_new P23 e24
  obtain ⟨w25, e25, h⟩ := blE h
  have P25 : (w25.1.length = w.1.length + 33 ∧ pSl w25.1 = pSl w.1 + 1150) ∧ (∀ (c : Nat) (q : Nat × Nat), w.1[c]? = some q → w25.1[c]? = some q) ∧ ∀ (c k : Nat) (q : Nat × Nat), w.1[c]? = some q → c ≠ a0 → w25.2.2.2 c k = w.2.2.2 c k := pf_S P24 (F3_init e25.symm) (fun c q hc => pf_ne P23 hc)
  obtain ⟨w26, e26, h⟩ := blE h
  have P26 : (w26.1.length = w.1.length + 33 ∧ pSl w26.1 = pSl w.1 + 1150) ∧ (∀ (c : Nat) (q : Nat × Nat), w.1[c]? = some q → w26.1[c]? = some q) ∧ ∀ (c k : Nat) (q : Nat × Nat), w.1[c]? = some q → c ≠ a0 → w26.2.2.2 c k = w.2.2.2 c k := pf_R P25 e26 (fun c q hc => Or.inr (pf_ne P0 hc))
  obtain ⟨w27, e27, h⟩ := blE h
  have P27 : (w27.1.length = w.1.length + 34 ∧ pSl w27.1 = pSl w.1 + 1156) ∧ (∀ (c : Nat) (q : Nat × Nat), w.1[c]? = some q → w27.1[c]? = some q) ∧ ∀ (c k : Nat) (q : Nat × Nat), w.1[c]? = some q → c ≠ a0 → w27.2.2.2 c k = w.2.2.2 c k := pf_new P26 e27
  obtain ⟨w28, e28, h⟩ := blE h
  have P28 : (w28.1.length = w.1.length + 37 ∧ pSl w28.1 = pSl w.1 + 1290) ∧ (∀ (c : Nat) (q : Nat × Nat), w.1[c]? = some q → w28.1[c]? = some q) ∧ ∀ (c k : Nat) (q : Nat × Nat), w.1[c]? = some q → c ≠ a0 → w28.2.2.2 c k = w.2.2.2 c k := pf_S P27 (F3_init e28.symm) (fun c q hc => pf_ne P26 hc)
  obtain ⟨w29, e29, h⟩ := blE h
  have P29 : (w29.1.length = w.1.length + 37 ∧ pSl w29.1 = pSl w.1 + 1290) ∧ (∀ (c : Nat) (q : Nat × Nat), w.1[c]? = some q → w29.1[c]? = some q) ∧ ∀ (c k : Nat) (q : Nat × Nat), w.1[c]? = some q → c ≠ a0 → w29.2.2.2 c k = w.2.2.2 c k := pf_R P28 e29 (fun c q hc => Or.inr (pf_ne P0 hc))
  obtain ⟨w30, e30, h⟩ := blE h
  have P30 : (w30.1.length = w.1.length + 38 ∧ pSl w30.1 = pSl w.1 + 1296) ∧ (∀ (c : Nat) (q : Nat × Nat), w.1[c]? = some q → w30.1[c]? = some q) ∧ ∀ (c k : Nat) (q : Nat × Nat), w.1[c]? = some q → c ≠ a0 → w30.2.2.2 c k = w.2.2.2 c k := pf_new P29 e30
  obtain ⟨w31, e31, h⟩ := blE h
  have P31 : (w31.1.length = w.1.length + 41 ∧ pSl w31.1 = pSl w.1 + 1430) ∧ (∀ (c : Nat) (q : Nat × Nat), w.1[c]? = some q → w31.1[c]? = some q) ∧ ∀ (c k : Nat) (q : Nat × Nat), w.1[c]? = some q → c ≠ a0 → w31.2.2.2 c k = w.2.2.2 c k := pf_S P30 (F3_init e31.symm) (fun c q hc => pf_ne P29 hc)
  obtain ⟨w32, e32, h⟩ := blE h
  have P32 : (w32.1.length = w.1.length + 41 ∧ pSl w32.1 = pSl w.1 + 1430) ∧ (∀ (c : Nat) (q : Nat × Nat), w.1[c]? = some q → w32.1[c]? = some q) ∧ ∀ (c k : Nat) (q : Nat × Nat), w.1[c]? = some q → c ≠ a0 → w32.2.2.2 c k = w.2.2.2 c k := pf_R P31 e32 (fun c q hc => Or.inr (pf_ne P0 hc))
  obtain ⟨w33, e33, h⟩ := blE h
  have P33 : (w33.1.length = w.1.length + 42 ∧ pSl w33.1 = pSl w.1 + 1436) ∧ (∀ (c : Nat) (q : Nat × Nat), w.1[c]? = some q → w33.1[c]? = some q) ∧ ∀ (c k : Nat) (q : Nat × Nat), w.1[c]? = some q → c ≠ a0 → w33.2.2.2 c k = w.2.2.2 c k := pf_new P32 e33
  obtain ⟨w34, e34, h⟩ := blE h
  have P34 : (w34.1.length = w.1.length + 45 ∧ pSl w34.1 = pSl w.1 + 1570) ∧ (∀ (c : Nat) (q : Nat × Nat), w.1[c]? = some q → w34.1[c]? = some q) ∧ ∀ (c k : Nat) (q : Nat × Nat), w.1[c]? = some q → c ≠ a0 → w34.2.2.2 c k = w.2.2.2 c k := pf_S P33 (F3_init e34.symm) (fun c q hc => pf_ne P32 hc)
  obtain ⟨w35, e35, h⟩ := blE h
  have P35 : (w35.1.length = w.1.length + 45 ∧ pSl w35.1 = pSl w.1 + 1570) ∧ (∀ (c : Nat) (q : Nat × Nat), w.1[c]? = some q → w35.1[c]? = some q) ∧ ∀ (c k : Nat) (q : Nat × Nat), w.1[c]? = some q → c ≠ a0 → w35.2.2.2 c k = w.2.2.2 c k := pf_R P34 e35 (fun c q hc => Or.inr (pf_ne P0 hc))
  obtain ⟨w36, e36, h⟩ := blE h
  have P36 : (w36.1.length = w.1.length + 46 ∧ pSl w36.1 = pSl w.1 + 1576) ∧ (∀ (c : Nat) (q : Nat × Nat), w.1[c]? = some q → w36.1[c]? = some q) ∧ ∀ (c k : Nat) (q : Nat × Nat), w.1[c]? = some q → c ≠ a0 → w36.2.2.2 c k = w.2.2.2 c k := pf_new P35 e36
  obtain ⟨w37, e37, h⟩ := blE h
  have P37 : (w37.1.length = w.1.length + 49 ∧ pSl w37.1 = pSl w.1 + 1710) ∧ (∀ (c : Nat) (q : Nat × Nat), w.1[c]? = some q → w37.1[c]? = some q) ∧ ∀ (c k : Nat) (q : Nat × Nat), w.1[c]? = some q → c ≠ a0 → w37.2.2.2 c k = w.2.2.2 c k := pf_S P36 (F3_init e37.symm) (fun c q hc => pf_ne P35 hc)
  obtain ⟨w38, e38, h⟩ := blE h
  have P38 : (w38.1.length = w.1.length + 49 ∧ pSl w38.1 = pSl w.1 + 1710) ∧ (∀ (c : Nat) (q : Nat × Nat), w.1[c]? = some q → w38.1[c]? = some q) ∧ ∀ (c k : Nat) (q : Nat × Nat), w.1[c]? = some q → c ≠ a0 → w38.2.2.2 c k = w.2.2.2 c k := pf_R P37 e38 (fun c q hc => Or.inr (pf_ne P0 hc))
  obtain ⟨w39, e39, h⟩ := blE h
  have P39 : (w39.1.length = w.1.length + 50 ∧ pSl w39.1 = pSl w.1 + 1716) ∧ (∀ (c : Nat) (q : Nat × Nat), w.1[c]? = some q → w39.1[c]? = some q) ∧ ∀ (c k : Nat) (q : Nat × Nat), w.1[c]? = some q → c ≠ a0 → w39.2.2.2 c k = w.2.2.2 c k := pf_new P38 e39
  obtain ⟨w40, e40, h⟩ := blE h
  have P40 : (w40.1.length = w.1.length + 53 ∧ pSl w40.1 = pSl w.1 + 1850) ∧ (∀ (c : Nat) (q : Nat × Nat), w.1[c]? = some q → w40.1[c]? = some q) ∧ ∀ (c k : Nat) (q : Nat × Nat), w.1[c]? = some q → c ≠ a0 → w40.2.2.2 c k = w.2.2.2 c k := pf_S P39 (F3_init e40.symm) (fun c q hc => pf_ne P38 hc)
  obtain ⟨w41, e41, h⟩ := blE h
  have P41 : (w41.1.length = w.1.length + 53 ∧ pSl w41.1 = pSl w.1 + 1850) ∧ (∀ (c : Nat) (q : Nat × Nat), w.1[c]? = some q → w41.1[c]? = some q) ∧ ∀ (c k : Nat) (q : Nat × Nat), w.1[c]? = some q → c ≠ a0 → w41.2.2.2 c k = w.2.2.2 c k := pf_R P40 e41 (fun c q hc => Or.inr (pf_ne P0 hc))
  obtain ⟨w42, e42, h⟩ := blE h
  have P42 : (w42.1.length = w.1.length + 54 ∧ pSl w42.1 = pSl w.1 + 1856) ∧ (∀ (c : Nat) (q : Nat × Nat), w.1[c]? = some q → w42.1[c]? = some q) ∧ ∀ (c k : Nat) (q : Nat × Nat), w.1[c]? = some q → c ≠ a0 → w42.2.2.2 c k = w.2.2.2 c k := pf_new P41 e42
  obtain ⟨w43, e43, h⟩ := blE h
  have P43 : (w43.1.length = w.1.length + 57 ∧ pSl w43.1 = pSl w.1 + 1990) ∧ (∀ (c : Nat) (q : Nat × Nat), w.1[c]? = some q → w43.1[c]? = some q) ∧ ∀ (c k : Nat) (q : Nat × Nat), w.1[c]? = some q → c ≠ a0 → w43.2.2.2 c k = w.2.2.2 c k := pf_S P42 (F3_init e43.symm) (fun c q hc => pf_ne P41 hc)
  obtain ⟨w44, e44, h⟩ := blE h
  have P44 : (w44.1.length = w.1.length + 57 ∧ pSl w44.1 = pSl w.1 + 1990) ∧ (∀ (c : Nat) (q : Nat × Nat), w.1[c]? = some q → w44.1[c]? = some q) ∧ ∀ (c k : Nat) (q : Nat × Nat), w.1[c]? = some q → c ≠ a0 → w44.2.2.2 c k = w.2.2.2 c k := pf_R P43 e44 (fun c q hc => Or.inr (pf_ne P0 hc))
  obtain ⟨w45, e45, h⟩ := blE h
  have P45 : (w45.1.length = w.1.length + 58 ∧ pSl w45.1 = pSl w.1 + 1996) ∧ (∀ (c : Nat) (q : Nat × Nat), w.1[c]? = some q → w45.1[c]? = some q) ∧ ∀ (c k : Nat) (q : Nat × Nat), w.1[c]? = some q → c ≠ a0 → w45.2.2.2 c k = w.2.2.2 c k := pf_new P44 e45
  obtain ⟨w46, e46, h⟩ := blE h
  have P46 : (w46.1.length = w.1.length + 61 ∧ pSl w46.1 = pSl w.1 + 2130) ∧ (∀ (c : Nat) (q : Nat × Nat), w.1[c]? = some q → w46.1[c]? = some q) ∧ ∀ (c k : Nat) (q : Nat × Nat), w.1[c]? = some q → c ≠ a0 → w46.2.2.2 c k = w.2.2.2 c k := pf_S P45 (F3_init e46.symm) (fun c q hc => pf_ne P44 hc)
  obtain ⟨w47, e47, h⟩ := blE h
  have P47 : (w47.1.length = w.1.length + 61 ∧ pSl w47.1 = pSl w.1 + 2130) ∧ (∀ (c : Nat) (q : Nat × Nat), w.1[c]? = some q → w47.1[c]? = some q) ∧ ∀ (c k : Nat) (q : Nat × Nat), w.1[c]? = some q → c ≠ a0 → w47.2.2.2 c k = w.2.2.2 c k := pf_R P46 e47 (fun c q hc => Or.inr (pf_ne P0 hc))
  obtain ⟨w48, e48, h⟩ := blE h
  have P48 : (w48.1.length = w.1.length + 62 ∧ pSl w48.1 = pSl w.1 + 2136) ∧ (∀ (c : Nat) (q : Nat × Nat), w.1[c]? = some q → w48.1[c]? = some q) ∧ ∀ (c k : Nat) (q : Nat × Nat), w.1[c]? = some q → c ≠ a0 → w48.2.2.2 c k = w.2.2.2 c k := pf_new P47 e48
  obtain ⟨w49, e49, h⟩ := blE h
  have P49 : (w49.1.length = w.1.length + 65 ∧ pSl w49.1 = pSl w.1 + 2270) ∧ (∀ (c : Nat) (q : Nat × Nat), w.1[c]? = some q → w49.1[c]? = some q) ∧ ∀ (c k : Nat) (q : Nat × Nat), w.1[c]? = some q → c ≠ a0 → w49.2.2.2 c k = w.2.2.2 c k := pf_S P48 (F3_init e49.symm) (fun c q hc => pf_ne P47 hc)
  obtain ⟨w50, e50, h⟩ := blE h
  have P50 : (w50.1.length = w.1.length + 65 ∧ pSl w50.1 = pSl w.1 + 2270) ∧ (∀ (c : Nat) (q : Nat × Nat), w.1[c]? = some q → w50.1[c]? = some q) ∧ ∀ (c k : Nat) (q : Nat × Nat), w.1[c]? = some q → c ≠ a0 → w50.2.2.2 c k = w.2.2.2 c k := pf_R P49 e50 (fun c q hc => Or.inr (pf_ne P0 hc))
  obtain ⟨w51, e51, h⟩ := blE h
  have P51 : (w51.1.length = w.1.length + 66 ∧ pSl w51.1 = pSl w.1 + 2276) ∧ (∀ (c : Nat) (q : Nat × Nat), w.1[c]? = some q → w51.1[c]? = some q) ∧ ∀ (c k : Nat) (q : Nat × Nat), w.1[c]? = some q → c ≠ a0 → w51.2.2.2 c k = w.2.2.2 c k := pf_new P50 e51
  obtain ⟨w52, e52, h⟩ := blE h
  have P52 : (w52.1.length = w.1.length + 69 ∧ pSl w52.1 = pSl w.1 + 2410) ∧ (∀ (c : Nat) (q : Nat × Nat), w.1[c]? = some q → w52.1[c]? = some q) ∧ ∀ (c k : Nat) (q : Nat × Nat), w.1[c]? = some q → c ≠ a0 → w52.2.2.2 c k = w.2.2.2 c k := pf_S P51 (F3_init e52.symm) (fun c q hc => pf_ne P50 hc)
  obtain ⟨w53, e53, h⟩ := blE h
  have P53 : (w53.1.length = w.1.length + 69 ∧ pSl w53.1 = pSl w.1 + 2410) ∧ (∀ (c : Nat) (q : Nat × Nat), w.1[c]? = some q → w53.1[c]? = some q) ∧ ∀ (c k : Nat) (q : Nat × Nat), w.1[c]? = some q → c ≠ a0 → w53.2.2.2 c k = w.2.2.2 c k := pf_R P52 e53 (fun c q hc => Or.inr (pf_ne P0 hc))
  obtain ⟨w54, e54, h⟩ := blE h
  have P54 : (w54.1.length = w.1.length + 70 ∧ pSl w54.1 = pSl w.1 + 2416) ∧ (∀ (c : Nat) (q : Nat × Nat), w.1[c]? = some q → w54.1[c]? = some q) ∧ ∀ (c k : Nat) (q : Nat × Nat), w.1[c]? = some q → c ≠ a0 → w54.2.2.2 c k = w.2.2.2 c k := pf_new P53 e54
  obtain ⟨w55, e55, h⟩ := blE h
  have P55 : (w55.1.length = w.1.length + 73 ∧ pSl w55.1 = pSl w.1 + 2550) ∧ (∀ (c : Nat) (q : Nat × Nat), w.1[c]? = some q → w55.1[c]? = some q) ∧ ∀ (c k : Nat) (q : Nat × Nat), w.1[c]? = some q → c ≠ a0 → w55.2.2.2 c k = w.2.2.2 c k := pf_S P54 (F3_init e55.symm) (fun c q hc => pf_ne P53 hc)
  obtain ⟨w56, e56, h⟩ := blE h
  have P56 : (w56.1.length = w.1.length + 73 ∧ pSl w56.1 = pSl w.1 + 2550) ∧ (∀ (c : Nat) (q : Nat × Nat), w.1[c]? = some q → w56.1[c]? = some q) ∧ ∀ (c k : Nat) (q : Nat × Nat), w.1[c]? = some q → c ≠ a0 → w56.2.2.2 c k = w.2.2.2 c k := pf_R P55 e56 (fun c q hc => Or.inr (pf_ne P0 hc))
  obtain ⟨w57, e57, h⟩ := blE h
  have P57 : (w57.1.length = w.1.length + 74 ∧ pSl w57.1 = pSl w.1 + 2556) ∧ (∀ (c : Nat) (q : Nat × Nat), w.1[c]? = some q → w57.1[c]? = some q) ∧ ∀ (c k : Nat) (q : Nat × Nat), w.1[c]? = some q → c ≠ a0 → w57.2.2.2 c k = w.2.2.2 c k := pf_new P56 e57
  obtain ⟨w58, e58, h⟩ := blE h
  have P58 : (w58.1.length = w.1.length + 77 ∧ pSl w58.1 = pSl w.1 + 2690) ∧ (∀ (c : Nat) (q : Nat × Nat), w.1[c]? = some q → w58.1[c]? = some q) ∧ ∀ (c k : Nat) (q : Nat × Nat), w.1[c]? = some q → c ≠ a0 → w58.2.2.2 c k = w.2.2.2 c k := pf_S P57 (F3_init e58.symm) (fun c q hc => pf_ne P56 hc)
  obtain ⟨w59, e59, h⟩ := blE h
  have P59 : (w59.1.length = w.1.length + 77 ∧ pSl w59.1 = pSl w.1 + 2690) ∧ (∀ (c : Nat) (q : Nat × Nat), w.1[c]? = some q → w59.1[c]? = some q) ∧ ∀ (c k : Nat) (q : Nat × Nat), w.1[c]? = some q → c ≠ a0 → w59.2.2.2 c k = w.2.2.2 c k := pf_R P58 e59 (fun c q hc => Or.inr (pf_ne P0 hc))
  obtain ⟨w60, e60, h⟩ := blE h
  have P60 : (w60.1.length = w.1.length + 78 ∧ pSl w60.1 = pSl w.1 + 2696) ∧ (∀ (c : Nat) (q : Nat × Nat), w.1[c]? = some q → w60.1[c]? = some q) ∧ ∀ (c k : Nat) (q : Nat × Nat), w.1[c]? = some q → c ≠ a0 → w60.2.2.2 c k = w.2.2.2 c k := pf_new P59 e60
  obtain ⟨w61, e61, h⟩ := blE h
  have P61 : (w61.1.length = w.1.length + 81 ∧ pSl w61.1 = pSl w.1 + 2830) ∧ (∀ (c : Nat) (q : Nat × Nat), w.1[c]? = some q → w61.1[c]? = some q) ∧ ∀ (c k : Nat) (q : Nat × Nat), w.1[c]? = some q → c ≠ a0 → w61.2.2.2 c k = w.2.2.2 c k := pf_S P60 (F3_init e61.symm) (fun c q hc => pf_ne P59 hc)
  obtain ⟨w62, e62, h⟩ := blE h
  have P62 : (w62.1.length = w.1.length + 81 ∧ pSl w62.1 = pSl w.1 + 2830) ∧ (∀ (c : Nat) (q : Nat × Nat), w.1[c]? = some q → w62.1[c]? = some q) ∧ ∀ (c k : Nat) (q : Nat × Nat), w.1[c]? = some q → c ≠ a0 → w62.2.2.2 c k = w.2.2.2 c k := pf_R P61 e62 (fun c q hc => Or.inr (pf_ne P0 hc))
  obtain ⟨w63, e63, h⟩ := blE h
  have P63 : (w63.1.length = w.1.length + 82 ∧ pSl w63.1 = pSl w.1 + 2836) ∧ (∀ (c : Nat) (q : Nat × Nat), w.1[c]? = some q → w63.1[c]? = some q) ∧ ∀ (c k : Nat) (q : Nat × Nat), w.1[c]? = some q → c ≠ a0 → w63.2.2.2 c k = w.2.2.2 c k := pf_new P62 e63
  obtain ⟨w64, e64, h⟩ := blE h
  have P64 : (w64.1.length = w.1.length + 85 ∧ pSl w64.1 = pSl w.1 + 2970) ∧ (∀ (c : Nat) (q : Nat × Nat), w.1[c]? = some q → w64.1[c]? = some q) ∧ ∀ (c k : Nat) (q : Nat × Nat), w.1[c]? = some q → c ≠ a0 → w64.2.2.2 c k = w.2.2.2 c k := pf_S P63 (F3_init e64.symm) (fun c q hc => pf_ne P62 hc)
  obtain ⟨w65, e65, h⟩ := blE h
  have P65 : (w65.1.length = w.1.length + 85 ∧ pSl w65.1 = pSl w.1 + 2970) ∧ (∀ (c : Nat) (q : Nat × Nat), w.1[c]? = some q → w65.1[c]? = some q) ∧ ∀ (c k : Nat) (q : Nat × Nat), w.1[c]? = some q → c ≠ a0 → w65.2.2.2 c k = w.2.2.2 c k := pf_R P64 e65 (fun c q hc => Or.inr (pf_ne P0 hc))
  obtain ⟨w66, e66, h⟩ := blE h
  have P66 : (w66.1.length = w.1.length + 86 ∧ pSl w66.1 = pSl w.1 + 2976) ∧ (∀ (c : Nat) (q : Nat × Nat), w.1[c]? = some q → w66.1[c]? = some q) ∧ ∀ (c k : Nat) (q : Nat × Nat), w.1[c]? = some q → c ≠ a0 → w66.2.2.2 c k = w.2.2.2 c k := pf_new P65 e66
  obtain ⟨w67, e67, h⟩ := blE h
  have P67 : (w67.1.length = w.1.length + 89 ∧ pSl w67.1 = pSl w.1 + 3110) ∧ (∀ (c : Nat) (q : Nat × Nat), w.1[c]? = some q → w67.1[c]? = some q) ∧ ∀ (c k : Nat) (q : Nat × Nat), w.1[c]? = some q → c ≠ a0 → w67.2.2.2 c k = w.2.2.2 c k := pf_S P66 (F3_init e67.symm) (fun c q hc => pf_ne P65 hc)
  obtain ⟨w68, e68, h⟩ := blE h
  have P68 : (w68.1.length = w.1.length + 89 ∧ pSl w68.1 = pSl w.1 + 3110) ∧ (∀ (c : Nat) (q : Nat × Nat), w.1[c]? = some q → w68.1[c]? = some q) ∧ ∀ (c k : Nat) (q : Nat × Nat), w.1[c]? = some q → c ≠ a0 → w68.2.2.2 c k = w.2.2.2 c k := pf_R P67 e68 (fun c q hc => Or.inr (pf_ne P0 hc))
  obtain ⟨w69, e69, h⟩ := blE h
  have P69 : (w69.1.length = w.1.length + 90 ∧ pSl w69.1 = pSl w.1 + 3116) ∧ (∀ (c : Nat) (q : Nat × Nat), w.1[c]? = some q → w69.1[c]? = some q) ∧ ∀ (c k : Nat) (q : Nat × Nat), w.1[c]? = some q → c ≠ a0 → w69.2.2.2 c k = w.2.2.2 c k := pf_new P68 e69
  obtain ⟨w70, e70, h⟩ := blE h
  have P70 : (w70.1.length = w.1.length + 93 ∧ pSl w70.1 = pSl w.1 + 3250) ∧ (∀ (c : Nat) (q : Nat × Nat), w.1[c]? = some q → w70.1[c]? = some q) ∧ ∀ (c k : Nat) (q : Nat × Nat), w.1[c]? = some q → c ≠ a0 → w70.2.2.2 c k = w.2.2.2 c k := pf_S P69 (F3_init e70.symm) (fun c q hc => pf_ne P68 hc)
  obtain ⟨w71, e71, h⟩ := blE h
  have P71 : (w71.1.length = w.1.length + 93 ∧ pSl w71.1 = pSl w.1 + 3250) ∧ (∀ (c : Nat) (q : Nat × Nat), w.1[c]? = some q → w71.1[c]? = some q) ∧ ∀ (c k : Nat) (q : Nat × Nat), w.1[c]? = some q → c ≠ a0 → w71.2.2.2 c k = w.2.2.2 c k := pf_R P70 e71 (fun c q hc => Or.inr (pf_ne P0 hc))
  obtain ⟨w72, e72, h⟩ := blE h
  have P72 : (w72.1.length = w.1.length + 94 ∧ pSl w72.1 = pSl w.1 + 3256) ∧ (∀ (c : Nat) (q : Nat × Nat), w.1[c]? = some q → w72.1[c]? = some q) ∧ ∀ (c k : Nat) (q : Nat × Nat), w.1[c]? = some q → c ≠ a0 → w72.2.2.2 c k = w.2.2.2 c k := pf_new P71 e72
  obtain ⟨w73, e73, h⟩ := blE h
  have P73 : (w73.1.length = w.1.length + 97 ∧ pSl w73.1 = pSl w.1 + 3390) ∧ (∀ (c : Nat) (q : Nat × Nat), w.1[c]? = some q → w73.1[c]? = some q) ∧ ∀ (c k : Nat) (q : Nat × Nat), w.1[c]? = some q → c ≠ a0 → w73.2.2.2 c k = w.2.2.2 c k := pf_S P72 (F3_init e73.symm) (fun c q hc => pf_ne P71 hc)
  obtain ⟨w74, e74, h⟩ := blE h
  have P74 : (w74.1.length = w.1.length + 97 ∧ pSl w74.1 = pSl w.1 + 3390) ∧ (∀ (c : Nat) (q : Nat × Nat), w.1[c]? = some q → w74.1[c]? = some q) ∧ ∀ (c k : Nat) (q : Nat × Nat), w.1[c]? = some q → c ≠ a0 → w74.2.2.2 c k = w.2.2.2 c k := pf_R P73 e74 (fun c q hc => Or.inr (pf_ne P0 hc))
  obtain ⟨w75, e75, h⟩ := blE h
  have P75 : (w75.1.length = w.1.length + 98 ∧ pSl w75.1 = pSl w.1 + 3396) ∧ (∀ (c : Nat) (q : Nat × Nat), w.1[c]? = some q → w75.1[c]? = some q) ∧ ∀ (c k : Nat) (q : Nat × Nat), w.1[c]? = some q → c ≠ a0 → w75.2.2.2 c k = w.2.2.2 c k := pf_new P74 e75
  obtain ⟨w76, e76, h⟩ := blE h
  have P76 : (w76.1.length = w.1.length + 101 ∧ pSl w76.1 = pSl w.1 + 3530) ∧ (∀ (c : Nat) (q : Nat × Nat), w.1[c]? = some q → w76.1[c]? = some q) ∧ ∀ (c k : Nat) (q : Nat × Nat), w.1[c]? = some q → c ≠ a0 → w76.2.2.2 c k = w.2.2.2 c k := pf_S P75 (F3_init e76.symm) (fun c q hc => pf_ne P74 hc)
  obtain ⟨w77, e77, h⟩ := blE h
  have P77 : (w77.1.length = w.1.length + 101 ∧ pSl w77.1 = pSl w.1 + 3530) ∧ (∀ (c : Nat) (q : Nat × Nat), w.1[c]? = some q → w77.1[c]? = some q) ∧ ∀ (c k : Nat) (q : Nat × Nat), w.1[c]? = some q → c ≠ a0 → w77.2.2.2 c k = w.2.2.2 c k := pf_R P76 e77 (fun c q hc => Or.inr (pf_ne P0 hc))
  obtain ⟨w78, e78, h⟩ := blE h
  have P78 : (w78.1.length = w.1.length + 102 ∧ pSl w78.1 = pSl w.1 + 3536) ∧ (∀ (c : Nat) (q : Nat × Nat), w.1[c]? = some q → w78.1[c]? = some q) ∧ ∀ (c k : Nat) (q : Nat × Nat), w.1[c]? = some q → c ≠ a0 → w78.2.2.2 c k = w.2.2.2 c k := pf_new P77 e78
  obtain ⟨w79, e79, h⟩ := blE h
  have P79 : (w79.1.length = w.1.length + 105 ∧ pSl w79.1 = pSl w.1 + 3670) ∧ (∀ (c : Nat) (q : Nat × Nat), w.1[c]? = some q → w79.1[c]? = some q) ∧ ∀ (c k : Nat) (q : Nat × Nat), w.1[c]? = some q → c ≠ a0 → w79.2.2.2 c k = w.2.2.2 c k := pf_S P78 (F3_init e79.symm) (fun c q hc => pf_ne P77 hc)
  obtain ⟨w80, e80, h⟩ := blE h
  have P80 : (w80.1.length = w.1.length + 105 ∧ pSl w80.1 = pSl w.1 + 3670) ∧ (∀ (c : Nat) (q : Nat × Nat), w.1[c]? = some q → w80.1[c]? = some q) ∧ ∀ (c k : Nat) (q : Nat × Nat), w.1[c]? = some q → c ≠ a0 → w80.2.2.2 c k = w.2.2.2 c k := pf_R P79 e80 (fun c q hc => Or.inr (pf_ne P0 hc))
  obtain ⟨w81, e81, h⟩ := blE h
  have P81 : (w81.1.length = w.1.length + 106 ∧ pSl w81.1 = pSl w.1 + 3676) ∧ (∀ (c : Nat) (q : Nat × Nat), w.1[c]? = some q → w81.1[c]? = some q) ∧ ∀ (c k : Nat) (q : Nat × Nat), w.1[c]? = some q → c ≠ a0 → w81.2.2.2 c k = w.2.2.2 c k := pf_new P80 e81
  obtain ⟨w82, e82, h⟩ := blE h
  have P82 : (w82.1.length = w.1.length + 109 ∧ pSl w82.1 = pSl w.1 + 3810) ∧ (∀ (c : Nat) (q : Nat × Nat), w.1[c]? = some q → w82.1[c]? = some q) ∧ ∀ (c k : Nat) (q : Nat × Nat), w.1[c]? = some q → c ≠ a0 → w82.2.2.2 c k = w.2.2.2 c k := pf_S P81 (F3_init e82.symm) (fun c q hc => pf_ne P80 hc)
  obtain ⟨w83, e83, h⟩ := blE h
  have P83 : (w83.1.length = w.1.length + 109 ∧ pSl w83.1 = pSl w.1 + 3810) ∧ (∀ (c : Nat) (q : Nat × Nat), w.1[c]? = some q → w83.1[c]? = some q) ∧ ∀ (c k : Nat) (q : Nat × Nat), w.1[c]? = some q → c ≠ a0 → w83.2.2.2 c k = w.2.2.2 c k := pf_R P82 e83 (fun c q hc => Or.inr (pf_ne P0 hc))
  obtain ⟨w84, e84, h⟩ := blE h
  have P84 : (w84.1.length = w.1.length + 110 ∧ pSl w84.1 = pSl w.1 + 3816) ∧ (∀ (c : Nat) (q : Nat × Nat), w.1[c]? = some q → w84.1[c]? = some q) ∧ ∀ (c k : Nat) (q : Nat × Nat), w.1[c]? = some q → c ≠ a0 → w84.2.2.2 c k = w.2.2.2 c k := pf_new P83 e84
  obtain ⟨w85, e85, h⟩ := blE h
  have P85 : (w85.1.length = w.1.length + 113 ∧ pSl w85.1 = pSl w.1 + 3950) ∧ (∀ (c : Nat) (q : Nat × Nat), w.1[c]? = some q → w85.1[c]? = some q) ∧ ∀ (c k : Nat) (q : Nat × Nat), w.1[c]? = some q → c ≠ a0 → w85.2.2.2 c k = w.2.2.2 c k := pf_S P84 (F3_init e85.symm) (fun c q hc => pf_ne P83 hc)
  obtain ⟨w86, e86, h⟩ := blE h
  have P86 : (w86.1.length = w.1.length + 113 ∧ pSl w86.1 = pSl w.1 + 3950) ∧ (∀ (c : Nat) (q : Nat × Nat), w.1[c]? = some q → w86.1[c]? = some q) ∧ ∀ (c k : Nat) (q : Nat × Nat), w.1[c]? = some q → c ≠ a0 → w86.2.2.2 c k = w.2.2.2 c k := pf_R P85 e86 (fun c q hc => Or.inr (pf_ne P0 hc))
  obtain ⟨w87, e87, h⟩ := blE h
  have P87 : (w87.1.length = w.1.length + 114 ∧ pSl w87.1 = pSl w.1 + 3956) ∧ (∀ (c : Nat) (q : Nat × Nat), w.1[c]? = some q → w87.1[c]? = some q) ∧ ∀ (c k : Nat) (q : Nat × Nat), w.1[c]? = some q → c ≠ a0 → w87.2.2.2 c k = w.2.2.2 c k := pf_new P86 e87
  obtain ⟨w88, e88, h⟩ := blE h
  have P88 : (w88.1.length = w.1.length + 117 ∧ pSl w88.1 = pSl w.1 + 4090) ∧ (∀ (c : Nat) (q : Nat × Nat), w.1[c]? = some q → w88.1[c]? = some q) ∧ ∀ (c k : Nat) (q : Nat × Nat), w.1[c]? = some q → c ≠ a0 → w88.2.2.2 c k = w.2.2.2 c k := pf_S P87 (F3_init e88.symm) (fun c q hc => pf_ne P86 hc)
  obtain ⟨w89, e89, h⟩ := blE h
  have P89 : (w89.1.length = w.1.length + 117 ∧ pSl w89.1 = pSl w.1 + 4090) ∧ (∀ (c : Nat) (q : Nat × Nat), w.1[c]? = some q → w89.1[c]? = some q) ∧ ∀ (c k : Nat) (q : Nat × Nat), w.1[c]? = some q → c ≠ a0 → w89.2.2.2 c k = w.2.2.2 c k := pf_R P88 e89 (fun c q hc => Or.inr (pf_ne P0 hc))
  obtain ⟨w90, e90, h⟩ := blE h
  have P90 : (w90.1.length = w.1.length + 118 ∧ pSl w90.1 = pSl w.1 + 4096) ∧ (∀ (c : Nat) (q : Nat × Nat), w.1[c]? = some q → w90.1[c]? = some q) ∧ ∀ (c k : Nat) (q : Nat × Nat), w.1[c]? = some q → c ≠ a0 → w90.2.2.2 c k = w.2.2.2 c k := pf_new P89 e90
  obtain ⟨w91, e91, h⟩ := blE h
  have P91 : (w91.1.length = w.1.length + 121 ∧ pSl w91.1 = pSl w.1 + 4230) ∧ (∀ (c : Nat) (q : Nat × Nat), w.1[c]? = some q → w91.1[c]? = some q) ∧ ∀ (c k : Nat) (q : Nat × Nat), w.1[c]? = some q → c ≠ a0 → w91.2.2.2 c k = w.2.2.2 c k := pf_S P90 (F3_init e91.symm) (fun c q hc => pf_ne P89 hc)
  obtain ⟨w92, e92, h⟩ := blE h
  have P92 : (w92.1.length = w.1.length + 121 ∧ pSl w92.1 = pSl w.1 + 4230) ∧ (∀ (c : Nat) (q : Nat × Nat), w.1[c]? = some q → w92.1[c]? = some q) ∧ ∀ (c k : Nat) (q : Nat × Nat), w.1[c]? = some q → c ≠ a0 → w92.2.2.2 c k = w.2.2.2 c k := pf_R P91 e92 (fun c q hc => Or.inr (pf_ne P0 hc))
  subst h
  exact ⟨P92.1.1, P92.1.2, P92.2⟩
set_option maxHeartbeats 4000000 in
set_option maxRecDepth 20000 in
theorem oi0_init {g : pG} {Qx : Option Value → pW → Prop} {w wf : pW} {a0 : Nat} (d : Nat) (hz0 : w.1[a0]? = some (0, 3)) (hL : w.1.length + 121 ≤ 1000) (h : i0_init a0 w = wf) (hQ : Qx none wf) : Ok g (d + 3, RX0, cX0_init, 2, true, 121, 4230, w.1.length, pSl w.1) Qx 0 [(0, .ref a0)] [] w := by
  unfold i0_init at h
  have l0 : w.1.length = w.1.length + 0 := rfl
  have s0 : pSl w.1 = pSl w.1 + 0 := rfl
  refine ok_aload_n dX0_init_0 0 rfl ?_
  refine ok_oinit dX0_init_1 lkRX0_3 (Nat.le_of_ble_eq_true rfl) (by show 1 ≤ d + _; omega) ?_
  refine ok_aload_n dX0_init_4 0 rfl ?_
  refine ok_bipush (v := 30) dX0_init_5 (by decide) ?_
  obtain ⟨w1, e1, h⟩ := blE h
  refine oi_newq (kd := 16) (N := 30) (C := RX3) dX0_init_7 (Or.inl ⟨rfl, rfl⟩) (tb_i (c := Cond.classLink RX0 9 RX3) 110 (by decide +kernel)) (by decide) (by decide) (by decide) (b_len (mc := 121) l0 hL (by decide)) (b_c1 (mc := 121) l0 (by decide)) (b_s1 (ms := 4230) s0 (by decide)) e1 ?_
  have l1 : w1.1.length = w.1.length + 1 := ln_new e1 l0
  have s1 : pSl w1.1 = pSl w.1 + 30 := sn_new e1 s0
  have z1_0 : w1.1[a0]? = some (0, 3) := by rw [e1]; exact z_new hz0
  have z1_n : w1.1[w.1.length]? = some (16, 30) := by rw [e1]; exact z_at _ _
  obtain ⟨w2, e2, h⟩ := blE h
  refine oi_putR (ci := 0) (k := 0) dX0_init_10 flRX0_11 rfl (Or.inr ⟨_, rfl⟩) (Or.inr ⟨rfl, rfl, rfl⟩) z1_0 (by decide) e2 ?_
  have l2 : w2.1.length = w.1.length + 1 := by rw [e2]; exact l1
  have s2 : pSl w2.1 = pSl w.1 + 30 := by rw [e2]; exact s1
  have z2_0 : w2.1[a0]? = some (0, 3) := by rw [e2]; exact z1_0
  have z2_1 : w2.1[w.1.length]? = some (16, 30) := by rw [e2]; exact z1_n
  have o2_p : w2.2.2.2 a0 0 = some w.1.length := by rw [e2]; exact o_at _ _ _ _
  refine ok_iconst (v := 0) dX0_init_13 (by decide) ?_
  refine ok_istore_n (l' := [(1, .int 0), (0, .ref a0)]) dX0_init_14 rfl (Nat.le_of_ble_eq_true rfl) rfl ?_
  refine ok_iload_n dX0_init_15 0 rfl ?_
  refine ok_bipush (v := 30) dX0_init_16 (by decide) ?_
  refine ok_icmp_ge (t := 40) dX0_init_18 (by decide) (fun q => absurd q (by decide)) (fun _ => ?_)
  refine ok_aload_n dX0_init_21 1 rfl ?_
  refine oi_getR (ci := 0) (k := 0) dX0_init_22 flRX0_11 rfl z2_0 (by decide) o2_p ?_
  refine ok_iload_n dX0_init_25 0 rfl ?_
  obtain ⟨w3, e3, h⟩ := blE h
  refine oi_new (ci := 3) (q := (RX3, TX3, 6)) dX0_init_26 rfl (tb_i (c := Cond.classLink RX0 9 RX3) 110 (by decide +kernel)) (b_len (mc := 121) l2 hL (by decide)) (b_c1 (mc := 121) l2 (by decide)) (b_s1 (N := 6) (ms := 4230) s2 (by decide)) e3 ?_
  have l3 : w3.1.length = w.1.length + 2 := ln_new e3 l2
  have s3 : pSl w3.1 = pSl w.1 + 36 := sn_new e3 s2
  have z3_0 : w3.1[a0]? = some (0, 3) := by rw [e3]; exact z_new z2_0
  have z3_1 : w3.1[w.1.length]? = some (16, 30) := by rw [e3]; exact z_new z2_1
  have z3_n : w3.1[w2.1.length]? = some (3, 6) := by rw [e3]; exact z_at _ _
  have o3_0 : w3.2.2.2 a0 0 = some w.1.length := by rw [e3, o_new z2_0]; exact o2_p
  refine ok_dup dX0_init_29 rfl ?_
  refine ok_callI (d := (d + 0 + 2)) (mt := m3_init) (mc := 3) (ms := 134) (a := w2.1.length) (As := []) (r := [.ref w2.1.length, .int 0, .ref w.1.length]) dX0_init_30 mo3_init mv3_init lkRX0_17 rfl rfl (Nat.le_of_ble_eq_true rfl) (dep_le d (by decide)) (b_cm (mc := 121) l3 (by decide)) (b_cm (mc := 4230) s3 (by decide)) ?_
  obtain ⟨w4, e4, h⟩ := blE h
  refine ki3_init (d + 0) z3_n (b_sub l3 hL (by decide)) e4.symm ?_
  show Ok g _ Qx 33 [(1, .int 0), (0, .ref a0)] [.ref w2.1.length, .int 0, .ref w.1.length] w4
  have F4 := F3_init e4.symm
  have l4 : w4.1.length = w.1.length + 5 := ln_sub F4.1 l3
  have s4 : pSl w4.1 = pSl w.1 + 170 := ln_sub F4.2.1 s3
  have z4_0 : w4.1[a0]? = some (0, 3) := by exact F4.2.2.1 _ _ z3_0
  have z4_1 : w4.1[w.1.length]? = some (16, 30) := by exact F4.2.2.1 _ _ z3_1
  have z4_2 : w4.1[w2.1.length]? = some (3, 6) := by exact F4.2.2.1 _ _ z3_n
  have o4_0 : w4.2.2.2 a0 0 = some w.1.length := by rw [F4.2.2.2 _ _ _ z3_0 (ne_z z3_0 z3_n (by decide))]; exact o3_0
  obtain ⟨w5, e5, h⟩ := blE h
  refine oi_aast (N := 0) dX0_init_33 z4_1 (Or.inl ⟨rfl, rfl⟩) z4_2 (by unfold vp_in; decide) (by decide) e5 ?_
  have l5 : w5.1.length = w.1.length + 5 := by rw [e5]; exact l4
  have s5 : pSl w5.1 = pSl w.1 + 170 := by rw [e5]; exact s4
  have z5_0 : w5.1[a0]? = some (0, 3) := by rw [e5]; exact z4_0
  have z5_1 : w5.1[w.1.length]? = some (16, 30) := by rw [e5]; exact z4_1
  have o5_0 : w5.2.2.2 a0 0 = some w.1.length := by rw [e5, o_R (Or.inl (ne_z z4_0 z4_1 (by decide)))]; exact o4_0
  refine ok_iinc (u := 1) (l' := [(1, .int 1), (0, .ref a0)]) dX0_init_34 0 rfl (by decide) (Nat.le_of_ble_eq_true rfl) rfl ?_
  refine ok_goto (t := 15) dX0_init_37 (by decide) ?_
  refine ok_iload_n dX0_init_15 0 rfl ?_
  refine ok_bipush (v := 30) dX0_init_16 (by decide) ?_
  refine ok_icmp_ge (t := 40) dX0_init_18 (by decide) (fun q => absurd q (by decide)) (fun _ => ?_)
  refine ok_aload_n dX0_init_21 1 rfl ?_
  refine oi_getR (ci := 0) (k := 0) dX0_init_22 flRX0_11 rfl z5_0 (by decide) o5_0 ?_
  refine ok_iload_n dX0_init_25 0 rfl ?_
  obtain ⟨w6, e6, h⟩ := blE h
  refine oi_new (ci := 3) (q := (RX3, TX3, 6)) dX0_init_26 rfl (tb_i (c := Cond.classLink RX0 9 RX3) 110 (by decide +kernel)) (b_len (mc := 121) l5 hL (by decide)) (b_c1 (mc := 121) l5 (by decide)) (b_s1 (N := 6) (ms := 4230) s5 (by decide)) e6 ?_
  have l6 : w6.1.length = w.1.length + 6 := ln_new e6 l5
  have s6 : pSl w6.1 = pSl w.1 + 176 := sn_new e6 s5
  have z6_0 : w6.1[a0]? = some (0, 3) := by rw [e6]; exact z_new z5_0
  have z6_1 : w6.1[w.1.length]? = some (16, 30) := by rw [e6]; exact z_new z5_1
  have z6_n : w6.1[w5.1.length]? = some (3, 6) := by rw [e6]; exact z_at _ _
  have o6_0 : w6.2.2.2 a0 0 = some w.1.length := by rw [e6, o_new z5_0]; exact o5_0
  refine ok_dup dX0_init_29 rfl ?_
  refine ok_callI (d := (d + 0 + 2)) (mt := m3_init) (mc := 3) (ms := 134) (a := w5.1.length) (As := []) (r := [.ref w5.1.length, .int 1, .ref w.1.length]) dX0_init_30 mo3_init mv3_init lkRX0_17 rfl rfl (Nat.le_of_ble_eq_true rfl) (dep_le d (by decide)) (b_cm (mc := 121) l6 (by decide)) (b_cm (mc := 4230) s6 (by decide)) ?_
  obtain ⟨w7, e7, h⟩ := blE h
  refine ki3_init (d + 0) z6_n (b_sub l6 hL (by decide)) e7.symm ?_
  show Ok g _ Qx 33 [(1, .int 1), (0, .ref a0)] [.ref w5.1.length, .int 1, .ref w.1.length] w7
  have F7 := F3_init e7.symm
  have l7 : w7.1.length = w.1.length + 9 := ln_sub F7.1 l6
  have s7 : pSl w7.1 = pSl w.1 + 310 := ln_sub F7.2.1 s6
  have z7_0 : w7.1[a0]? = some (0, 3) := by exact F7.2.2.1 _ _ z6_0
  have z7_1 : w7.1[w.1.length]? = some (16, 30) := by exact F7.2.2.1 _ _ z6_1
  have z7_2 : w7.1[w5.1.length]? = some (3, 6) := by exact F7.2.2.1 _ _ z6_n
  have o7_0 : w7.2.2.2 a0 0 = some w.1.length := by rw [F7.2.2.2 _ _ _ z6_0 (ne_z z6_0 z6_n (by decide))]; exact o6_0
  obtain ⟨w8, e8, h⟩ := blE h
  refine oi_aast (N := 1) dX0_init_33 z7_1 (Or.inl ⟨rfl, rfl⟩) z7_2 (by unfold vp_in; decide) (by decide) e8 ?_
  have l8 : w8.1.length = w.1.length + 9 := by rw [e8]; exact l7
  have s8 : pSl w8.1 = pSl w.1 + 310 := by rw [e8]; exact s7
  have z8_0 : w8.1[a0]? = some (0, 3) := by rw [e8]; exact z7_0
  have z8_1 : w8.1[w.1.length]? = some (16, 30) := by rw [e8]; exact z7_1
  have o8_0 : w8.2.2.2 a0 0 = some w.1.length := by rw [e8, o_R (Or.inl (ne_z z7_0 z7_1 (by decide)))]; exact o7_0
  refine ok_iinc (u := 2) (l' := [(1, .int 2), (0, .ref a0)]) dX0_init_34 0 rfl (by decide) (Nat.le_of_ble_eq_true rfl) rfl ?_
  refine ok_goto (t := 15) dX0_init_37 (by decide) ?_
  refine ok_iload_n dX0_init_15 0 rfl ?_
  refine ok_bipush (v := 30) dX0_init_16 (by decide) ?_
  refine ok_icmp_ge (t := 40) dX0_init_18 (by decide) (fun q => absurd q (by decide)) (fun _ => ?_)
  refine ok_aload_n dX0_init_21 1 rfl ?_
  refine oi_getR (ci := 0) (k := 0) dX0_init_22 flRX0_11 rfl z8_0 (by decide) o8_0 ?_
  refine ok_iload_n dX0_init_25 0 rfl ?_
  obtain ⟨w9, e9, h⟩ := blE h
  refine oi_new (ci := 3) (q := (RX3, TX3, 6)) dX0_init_26 rfl (tb_i (c := Cond.classLink RX0 9 RX3) 110 (by decide +kernel)) (b_len (mc := 121) l8 hL (by decide)) (b_c1 (mc := 121) l8 (by decide)) (b_s1 (N := 6) (ms := 4230) s8 (by decide)) e9 ?_
  have l9 : w9.1.length = w.1.length + 10 := ln_new e9 l8
  have s9 : pSl w9.1 = pSl w.1 + 316 := sn_new e9 s8
  have z9_0 : w9.1[a0]? = some (0, 3) := by rw [e9]; exact z_new z8_0
  have z9_1 : w9.1[w.1.length]? = some (16, 30) := by rw [e9]; exact z_new z8_1
  have z9_n : w9.1[w8.1.length]? = some (3, 6) := by rw [e9]; exact z_at _ _
  have o9_0 : w9.2.2.2 a0 0 = some w.1.length := by rw [e9, o_new z8_0]; exact o8_0
  refine ok_dup dX0_init_29 rfl ?_
  refine ok_callI (d := (d + 0 + 2)) (mt := m3_init) (mc := 3) (ms := 134) (a := w8.1.length) (As := []) (r := [.ref w8.1.length, .int 2, .ref w.1.length]) dX0_init_30 mo3_init mv3_init lkRX0_17 rfl rfl (Nat.le_of_ble_eq_true rfl) (dep_le d (by decide)) (b_cm (mc := 121) l9 (by decide)) (b_cm (mc := 4230) s9 (by decide)) ?_
  obtain ⟨w10, e10, h⟩ := blE h
  refine ki3_init (d + 0) z9_n (b_sub l9 hL (by decide)) e10.symm ?_
  show Ok g _ Qx 33 [(1, .int 2), (0, .ref a0)] [.ref w8.1.length, .int 2, .ref w.1.length] w10
  have F10 := F3_init e10.symm
  have l10 : w10.1.length = w.1.length + 13 := ln_sub F10.1 l9
  have s10 : pSl w10.1 = pSl w.1 + 450 := ln_sub F10.2.1 s9
  have z10_0 : w10.1[a0]? = some (0, 3) := by exact F10.2.2.1 _ _ z9_0
  have z10_1 : w10.1[w.1.length]? = some (16, 30) := by exact F10.2.2.1 _ _ z9_1
  have z10_2 : w10.1[w8.1.length]? = some (3, 6) := by exact F10.2.2.1 _ _ z9_n
  have o10_0 : w10.2.2.2 a0 0 = some w.1.length := by rw [F10.2.2.2 _ _ _ z9_0 (ne_z z9_0 z9_n (by decide))]; exact o9_0
  obtain ⟨w11, e11, h⟩ := blE h
  refine oi_aast (N := 2) dX0_init_33 z10_1 (Or.inl ⟨rfl, rfl⟩) z10_2 (by unfold vp_in; decide) (by decide) e11 ?_
  have l11 : w11.1.length = w.1.length + 13 := by rw [e11]; exact l10
  have s11 : pSl w11.1 = pSl w.1 + 450 := by rw [e11]; exact s10
  have z11_0 : w11.1[a0]? = some (0, 3) := by rw [e11]; exact z10_0
  have z11_1 : w11.1[w.1.length]? = some (16, 30) := by rw [e11]; exact z10_1
  have o11_0 : w11.2.2.2 a0 0 = some w.1.length := by rw [e11, o_R (Or.inl (ne_z z10_0 z10_1 (by decide)))]; exact o10_0
  refine ok_iinc (u := 3) (l' := [(1, .int 3), (0, .ref a0)]) dX0_init_34 0 rfl (by decide) (Nat.le_of_ble_eq_true rfl) rfl ?_
  refine ok_goto (t := 15) dX0_init_37 (by decide) ?_
  refine ok_iload_n dX0_init_15 0 rfl ?_
  refine ok_bipush (v := 30) dX0_init_16 (by decide) ?_
  refine ok_icmp_ge (t := 40) dX0_init_18 (by decide) (fun q => absurd q (by decide)) (fun _ => ?_)
  refine ok_aload_n dX0_init_21 1 rfl ?_
  refine oi_getR (ci := 0) (k := 0) dX0_init_22 flRX0_11 rfl z11_0 (by decide) o11_0 ?_
  refine ok_iload_n dX0_init_25 0 rfl ?_
  obtain ⟨w12, e12, h⟩ := blE h
  refine oi_new (ci := 3) (q := (RX3, TX3, 6)) dX0_init_26 rfl (tb_i (c := Cond.classLink RX0 9 RX3) 110 (by decide +kernel)) (b_len (mc := 121) l11 hL (by decide)) (b_c1 (mc := 121) l11 (by decide)) (b_s1 (N := 6) (ms := 4230) s11 (by decide)) e12 ?_
  have l12 : w12.1.length = w.1.length + 14 := ln_new e12 l11
  have s12 : pSl w12.1 = pSl w.1 + 456 := sn_new e12 s11
  have z12_0 : w12.1[a0]? = some (0, 3) := by rw [e12]; exact z_new z11_0
  have z12_1 : w12.1[w.1.length]? = some (16, 30) := by rw [e12]; exact z_new z11_1
  have z12_n : w12.1[w11.1.length]? = some (3, 6) := by rw [e12]; exact z_at _ _
  have o12_0 : w12.2.2.2 a0 0 = some w.1.length := by rw [e12, o_new z11_0]; exact o11_0
  refine ok_dup dX0_init_29 rfl ?_
  refine ok_callI (d := (d + 0 + 2)) (mt := m3_init) (mc := 3) (ms := 134) (a := w11.1.length) (As := []) (r := [.ref w11.1.length, .int 3, .ref w.1.length]) dX0_init_30 mo3_init mv3_init lkRX0_17 rfl rfl (Nat.le_of_ble_eq_true rfl) (dep_le d (by decide)) (b_cm (mc := 121) l12 (by decide)) (b_cm (mc := 4230) s12 (by decide)) ?_
  obtain ⟨w13, e13, h⟩ := blE h
  refine ki3_init (d + 0) z12_n (b_sub l12 hL (by decide)) e13.symm ?_
  show Ok g _ Qx 33 [(1, .int 3), (0, .ref a0)] [.ref w11.1.length, .int 3, .ref w.1.length] w13
  have F13 := F3_init e13.symm
  have l13 : w13.1.length = w.1.length + 17 := ln_sub F13.1 l12
  have s13 : pSl w13.1 = pSl w.1 + 590 := ln_sub F13.2.1 s12
  have z13_0 : w13.1[a0]? = some (0, 3) := by exact F13.2.2.1 _ _ z12_0
  have z13_1 : w13.1[w.1.length]? = some (16, 30) := by exact F13.2.2.1 _ _ z12_1
  have z13_2 : w13.1[w11.1.length]? = some (3, 6) := by exact F13.2.2.1 _ _ z12_n
  have o13_0 : w13.2.2.2 a0 0 = some w.1.length := by rw [F13.2.2.2 _ _ _ z12_0 (ne_z z12_0 z12_n (by decide))]; exact o12_0
  obtain ⟨w14, e14, h⟩ := blE h
  refine oi_aast (N := 3) dX0_init_33 z13_1 (Or.inl ⟨rfl, rfl⟩) z13_2 (by unfold vp_in; decide) (by decide) e14 ?_
  have l14 : w14.1.length = w.1.length + 17 := by rw [e14]; exact l13
  have s14 : pSl w14.1 = pSl w.1 + 590 := by rw [e14]; exact s13
  have z14_0 : w14.1[a0]? = some (0, 3) := by rw [e14]; exact z13_0
  have z14_1 : w14.1[w.1.length]? = some (16, 30) := by rw [e14]; exact z13_1
  have o14_0 : w14.2.2.2 a0 0 = some w.1.length := by rw [e14, o_R (Or.inl (ne_z z13_0 z13_1 (by decide)))]; exact o13_0
  refine ok_iinc (u := 4) (l' := [(1, .int 4), (0, .ref a0)]) dX0_init_34 0 rfl (by decide) (Nat.le_of_ble_eq_true rfl) rfl ?_
  refine ok_goto (t := 15) dX0_init_37 (by decide) ?_
  refine ok_iload_n dX0_init_15 0 rfl ?_
  refine ok_bipush (v := 30) dX0_init_16 (by decide) ?_
  refine ok_icmp_ge (t := 40) dX0_init_18 (by decide) (fun q => absurd q (by decide)) (fun _ => ?_)
  refine ok_aload_n dX0_init_21 1 rfl ?_
  refine oi_getR (ci := 0) (k := 0) dX0_init_22 flRX0_11 rfl z14_0 (by decide) o14_0 ?_
  refine ok_iload_n dX0_init_25 0 rfl ?_
  obtain ⟨w15, e15, h⟩ := blE h
  refine oi_new (ci := 3) (q := (RX3, TX3, 6)) dX0_init_26 rfl (tb_i (c := Cond.classLink RX0 9 RX3) 110 (by decide +kernel)) (b_len (mc := 121) l14 hL (by decide)) (b_c1 (mc := 121) l14 (by decide)) (b_s1 (N := 6) (ms := 4230) s14 (by decide)) e15 ?_
  have l15 : w15.1.length = w.1.length + 18 := ln_new e15 l14
  have s15 : pSl w15.1 = pSl w.1 + 596 := sn_new e15 s14
  have z15_0 : w15.1[a0]? = some (0, 3) := by rw [e15]; exact z_new z14_0
  have z15_1 : w15.1[w.1.length]? = some (16, 30) := by rw [e15]; exact z_new z14_1
  have z15_n : w15.1[w14.1.length]? = some (3, 6) := by rw [e15]; exact z_at _ _
  have o15_0 : w15.2.2.2 a0 0 = some w.1.length := by rw [e15, o_new z14_0]; exact o14_0
  refine ok_dup dX0_init_29 rfl ?_
  refine ok_callI (d := (d + 0 + 2)) (mt := m3_init) (mc := 3) (ms := 134) (a := w14.1.length) (As := []) (r := [.ref w14.1.length, .int 4, .ref w.1.length]) dX0_init_30 mo3_init mv3_init lkRX0_17 rfl rfl (Nat.le_of_ble_eq_true rfl) (dep_le d (by decide)) (b_cm (mc := 121) l15 (by decide)) (b_cm (mc := 4230) s15 (by decide)) ?_
  obtain ⟨w16, e16, h⟩ := blE h
  refine ki3_init (d + 0) z15_n (b_sub l15 hL (by decide)) e16.symm ?_
  show Ok g _ Qx 33 [(1, .int 4), (0, .ref a0)] [.ref w14.1.length, .int 4, .ref w.1.length] w16
  have F16 := F3_init e16.symm
  have l16 : w16.1.length = w.1.length + 21 := ln_sub F16.1 l15
  have s16 : pSl w16.1 = pSl w.1 + 730 := ln_sub F16.2.1 s15
  have z16_0 : w16.1[a0]? = some (0, 3) := by exact F16.2.2.1 _ _ z15_0
  have z16_1 : w16.1[w.1.length]? = some (16, 30) := by exact F16.2.2.1 _ _ z15_1
  have z16_2 : w16.1[w14.1.length]? = some (3, 6) := by exact F16.2.2.1 _ _ z15_n
  have o16_0 : w16.2.2.2 a0 0 = some w.1.length := by rw [F16.2.2.2 _ _ _ z15_0 (ne_z z15_0 z15_n (by decide))]; exact o15_0
  obtain ⟨w17, e17, h⟩ := blE h
  refine oi_aast (N := 4) dX0_init_33 z16_1 (Or.inl ⟨rfl, rfl⟩) z16_2 (by unfold vp_in; decide) (by decide) e17 ?_
  have l17 : w17.1.length = w.1.length + 21 := by rw [e17]; exact l16
  have s17 : pSl w17.1 = pSl w.1 + 730 := by rw [e17]; exact s16
  have z17_0 : w17.1[a0]? = some (0, 3) := by rw [e17]; exact z16_0
  have z17_1 : w17.1[w.1.length]? = some (16, 30) := by rw [e17]; exact z16_1
  have o17_0 : w17.2.2.2 a0 0 = some w.1.length := by rw [e17, o_R (Or.inl (ne_z z16_0 z16_1 (by decide)))]; exact o16_0
  refine ok_iinc (u := 5) (l' := [(1, .int 5), (0, .ref a0)]) dX0_init_34 0 rfl (by decide) (Nat.le_of_ble_eq_true rfl) rfl ?_
  refine ok_goto (t := 15) dX0_init_37 (by decide) ?_
  refine ok_iload_n dX0_init_15 0 rfl ?_
  refine ok_bipush (v := 30) dX0_init_16 (by decide) ?_
  refine ok_icmp_ge (t := 40) dX0_init_18 (by decide) (fun q => absurd q (by decide)) (fun _ => ?_)
  refine ok_aload_n dX0_init_21 1 rfl ?_
  refine oi_getR (ci := 0) (k := 0) dX0_init_22 flRX0_11 rfl z17_0 (by decide) o17_0 ?_
  refine ok_iload_n dX0_init_25 0 rfl ?_
  obtain ⟨w18, e18, h⟩ := blE h
  refine oi_new (ci := 3) (q := (RX3, TX3, 6)) dX0_init_26 rfl (tb_i (c := Cond.classLink RX0 9 RX3) 110 (by decide +kernel)) (b_len (mc := 121) l17 hL (by decide)) (b_c1 (mc := 121) l17 (by decide)) (b_s1 (N := 6) (ms := 4230) s17 (by decide)) e18 ?_
  have l18 : w18.1.length = w.1.length + 22 := ln_new e18 l17
  have s18 : pSl w18.1 = pSl w.1 + 736 := sn_new e18 s17
  have z18_0 : w18.1[a0]? = some (0, 3) := by rw [e18]; exact z_new z17_0
  have z18_1 : w18.1[w.1.length]? = some (16, 30) := by rw [e18]; exact z_new z17_1
  have z18_n : w18.1[w17.1.length]? = some (3, 6) := by rw [e18]; exact z_at _ _
  have o18_0 : w18.2.2.2 a0 0 = some w.1.length := by rw [e18, o_new z17_0]; exact o17_0
  refine ok_dup dX0_init_29 rfl ?_
  refine ok_callI (d := (d + 0 + 2)) (mt := m3_init) (mc := 3) (ms := 134) (a := w17.1.length) (As := []) (r := [.ref w17.1.length, .int 5, .ref w.1.length]) dX0_init_30 mo3_init mv3_init lkRX0_17 rfl rfl (Nat.le_of_ble_eq_true rfl) (dep_le d (by decide)) (b_cm (mc := 121) l18 (by decide)) (b_cm (mc := 4230) s18 (by decide)) ?_
  obtain ⟨w19, e19, h⟩ := blE h
  refine ki3_init (d + 0) z18_n (b_sub l18 hL (by decide)) e19.symm ?_
  show Ok g _ Qx 33 [(1, .int 5), (0, .ref a0)] [.ref w17.1.length, .int 5, .ref w.1.length] w19
  have F19 := F3_init e19.symm
  have l19 : w19.1.length = w.1.length + 25 := ln_sub F19.1 l18
  have s19 : pSl w19.1 = pSl w.1 + 870 := ln_sub F19.2.1 s18
  have z19_0 : w19.1[a0]? = some (0, 3) := by exact F19.2.2.1 _ _ z18_0
  have z19_1 : w19.1[w.1.length]? = some (16, 30) := by exact F19.2.2.1 _ _ z18_1
  have z19_2 : w19.1[w17.1.length]? = some (3, 6) := by exact F19.2.2.1 _ _ z18_n
  have o19_0 : w19.2.2.2 a0 0 = some w.1.length := by rw [F19.2.2.2 _ _ _ z18_0 (ne_z z18_0 z18_n (by decide))]; exact o18_0
  obtain ⟨w20, e20, h⟩ := blE h
  refine oi_aast (N := 5) dX0_init_33 z19_1 (Or.inl ⟨rfl, rfl⟩) z19_2 (by unfold vp_in; decide) (by decide) e20 ?_
  have l20 : w20.1.length = w.1.length + 25 := by rw [e20]; exact l19
  have s20 : pSl w20.1 = pSl w.1 + 870 := by rw [e20]; exact s19
  have z20_0 : w20.1[a0]? = some (0, 3) := by rw [e20]; exact z19_0
  have z20_1 : w20.1[w.1.length]? = some (16, 30) := by rw [e20]; exact z19_1
  have o20_0 : w20.2.2.2 a0 0 = some w.1.length := by rw [e20, o_R (Or.inl (ne_z z19_0 z19_1 (by decide)))]; exact o19_0
  refine ok_iinc (u := 6) (l' := [(1, .int 6), (0, .ref a0)]) dX0_init_34 0 rfl (by decide) (Nat.le_of_ble_eq_true rfl) rfl ?_
  refine ok_goto (t := 15) dX0_init_37 (by decide) ?_
  refine ok_iload_n dX0_init_15 0 rfl ?_
  refine ok_bipush (v := 30) dX0_init_16 (by decide) ?_
  refine ok_icmp_ge (t := 40) dX0_init_18 (by decide) (fun q => absurd q (by decide)) (fun _ => ?_)
  refine ok_aload_n dX0_init_21 1 rfl ?_
  refine oi_getR (ci := 0) (k := 0) dX0_init_22 flRX0_11 rfl z20_0 (by decide) o20_0 ?_
  refine ok_iload_n dX0_init_25 0 rfl ?_
  obtain ⟨w21, e21, h⟩ := blE h
  refine oi_new (ci := 3) (q := (RX3, TX3, 6)) dX0_init_26 rfl (tb_i (c := Cond.classLink RX0 9 RX3) 110 (by decide +kernel)) (b_len (mc := 121) l20 hL (by decide)) (b_c1 (mc := 121) l20 (by decide)) (b_s1 (N := 6) (ms := 4230) s20 (by decide)) e21 ?_
  have l21 : w21.1.length = w.1.length + 26 := ln_new e21 l20
  have s21 : pSl w21.1 = pSl w.1 + 876 := sn_new e21 s20
  have z21_0 : w21.1[a0]? = some (0, 3) := by rw [e21]; exact z_new z20_0
  have z21_1 : w21.1[w.1.length]? = some (16, 30) := by rw [e21]; exact z_new z20_1
  have z21_n : w21.1[w20.1.length]? = some (3, 6) := by rw [e21]; exact z_at _ _
  have o21_0 : w21.2.2.2 a0 0 = some w.1.length := by rw [e21, o_new z20_0]; exact o20_0
  refine ok_dup dX0_init_29 rfl ?_
  refine ok_callI (d := (d + 0 + 2)) (mt := m3_init) (mc := 3) (ms := 134) (a := w20.1.length) (As := []) (r := [.ref w20.1.length, .int 6, .ref w.1.length]) dX0_init_30 mo3_init mv3_init lkRX0_17 rfl rfl (Nat.le_of_ble_eq_true rfl) (dep_le d (by decide)) (b_cm (mc := 121) l21 (by decide)) (b_cm (mc := 4230) s21 (by decide)) ?_
  obtain ⟨w22, e22, h⟩ := blE h
  refine ki3_init (d + 0) z21_n (b_sub l21 hL (by decide)) e22.symm ?_
  show Ok g _ Qx 33 [(1, .int 6), (0, .ref a0)] [.ref w20.1.length, .int 6, .ref w.1.length] w22
  have F22 := F3_init e22.symm
  have l22 : w22.1.length = w.1.length + 29 := ln_sub F22.1 l21
  have s22 : pSl w22.1 = pSl w.1 + 1010 := ln_sub F22.2.1 s21
  have z22_0 : w22.1[a0]? = some (0, 3) := by exact F22.2.2.1 _ _ z21_0
  have z22_1 : w22.1[w.1.length]? = some (16, 30) := by exact F22.2.2.1 _ _ z21_1
  have z22_2 : w22.1[w20.1.length]? = some (3, 6) := by exact F22.2.2.1 _ _ z21_n
  have o22_0 : w22.2.2.2 a0 0 = some w.1.length := by rw [F22.2.2.2 _ _ _ z21_0 (ne_z z21_0 z21_n (by decide))]; exact o21_0
  obtain ⟨w23, e23, h⟩ := blE h
  refine oi_aast (N := 6) dX0_init_33 z22_1 (Or.inl ⟨rfl, rfl⟩) z22_2 (by unfold vp_in; decide) (by decide) e23 ?_
  have l23 : w23.1.length = w.1.length + 29 := by rw [e23]; exact l22
  have s23 : pSl w23.1 = pSl w.1 + 1010 := by rw [e23]; exact s22
  have z23_0 : w23.1[a0]? = some (0, 3) := by rw [e23]; exact z22_0
  have z23_1 : w23.1[w.1.length]? = some (16, 30) := by rw [e23]; exact z22_1
  have o23_0 : w23.2.2.2 a0 0 = some w.1.length := by rw [e23, o_R (Or.inl (ne_z z22_0 z22_1 (by decide)))]; exact o22_0
  refine ok_iinc (u := 7) (l' := [(1, .int 7), (0, .ref a0)]) dX0_init_34 0 rfl (by decide) (Nat.le_of_ble_eq_true rfl) rfl ?_
  refine ok_goto (t := 15) dX0_init_37 (by decide) ?_
  refine ok_iload_n dX0_init_15 0 rfl ?_
  refine ok_bipush (v := 30) dX0_init_16 (by decide) ?_
  refine ok_icmp_ge (t := 40) dX0_init_18 (by decide) (fun q => absurd q (by decide)) (fun _ => ?_)
  refine ok_aload_n dX0_init_21 1 rfl ?_
  refine oi_getR (ci := 0) (k := 0) dX0_init_22 flRX0_11 rfl z23_0 (by decide) o23_0 ?_
  refine ok_iload_n dX0_init_25 0 rfl ?_
  obtain ⟨w24, e24, h⟩ := blE h
  refine oi_new (ci := 3) (q := (RX3, TX3, 6)) dX0_init_26 rfl (tb_i (c := Cond.classLink RX0 9 RX3) 110 (by decide +kernel)) (b_len (mc := 121) l23 hL (by decide)) (b_c1 (mc := 121) l23 (by decide)) (b_s1 (N := 6) (ms := 4230) s23 (by decide)) e24 ?_
  have l24 : w24.1.length = w.1.length + 30 := ln_new e24 l23
  have s24 : pSl w24.1 = pSl w.1 + 1016 := sn_new e24 s23
  have z24_0 : w24.1[a0]? = some (0, 3) := by rw [e24]; exact z_new z23_0
  have z24_1 : w24.1[w.1.length]? = some (16, 30) := by rw [e24]; exact z_new z23_1
  have z24_n : w24.1[w23.1.length]? = some (3, 6) := by rw [e24]; exact z_at _ _
  have o24_0 : w24.2.2.2 a0 0 = some w.1.length := by rw [e24, o_new z23_0]; exact o23_0
  refine ok_dup dX0_init_29 rfl ?_
  refine ok_callI (d := (d + 0 + 2)) (mt := m3_init) (mc := 3) (ms := 134) (a := w23.1.length) (As := []) (r := [.ref w23.1.length, .int 7, .ref w.1.length]) dX0_init_30 mo3_init mv3_init lkRX0_17 rfl rfl (Nat.le_of_ble_eq_true rfl) (dep_le d (by decide)) (b_cm (mc := 121) l24 (by decide)) (b_cm (mc := 4230) s24 (by decide)) ?_
  obtain ⟨w25, e25, h⟩ := blE h
  refine ki3_init (d + 0) z24_n (b_sub l24 hL (by decide)) e25.symm ?_
  show Ok g _ Qx 33 [(1, .int 7), (0, .ref a0)] [.ref w23.1.length, .int 7, .ref w.1.length] w25
  have F25 := F3_init e25.symm
  have l25 : w25.1.length = w.1.length + 33 := ln_sub F25.1 l24
  have s25 : pSl w25.1 = pSl w.1 + 1150 := ln_sub F25.2.1 s24
  have z25_0 : w25.1[a0]? = some (0, 3) := by exact F25.2.2.1 _ _ z24_0
  have z25_1 : w25.1[w.1.length]? = some (16, 30) := by exact F25.2.2.1 _ _ z24_1
  have z25_2 : w25.1[w23.1.length]? = some (3, 6) := by exact F25.2.2.1 _ _ z24_n
  have o25_0 : w25.2.2.2 a0 0 = some w.1.length := by rw [F25.2.2.2 _ _ _ z24_0 (ne_z z24_0 z24_n (by decide))]; exact o24_0
  obtain ⟨w26, e26, h⟩ := blE h
  refine oi_aast (N := 7) dX0_init_33 z25_1 (Or.inl ⟨rfl, rfl⟩) z25_2 (by unfold vp_in; decide) (by decide) e26 ?_
  have l26 : w26.1.length = w.1.length + 33 := by rw [e26]; exact l25
  have s26 : pSl w26.1 = pSl w.1 + 1150 := by rw [e26]; exact s25
  have z26_0 : w26.1[a0]? = some (0, 3) := by rw [e26]; exact z25_0
  have z26_1 : w26.1[w.1.length]? = some (16, 30) := by rw [e26]; exact z25_1
  have o26_0 : w26.2.2.2 a0 0 = some w.1.length := by rw [e26, o_R (Or.inl (ne_z z25_0 z25_1 (by decide)))]; exact o25_0
  refine ok_iinc (u := 8) (l' := [(1, .int 8), (0, .ref a0)]) dX0_init_34 0 rfl (by decide) (Nat.le_of_ble_eq_true rfl) rfl ?_
  refine ok_goto (t := 15) dX0_init_37 (by decide) ?_
  refine ok_iload_n dX0_init_15 0 rfl ?_
  refine ok_bipush (v := 30) dX0_init_16 (by decide) ?_
  refine ok_icmp_ge (t := 40) dX0_init_18 (by decide) (fun q => absurd q (by decide)) (fun _ => ?_)
  refine ok_aload_n dX0_init_21 1 rfl ?_
  refine oi_getR (ci := 0) (k := 0) dX0_init_22 flRX0_11 rfl z26_0 (by decide) o26_0 ?_
  refine ok_iload_n dX0_init_25 0 rfl ?_
  obtain ⟨w27, e27, h⟩ := blE h
  refine oi_new (ci := 3) (q := (RX3, TX3, 6)) dX0_init_26 rfl (tb_i (c := Cond.classLink RX0 9 RX3) 110 (by decide +kernel)) (b_len (mc := 121) l26 hL (by decide)) (b_c1 (mc := 121) l26 (by decide)) (b_s1 (N := 6) (ms := 4230) s26 (by decide)) e27 ?_
  have l27 : w27.1.length = w.1.length + 34 := ln_new e27 l26
  have s27 : pSl w27.1 = pSl w.1 + 1156 := sn_new e27 s26
  have z27_0 : w27.1[a0]? = some (0, 3) := by rw [e27]; exact z_new z26_0
  have z27_1 : w27.1[w.1.length]? = some (16, 30) := by rw [e27]; exact z_new z26_1
  have z27_n : w27.1[w26.1.length]? = some (3, 6) := by rw [e27]; exact z_at _ _
  have o27_0 : w27.2.2.2 a0 0 = some w.1.length := by rw [e27, o_new z26_0]; exact o26_0
  refine ok_dup dX0_init_29 rfl ?_
  refine ok_callI (d := (d + 0 + 2)) (mt := m3_init) (mc := 3) (ms := 134) (a := w26.1.length) (As := []) (r := [.ref w26.1.length, .int 8, .ref w.1.length]) dX0_init_30 mo3_init mv3_init lkRX0_17 rfl rfl (Nat.le_of_ble_eq_true rfl) (dep_le d (by decide)) (b_cm (mc := 121) l27 (by decide)) (b_cm (mc := 4230) s27 (by decide)) ?_
  obtain ⟨w28, e28, h⟩ := blE h
  refine ki3_init (d + 0) z27_n (b_sub l27 hL (by decide)) e28.symm ?_
  show Ok g _ Qx 33 [(1, .int 8), (0, .ref a0)] [.ref w26.1.length, .int 8, .ref w.1.length] w28
  have F28 := F3_init e28.symm
  have l28 : w28.1.length = w.1.length + 37 := ln_sub F28.1 l27
  have s28 : pSl w28.1 = pSl w.1 + 1290 := ln_sub F28.2.1 s27
  have z28_0 : w28.1[a0]? = some (0, 3) := by exact F28.2.2.1 _ _ z27_0
  have z28_1 : w28.1[w.1.length]? = some (16, 30) := by exact F28.2.2.1 _ _ z27_1
  have z28_2 : w28.1[w26.1.length]? = some (3, 6) := by exact F28.2.2.1 _ _ z27_n
  have o28_0 : w28.2.2.2 a0 0 = some w.1.length := by rw [F28.2.2.2 _ _ _ z27_0 (ne_z z27_0 z27_n (by decide))]; exact o27_0
  obtain ⟨w29, e29, h⟩ := blE h
  refine oi_aast (N := 8) dX0_init_33 z28_1 (Or.inl ⟨rfl, rfl⟩) z28_2 (by unfold vp_in; decide) (by decide) e29 ?_
  have l29 : w29.1.length = w.1.length + 37 := by rw [e29]; exact l28
  have s29 : pSl w29.1 = pSl w.1 + 1290 := by rw [e29]; exact s28
  have z29_0 : w29.1[a0]? = some (0, 3) := by rw [e29]; exact z28_0
  have z29_1 : w29.1[w.1.length]? = some (16, 30) := by rw [e29]; exact z28_1
  have o29_0 : w29.2.2.2 a0 0 = some w.1.length := by rw [e29, o_R (Or.inl (ne_z z28_0 z28_1 (by decide)))]; exact o28_0
  refine ok_iinc (u := 9) (l' := [(1, .int 9), (0, .ref a0)]) dX0_init_34 0 rfl (by decide) (Nat.le_of_ble_eq_true rfl) rfl ?_
  refine ok_goto (t := 15) dX0_init_37 (by decide) ?_
  refine ok_iload_n dX0_init_15 0 rfl ?_
  refine ok_bipush (v := 30) dX0_init_16 (by decide) ?_
  refine ok_icmp_ge (t := 40) dX0_init_18 (by decide) (fun q => absurd q (by decide)) (fun _ => ?_)
  refine ok_aload_n dX0_init_21 1 rfl ?_
  refine oi_getR (ci := 0) (k := 0) dX0_init_22 flRX0_11 rfl z29_0 (by decide) o29_0 ?_
  refine ok_iload_n dX0_init_25 0 rfl ?_
  obtain ⟨w30, e30, h⟩ := blE h
  refine oi_new (ci := 3) (q := (RX3, TX3, 6)) dX0_init_26 rfl (tb_i (c := Cond.classLink RX0 9 RX3) 110 (by decide +kernel)) (b_len (mc := 121) l29 hL (by decide)) (b_c1 (mc := 121) l29 (by decide)) (b_s1 (N := 6) (ms := 4230) s29 (by decide)) e30 ?_
  have l30 : w30.1.length = w.1.length + 38 := ln_new e30 l29
  have s30 : pSl w30.1 = pSl w.1 + 1296 := sn_new e30 s29
  have z30_0 : w30.1[a0]? = some (0, 3) := by rw [e30]; exact z_new z29_0
  have z30_1 : w30.1[w.1.length]? = some (16, 30) := by rw [e30]; exact z_new z29_1
  have z30_n : w30.1[w29.1.length]? = some (3, 6) := by rw [e30]; exact z_at _ _
  have o30_0 : w30.2.2.2 a0 0 = some w.1.length := by rw [e30, o_new z29_0]; exact o29_0
  refine ok_dup dX0_init_29 rfl ?_
  refine ok_callI (d := (d + 0 + 2)) (mt := m3_init) (mc := 3) (ms := 134) (a := w29.1.length) (As := []) (r := [.ref w29.1.length, .int 9, .ref w.1.length]) dX0_init_30 mo3_init mv3_init lkRX0_17 rfl rfl (Nat.le_of_ble_eq_true rfl) (dep_le d (by decide)) (b_cm (mc := 121) l30 (by decide)) (b_cm (mc := 4230) s30 (by decide)) ?_
  obtain ⟨w31, e31, h⟩ := blE h
  refine ki3_init (d + 0) z30_n (b_sub l30 hL (by decide)) e31.symm ?_
  show Ok g _ Qx 33 [(1, .int 9), (0, .ref a0)] [.ref w29.1.length, .int 9, .ref w.1.length] w31
  have F31 := F3_init e31.symm
  have l31 : w31.1.length = w.1.length + 41 := ln_sub F31.1 l30
  have s31 : pSl w31.1 = pSl w.1 + 1430 := ln_sub F31.2.1 s30
  have z31_0 : w31.1[a0]? = some (0, 3) := by exact F31.2.2.1 _ _ z30_0
  have z31_1 : w31.1[w.1.length]? = some (16, 30) := by exact F31.2.2.1 _ _ z30_1
  have z31_2 : w31.1[w29.1.length]? = some (3, 6) := by exact F31.2.2.1 _ _ z30_n
  have o31_0 : w31.2.2.2 a0 0 = some w.1.length := by rw [F31.2.2.2 _ _ _ z30_0 (ne_z z30_0 z30_n (by decide))]; exact o30_0
  obtain ⟨w32, e32, h⟩ := blE h
  refine oi_aast (N := 9) dX0_init_33 z31_1 (Or.inl ⟨rfl, rfl⟩) z31_2 (by unfold vp_in; decide) (by decide) e32 ?_
  have l32 : w32.1.length = w.1.length + 41 := by rw [e32]; exact l31
  have s32 : pSl w32.1 = pSl w.1 + 1430 := by rw [e32]; exact s31
  have z32_0 : w32.1[a0]? = some (0, 3) := by rw [e32]; exact z31_0
  have z32_1 : w32.1[w.1.length]? = some (16, 30) := by rw [e32]; exact z31_1
  have o32_0 : w32.2.2.2 a0 0 = some w.1.length := by rw [e32, o_R (Or.inl (ne_z z31_0 z31_1 (by decide)))]; exact o31_0
  refine ok_iinc (u := 10) (l' := [(1, .int 10), (0, .ref a0)]) dX0_init_34 0 rfl (by decide) (Nat.le_of_ble_eq_true rfl) rfl ?_
  refine ok_goto (t := 15) dX0_init_37 (by decide) ?_
  refine ok_iload_n dX0_init_15 0 rfl ?_
  refine ok_bipush (v := 30) dX0_init_16 (by decide) ?_
  refine ok_icmp_ge (t := 40) dX0_init_18 (by decide) (fun q => absurd q (by decide)) (fun _ => ?_)
  refine ok_aload_n dX0_init_21 1 rfl ?_
  refine oi_getR (ci := 0) (k := 0) dX0_init_22 flRX0_11 rfl z32_0 (by decide) o32_0 ?_
  refine ok_iload_n dX0_init_25 0 rfl ?_
  obtain ⟨w33, e33, h⟩ := blE h
  refine oi_new (ci := 3) (q := (RX3, TX3, 6)) dX0_init_26 rfl (tb_i (c := Cond.classLink RX0 9 RX3) 110 (by decide +kernel)) (b_len (mc := 121) l32 hL (by decide)) (b_c1 (mc := 121) l32 (by decide)) (b_s1 (N := 6) (ms := 4230) s32 (by decide)) e33 ?_
  have l33 : w33.1.length = w.1.length + 42 := ln_new e33 l32
  have s33 : pSl w33.1 = pSl w.1 + 1436 := sn_new e33 s32
  have z33_0 : w33.1[a0]? = some (0, 3) := by rw [e33]; exact z_new z32_0
  have z33_1 : w33.1[w.1.length]? = some (16, 30) := by rw [e33]; exact z_new z32_1
  have z33_n : w33.1[w32.1.length]? = some (3, 6) := by rw [e33]; exact z_at _ _
  have o33_0 : w33.2.2.2 a0 0 = some w.1.length := by rw [e33, o_new z32_0]; exact o32_0
  refine ok_dup dX0_init_29 rfl ?_
  refine ok_callI (d := (d + 0 + 2)) (mt := m3_init) (mc := 3) (ms := 134) (a := w32.1.length) (As := []) (r := [.ref w32.1.length, .int 10, .ref w.1.length]) dX0_init_30 mo3_init mv3_init lkRX0_17 rfl rfl (Nat.le_of_ble_eq_true rfl) (dep_le d (by decide)) (b_cm (mc := 121) l33 (by decide)) (b_cm (mc := 4230) s33 (by decide)) ?_
  obtain ⟨w34, e34, h⟩ := blE h
  refine ki3_init (d + 0) z33_n (b_sub l33 hL (by decide)) e34.symm ?_
  show Ok g _ Qx 33 [(1, .int 10), (0, .ref a0)] [.ref w32.1.length, .int 10, .ref w.1.length] w34
  have F34 := F3_init e34.symm
  have l34 : w34.1.length = w.1.length + 45 := ln_sub F34.1 l33
  have s34 : pSl w34.1 = pSl w.1 + 1570 := ln_sub F34.2.1 s33
  have z34_0 : w34.1[a0]? = some (0, 3) := by exact F34.2.2.1 _ _ z33_0
  have z34_1 : w34.1[w.1.length]? = some (16, 30) := by exact F34.2.2.1 _ _ z33_1
  have z34_2 : w34.1[w32.1.length]? = some (3, 6) := by exact F34.2.2.1 _ _ z33_n
  have o34_0 : w34.2.2.2 a0 0 = some w.1.length := by rw [F34.2.2.2 _ _ _ z33_0 (ne_z z33_0 z33_n (by decide))]; exact o33_0
  obtain ⟨w35, e35, h⟩ := blE h
  refine oi_aast (N := 10) dX0_init_33 z34_1 (Or.inl ⟨rfl, rfl⟩) z34_2 (by unfold vp_in; decide) (by decide) e35 ?_
  have l35 : w35.1.length = w.1.length + 45 := by rw [e35]; exact l34
  have s35 : pSl w35.1 = pSl w.1 + 1570 := by rw [e35]; exact s34
  have z35_0 : w35.1[a0]? = some (0, 3) := by rw [e35]; exact z34_0
  have z35_1 : w35.1[w.1.length]? = some (16, 30) := by rw [e35]; exact z34_1
  have o35_0 : w35.2.2.2 a0 0 = some w.1.length := by rw [e35, o_R (Or.inl (ne_z z34_0 z34_1 (by decide)))]; exact o34_0
  refine ok_iinc (u := 11) (l' := [(1, .int 11), (0, .ref a0)]) dX0_init_34 0 rfl (by decide) (Nat.le_of_ble_eq_true rfl) rfl ?_
  refine ok_goto (t := 15) dX0_init_37 (by decide) ?_
  refine ok_iload_n dX0_init_15 0 rfl ?_
  refine ok_bipush (v := 30) dX0_init_16 (by decide) ?_
  refine ok_icmp_ge (t := 40) dX0_init_18 (by decide) (fun q => absurd q (by decide)) (fun _ => ?_)
  refine ok_aload_n dX0_init_21 1 rfl ?_
  refine oi_getR (ci := 0) (k := 0) dX0_init_22 flRX0_11 rfl z35_0 (by decide) o35_0 ?_
  refine ok_iload_n dX0_init_25 0 rfl ?_
  obtain ⟨w36, e36, h⟩ := blE h
  refine oi_new (ci := 3) (q := (RX3, TX3, 6)) dX0_init_26 rfl (tb_i (c := Cond.classLink RX0 9 RX3) 110 (by decide +kernel)) (b_len (mc := 121) l35 hL (by decide)) (b_c1 (mc := 121) l35 (by decide)) (b_s1 (N := 6) (ms := 4230) s35 (by decide)) e36 ?_
  have l36 : w36.1.length = w.1.length + 46 := ln_new e36 l35
  have s36 : pSl w36.1 = pSl w.1 + 1576 := sn_new e36 s35
  have z36_0 : w36.1[a0]? = some (0, 3) := by rw [e36]; exact z_new z35_0
  have z36_1 : w36.1[w.1.length]? = some (16, 30) := by rw [e36]; exact z_new z35_1
  have z36_n : w36.1[w35.1.length]? = some (3, 6) := by rw [e36]; exact z_at _ _
  have o36_0 : w36.2.2.2 a0 0 = some w.1.length := by rw [e36, o_new z35_0]; exact o35_0
  refine ok_dup dX0_init_29 rfl ?_
  refine ok_callI (d := (d + 0 + 2)) (mt := m3_init) (mc := 3) (ms := 134) (a := w35.1.length) (As := []) (r := [.ref w35.1.length, .int 11, .ref w.1.length]) dX0_init_30 mo3_init mv3_init lkRX0_17 rfl rfl (Nat.le_of_ble_eq_true rfl) (dep_le d (by decide)) (b_cm (mc := 121) l36 (by decide)) (b_cm (mc := 4230) s36 (by decide)) ?_
  obtain ⟨w37, e37, h⟩ := blE h
  refine ki3_init (d + 0) z36_n (b_sub l36 hL (by decide)) e37.symm ?_
  show Ok g _ Qx 33 [(1, .int 11), (0, .ref a0)] [.ref w35.1.length, .int 11, .ref w.1.length] w37
  have F37 := F3_init e37.symm
  have l37 : w37.1.length = w.1.length + 49 := ln_sub F37.1 l36
  have s37 : pSl w37.1 = pSl w.1 + 1710 := ln_sub F37.2.1 s36
  have z37_0 : w37.1[a0]? = some (0, 3) := by exact F37.2.2.1 _ _ z36_0
  have z37_1 : w37.1[w.1.length]? = some (16, 30) := by exact F37.2.2.1 _ _ z36_1
  have z37_2 : w37.1[w35.1.length]? = some (3, 6) := by exact F37.2.2.1 _ _ z36_n
  have o37_0 : w37.2.2.2 a0 0 = some w.1.length := by rw [F37.2.2.2 _ _ _ z36_0 (ne_z z36_0 z36_n (by decide))]; exact o36_0
  obtain ⟨w38, e38, h⟩ := blE h
  refine oi_aast (N := 11) dX0_init_33 z37_1 (Or.inl ⟨rfl, rfl⟩) z37_2 (by unfold vp_in; decide) (by decide) e38 ?_
  have l38 : w38.1.length = w.1.length + 49 := by rw [e38]; exact l37
  have s38 : pSl w38.1 = pSl w.1 + 1710 := by rw [e38]; exact s37
  have z38_0 : w38.1[a0]? = some (0, 3) := by rw [e38]; exact z37_0
  have z38_1 : w38.1[w.1.length]? = some (16, 30) := by rw [e38]; exact z37_1
  have o38_0 : w38.2.2.2 a0 0 = some w.1.length := by rw [e38, o_R (Or.inl (ne_z z37_0 z37_1 (by decide)))]; exact o37_0
  refine ok_iinc (u := 12) (l' := [(1, .int 12), (0, .ref a0)]) dX0_init_34 0 rfl (by decide) (Nat.le_of_ble_eq_true rfl) rfl ?_
  refine ok_goto (t := 15) dX0_init_37 (by decide) ?_
  refine ok_iload_n dX0_init_15 0 rfl ?_
  refine ok_bipush (v := 30) dX0_init_16 (by decide) ?_
  refine ok_icmp_ge (t := 40) dX0_init_18 (by decide) (fun q => absurd q (by decide)) (fun _ => ?_)
  refine ok_aload_n dX0_init_21 1 rfl ?_
  refine oi_getR (ci := 0) (k := 0) dX0_init_22 flRX0_11 rfl z38_0 (by decide) o38_0 ?_
  refine ok_iload_n dX0_init_25 0 rfl ?_
  obtain ⟨w39, e39, h⟩ := blE h
  refine oi_new (ci := 3) (q := (RX3, TX3, 6)) dX0_init_26 rfl (tb_i (c := Cond.classLink RX0 9 RX3) 110 (by decide +kernel)) (b_len (mc := 121) l38 hL (by decide)) (b_c1 (mc := 121) l38 (by decide)) (b_s1 (N := 6) (ms := 4230) s38 (by decide)) e39 ?_
  have l39 : w39.1.length = w.1.length + 50 := ln_new e39 l38
  have s39 : pSl w39.1 = pSl w.1 + 1716 := sn_new e39 s38
  have z39_0 : w39.1[a0]? = some (0, 3) := by rw [e39]; exact z_new z38_0
  have z39_1 : w39.1[w.1.length]? = some (16, 30) := by rw [e39]; exact z_new z38_1
  have z39_n : w39.1[w38.1.length]? = some (3, 6) := by rw [e39]; exact z_at _ _
  have o39_0 : w39.2.2.2 a0 0 = some w.1.length := by rw [e39, o_new z38_0]; exact o38_0
  refine ok_dup dX0_init_29 rfl ?_
  refine ok_callI (d := (d + 0 + 2)) (mt := m3_init) (mc := 3) (ms := 134) (a := w38.1.length) (As := []) (r := [.ref w38.1.length, .int 12, .ref w.1.length]) dX0_init_30 mo3_init mv3_init lkRX0_17 rfl rfl (Nat.le_of_ble_eq_true rfl) (dep_le d (by decide)) (b_cm (mc := 121) l39 (by decide)) (b_cm (mc := 4230) s39 (by decide)) ?_
  obtain ⟨w40, e40, h⟩ := blE h
  refine ki3_init (d + 0) z39_n (b_sub l39 hL (by decide)) e40.symm ?_
  show Ok g _ Qx 33 [(1, .int 12), (0, .ref a0)] [.ref w38.1.length, .int 12, .ref w.1.length] w40
  have F40 := F3_init e40.symm
  have l40 : w40.1.length = w.1.length + 53 := ln_sub F40.1 l39
  have s40 : pSl w40.1 = pSl w.1 + 1850 := ln_sub F40.2.1 s39
  have z40_0 : w40.1[a0]? = some (0, 3) := by exact F40.2.2.1 _ _ z39_0
  have z40_1 : w40.1[w.1.length]? = some (16, 30) := by exact F40.2.2.1 _ _ z39_1
  have z40_2 : w40.1[w38.1.length]? = some (3, 6) := by exact F40.2.2.1 _ _ z39_n
  have o40_0 : w40.2.2.2 a0 0 = some w.1.length := by rw [F40.2.2.2 _ _ _ z39_0 (ne_z z39_0 z39_n (by decide))]; exact o39_0
  obtain ⟨w41, e41, h⟩ := blE h
  refine oi_aast (N := 12) dX0_init_33 z40_1 (Or.inl ⟨rfl, rfl⟩) z40_2 (by unfold vp_in; decide) (by decide) e41 ?_
  have l41 : w41.1.length = w.1.length + 53 := by rw [e41]; exact l40
  have s41 : pSl w41.1 = pSl w.1 + 1850 := by rw [e41]; exact s40
  have z41_0 : w41.1[a0]? = some (0, 3) := by rw [e41]; exact z40_0
  have z41_1 : w41.1[w.1.length]? = some (16, 30) := by rw [e41]; exact z40_1
  have o41_0 : w41.2.2.2 a0 0 = some w.1.length := by rw [e41, o_R (Or.inl (ne_z z40_0 z40_1 (by decide)))]; exact o40_0
  refine ok_iinc (u := 13) (l' := [(1, .int 13), (0, .ref a0)]) dX0_init_34 0 rfl (by decide) (Nat.le_of_ble_eq_true rfl) rfl ?_
  refine ok_goto (t := 15) dX0_init_37 (by decide) ?_
  refine ok_iload_n dX0_init_15 0 rfl ?_
  refine ok_bipush (v := 30) dX0_init_16 (by decide) ?_
  refine ok_icmp_ge (t := 40) dX0_init_18 (by decide) (fun q => absurd q (by decide)) (fun _ => ?_)
  refine ok_aload_n dX0_init_21 1 rfl ?_
  refine oi_getR (ci := 0) (k := 0) dX0_init_22 flRX0_11 rfl z41_0 (by decide) o41_0 ?_
  refine ok_iload_n dX0_init_25 0 rfl ?_
  obtain ⟨w42, e42, h⟩ := blE h
  refine oi_new (ci := 3) (q := (RX3, TX3, 6)) dX0_init_26 rfl (tb_i (c := Cond.classLink RX0 9 RX3) 110 (by decide +kernel)) (b_len (mc := 121) l41 hL (by decide)) (b_c1 (mc := 121) l41 (by decide)) (b_s1 (N := 6) (ms := 4230) s41 (by decide)) e42 ?_
  have l42 : w42.1.length = w.1.length + 54 := ln_new e42 l41
  have s42 : pSl w42.1 = pSl w.1 + 1856 := sn_new e42 s41
  have z42_0 : w42.1[a0]? = some (0, 3) := by rw [e42]; exact z_new z41_0
  have z42_1 : w42.1[w.1.length]? = some (16, 30) := by rw [e42]; exact z_new z41_1
  have z42_n : w42.1[w41.1.length]? = some (3, 6) := by rw [e42]; exact z_at _ _
  have o42_0 : w42.2.2.2 a0 0 = some w.1.length := by rw [e42, o_new z41_0]; exact o41_0
  refine ok_dup dX0_init_29 rfl ?_
  refine ok_callI (d := (d + 0 + 2)) (mt := m3_init) (mc := 3) (ms := 134) (a := w41.1.length) (As := []) (r := [.ref w41.1.length, .int 13, .ref w.1.length]) dX0_init_30 mo3_init mv3_init lkRX0_17 rfl rfl (Nat.le_of_ble_eq_true rfl) (dep_le d (by decide)) (b_cm (mc := 121) l42 (by decide)) (b_cm (mc := 4230) s42 (by decide)) ?_
  obtain ⟨w43, e43, h⟩ := blE h
  refine ki3_init (d + 0) z42_n (b_sub l42 hL (by decide)) e43.symm ?_
  show Ok g _ Qx 33 [(1, .int 13), (0, .ref a0)] [.ref w41.1.length, .int 13, .ref w.1.length] w43
  have F43 := F3_init e43.symm
  have l43 : w43.1.length = w.1.length + 57 := ln_sub F43.1 l42
  have s43 : pSl w43.1 = pSl w.1 + 1990 := ln_sub F43.2.1 s42
  have z43_0 : w43.1[a0]? = some (0, 3) := by exact F43.2.2.1 _ _ z42_0
  have z43_1 : w43.1[w.1.length]? = some (16, 30) := by exact F43.2.2.1 _ _ z42_1
  have z43_2 : w43.1[w41.1.length]? = some (3, 6) := by exact F43.2.2.1 _ _ z42_n
  have o43_0 : w43.2.2.2 a0 0 = some w.1.length := by rw [F43.2.2.2 _ _ _ z42_0 (ne_z z42_0 z42_n (by decide))]; exact o42_0
  obtain ⟨w44, e44, h⟩ := blE h
  refine oi_aast (N := 13) dX0_init_33 z43_1 (Or.inl ⟨rfl, rfl⟩) z43_2 (by unfold vp_in; decide) (by decide) e44 ?_
  have l44 : w44.1.length = w.1.length + 57 := by rw [e44]; exact l43
  have s44 : pSl w44.1 = pSl w.1 + 1990 := by rw [e44]; exact s43
  have z44_0 : w44.1[a0]? = some (0, 3) := by rw [e44]; exact z43_0
  have z44_1 : w44.1[w.1.length]? = some (16, 30) := by rw [e44]; exact z43_1
  have o44_0 : w44.2.2.2 a0 0 = some w.1.length := by rw [e44, o_R (Or.inl (ne_z z43_0 z43_1 (by decide)))]; exact o43_0
  refine ok_iinc (u := 14) (l' := [(1, .int 14), (0, .ref a0)]) dX0_init_34 0 rfl (by decide) (Nat.le_of_ble_eq_true rfl) rfl ?_
  refine ok_goto (t := 15) dX0_init_37 (by decide) ?_
  refine ok_iload_n dX0_init_15 0 rfl ?_
  refine ok_bipush (v := 30) dX0_init_16 (by decide) ?_
  refine ok_icmp_ge (t := 40) dX0_init_18 (by decide) (fun q => absurd q (by decide)) (fun _ => ?_)
  refine ok_aload_n dX0_init_21 1 rfl ?_
  refine oi_getR (ci := 0) (k := 0) dX0_init_22 flRX0_11 rfl z44_0 (by decide) o44_0 ?_
  refine ok_iload_n dX0_init_25 0 rfl ?_
  obtain ⟨w45, e45, h⟩ := blE h
  refine oi_new (ci := 3) (q := (RX3, TX3, 6)) dX0_init_26 rfl (tb_i (c := Cond.classLink RX0 9 RX3) 110 (by decide +kernel)) (b_len (mc := 121) l44 hL (by decide)) (b_c1 (mc := 121) l44 (by decide)) (b_s1 (N := 6) (ms := 4230) s44 (by decide)) e45 ?_
  have l45 : w45.1.length = w.1.length + 58 := ln_new e45 l44
  have s45 : pSl w45.1 = pSl w.1 + 1996 := sn_new e45 s44
  have z45_0 : w45.1[a0]? = some (0, 3) := by rw [e45]; exact z_new z44_0
  have z45_1 : w45.1[w.1.length]? = some (16, 30) := by rw [e45]; exact z_new z44_1
  have z45_n : w45.1[w44.1.length]? = some (3, 6) := by rw [e45]; exact z_at _ _
  have o45_0 : w45.2.2.2 a0 0 = some w.1.length := by rw [e45, o_new z44_0]; exact o44_0
  refine ok_dup dX0_init_29 rfl ?_
  refine ok_callI (d := (d + 0 + 2)) (mt := m3_init) (mc := 3) (ms := 134) (a := w44.1.length) (As := []) (r := [.ref w44.1.length, .int 14, .ref w.1.length]) dX0_init_30 mo3_init mv3_init lkRX0_17 rfl rfl (Nat.le_of_ble_eq_true rfl) (dep_le d (by decide)) (b_cm (mc := 121) l45 (by decide)) (b_cm (mc := 4230) s45 (by decide)) ?_
  obtain ⟨w46, e46, h⟩ := blE h
  refine ki3_init (d + 0) z45_n (b_sub l45 hL (by decide)) e46.symm ?_
  show Ok g _ Qx 33 [(1, .int 14), (0, .ref a0)] [.ref w44.1.length, .int 14, .ref w.1.length] w46
  have F46 := F3_init e46.symm
  have l46 : w46.1.length = w.1.length + 61 := ln_sub F46.1 l45
  have s46 : pSl w46.1 = pSl w.1 + 2130 := ln_sub F46.2.1 s45
  have z46_0 : w46.1[a0]? = some (0, 3) := by exact F46.2.2.1 _ _ z45_0
  have z46_1 : w46.1[w.1.length]? = some (16, 30) := by exact F46.2.2.1 _ _ z45_1
  have z46_2 : w46.1[w44.1.length]? = some (3, 6) := by exact F46.2.2.1 _ _ z45_n
  have o46_0 : w46.2.2.2 a0 0 = some w.1.length := by rw [F46.2.2.2 _ _ _ z45_0 (ne_z z45_0 z45_n (by decide))]; exact o45_0
  obtain ⟨w47, e47, h⟩ := blE h
  refine oi_aast (N := 14) dX0_init_33 z46_1 (Or.inl ⟨rfl, rfl⟩) z46_2 (by unfold vp_in; decide) (by decide) e47 ?_
  have l47 : w47.1.length = w.1.length + 61 := by rw [e47]; exact l46
  have s47 : pSl w47.1 = pSl w.1 + 2130 := by rw [e47]; exact s46
  have z47_0 : w47.1[a0]? = some (0, 3) := by rw [e47]; exact z46_0
  have z47_1 : w47.1[w.1.length]? = some (16, 30) := by rw [e47]; exact z46_1
  have o47_0 : w47.2.2.2 a0 0 = some w.1.length := by rw [e47, o_R (Or.inl (ne_z z46_0 z46_1 (by decide)))]; exact o46_0
  refine ok_iinc (u := 15) (l' := [(1, .int 15), (0, .ref a0)]) dX0_init_34 0 rfl (by decide) (Nat.le_of_ble_eq_true rfl) rfl ?_
  refine ok_goto (t := 15) dX0_init_37 (by decide) ?_
  refine ok_iload_n dX0_init_15 0 rfl ?_
  refine ok_bipush (v := 30) dX0_init_16 (by decide) ?_
  refine ok_icmp_ge (t := 40) dX0_init_18 (by decide) (fun q => absurd q (by decide)) (fun _ => ?_)
  refine ok_aload_n dX0_init_21 1 rfl ?_
  refine oi_getR (ci := 0) (k := 0) dX0_init_22 flRX0_11 rfl z47_0 (by decide) o47_0 ?_
  refine ok_iload_n dX0_init_25 0 rfl ?_
  obtain ⟨w48, e48, h⟩ := blE h
  refine oi_new (ci := 3) (q := (RX3, TX3, 6)) dX0_init_26 rfl (tb_i (c := Cond.classLink RX0 9 RX3) 110 (by decide +kernel)) (b_len (mc := 121) l47 hL (by decide)) (b_c1 (mc := 121) l47 (by decide)) (b_s1 (N := 6) (ms := 4230) s47 (by decide)) e48 ?_
  have l48 : w48.1.length = w.1.length + 62 := ln_new e48 l47
  have s48 : pSl w48.1 = pSl w.1 + 2136 := sn_new e48 s47
  have z48_0 : w48.1[a0]? = some (0, 3) := by rw [e48]; exact z_new z47_0
  have z48_1 : w48.1[w.1.length]? = some (16, 30) := by rw [e48]; exact z_new z47_1
  have z48_n : w48.1[w47.1.length]? = some (3, 6) := by rw [e48]; exact z_at _ _
  have o48_0 : w48.2.2.2 a0 0 = some w.1.length := by rw [e48, o_new z47_0]; exact o47_0
  refine ok_dup dX0_init_29 rfl ?_
  refine ok_callI (d := (d + 0 + 2)) (mt := m3_init) (mc := 3) (ms := 134) (a := w47.1.length) (As := []) (r := [.ref w47.1.length, .int 15, .ref w.1.length]) dX0_init_30 mo3_init mv3_init lkRX0_17 rfl rfl (Nat.le_of_ble_eq_true rfl) (dep_le d (by decide)) (b_cm (mc := 121) l48 (by decide)) (b_cm (mc := 4230) s48 (by decide)) ?_
  obtain ⟨w49, e49, h⟩ := blE h
  refine ki3_init (d + 0) z48_n (b_sub l48 hL (by decide)) e49.symm ?_
  show Ok g _ Qx 33 [(1, .int 15), (0, .ref a0)] [.ref w47.1.length, .int 15, .ref w.1.length] w49
  have F49 := F3_init e49.symm
  have l49 : w49.1.length = w.1.length + 65 := ln_sub F49.1 l48
  have s49 : pSl w49.1 = pSl w.1 + 2270 := ln_sub F49.2.1 s48
  have z49_0 : w49.1[a0]? = some (0, 3) := by exact F49.2.2.1 _ _ z48_0
  have z49_1 : w49.1[w.1.length]? = some (16, 30) := by exact F49.2.2.1 _ _ z48_1
  have z49_2 : w49.1[w47.1.length]? = some (3, 6) := by exact F49.2.2.1 _ _ z48_n
  have o49_0 : w49.2.2.2 a0 0 = some w.1.length := by rw [F49.2.2.2 _ _ _ z48_0 (ne_z z48_0 z48_n (by decide))]; exact o48_0
  obtain ⟨w50, e50, h⟩ := blE h
  refine oi_aast (N := 15) dX0_init_33 z49_1 (Or.inl ⟨rfl, rfl⟩) z49_2 (by unfold vp_in; decide) (by decide) e50 ?_
  have l50 : w50.1.length = w.1.length + 65 := by rw [e50]; exact l49
  have s50 : pSl w50.1 = pSl w.1 + 2270 := by rw [e50]; exact s49
  have z50_0 : w50.1[a0]? = some (0, 3) := by rw [e50]; exact z49_0
  have z50_1 : w50.1[w.1.length]? = some (16, 30) := by rw [e50]; exact z49_1
  have o50_0 : w50.2.2.2 a0 0 = some w.1.length := by rw [e50, o_R (Or.inl (ne_z z49_0 z49_1 (by decide)))]; exact o49_0
  refine ok_iinc (u := 16) (l' := [(1, .int 16), (0, .ref a0)]) dX0_init_34 0 rfl (by decide) (Nat.le_of_ble_eq_true rfl) rfl ?_
  refine ok_goto (t := 15) dX0_init_37 (by decide) ?_
  refine ok_iload_n dX0_init_15 0 rfl ?_
  refine ok_bipush (v := 30) dX0_init_16 (by decide) ?_
  refine ok_icmp_ge (t := 40) dX0_init_18 (by decide) (fun q => absurd q (by decide)) (fun _ => ?_)
  refine ok_aload_n dX0_init_21 1 rfl ?_
  refine oi_getR (ci := 0) (k := 0) dX0_init_22 flRX0_11 rfl z50_0 (by decide) o50_0 ?_
  refine ok_iload_n dX0_init_25 0 rfl ?_
  obtain ⟨w51, e51, h⟩ := blE h
  refine oi_new (ci := 3) (q := (RX3, TX3, 6)) dX0_init_26 rfl (tb_i (c := Cond.classLink RX0 9 RX3) 110 (by decide +kernel)) (b_len (mc := 121) l50 hL (by decide)) (b_c1 (mc := 121) l50 (by decide)) (b_s1 (N := 6) (ms := 4230) s50 (by decide)) e51 ?_
  have l51 : w51.1.length = w.1.length + 66 := ln_new e51 l50
  have s51 : pSl w51.1 = pSl w.1 + 2276 := sn_new e51 s50
  have z51_0 : w51.1[a0]? = some (0, 3) := by rw [e51]; exact z_new z50_0
  have z51_1 : w51.1[w.1.length]? = some (16, 30) := by rw [e51]; exact z_new z50_1
  have z51_n : w51.1[w50.1.length]? = some (3, 6) := by rw [e51]; exact z_at _ _
  have o51_0 : w51.2.2.2 a0 0 = some w.1.length := by rw [e51, o_new z50_0]; exact o50_0
  refine ok_dup dX0_init_29 rfl ?_
  refine ok_callI (d := (d + 0 + 2)) (mt := m3_init) (mc := 3) (ms := 134) (a := w50.1.length) (As := []) (r := [.ref w50.1.length, .int 16, .ref w.1.length]) dX0_init_30 mo3_init mv3_init lkRX0_17 rfl rfl (Nat.le_of_ble_eq_true rfl) (dep_le d (by decide)) (b_cm (mc := 121) l51 (by decide)) (b_cm (mc := 4230) s51 (by decide)) ?_
  obtain ⟨w52, e52, h⟩ := blE h
  refine ki3_init (d + 0) z51_n (b_sub l51 hL (by decide)) e52.symm ?_
  show Ok g _ Qx 33 [(1, .int 16), (0, .ref a0)] [.ref w50.1.length, .int 16, .ref w.1.length] w52
  have F52 := F3_init e52.symm
  have l52 : w52.1.length = w.1.length + 69 := ln_sub F52.1 l51
  have s52 : pSl w52.1 = pSl w.1 + 2410 := ln_sub F52.2.1 s51
  have z52_0 : w52.1[a0]? = some (0, 3) := by exact F52.2.2.1 _ _ z51_0
  have z52_1 : w52.1[w.1.length]? = some (16, 30) := by exact F52.2.2.1 _ _ z51_1
  have z52_2 : w52.1[w50.1.length]? = some (3, 6) := by exact F52.2.2.1 _ _ z51_n
  have o52_0 : w52.2.2.2 a0 0 = some w.1.length := by rw [F52.2.2.2 _ _ _ z51_0 (ne_z z51_0 z51_n (by decide))]; exact o51_0
  obtain ⟨w53, e53, h⟩ := blE h
  refine oi_aast (N := 16) dX0_init_33 z52_1 (Or.inl ⟨rfl, rfl⟩) z52_2 (by unfold vp_in; decide) (by decide) e53 ?_
  have l53 : w53.1.length = w.1.length + 69 := by rw [e53]; exact l52
  have s53 : pSl w53.1 = pSl w.1 + 2410 := by rw [e53]; exact s52
  have z53_0 : w53.1[a0]? = some (0, 3) := by rw [e53]; exact z52_0
  have z53_1 : w53.1[w.1.length]? = some (16, 30) := by rw [e53]; exact z52_1
  have o53_0 : w53.2.2.2 a0 0 = some w.1.length := by rw [e53, o_R (Or.inl (ne_z z52_0 z52_1 (by decide)))]; exact o52_0
  refine ok_iinc (u := 17) (l' := [(1, .int 17), (0, .ref a0)]) dX0_init_34 0 rfl (by decide) (Nat.le_of_ble_eq_true rfl) rfl ?_
  refine ok_goto (t := 15) dX0_init_37 (by decide) ?_
  refine ok_iload_n dX0_init_15 0 rfl ?_
  refine ok_bipush (v := 30) dX0_init_16 (by decide) ?_
  refine ok_icmp_ge (t := 40) dX0_init_18 (by decide) (fun q => absurd q (by decide)) (fun _ => ?_)
  refine ok_aload_n dX0_init_21 1 rfl ?_
  refine oi_getR (ci := 0) (k := 0) dX0_init_22 flRX0_11 rfl z53_0 (by decide) o53_0 ?_
  refine ok_iload_n dX0_init_25 0 rfl ?_
  obtain ⟨w54, e54, h⟩ := blE h
  refine oi_new (ci := 3) (q := (RX3, TX3, 6)) dX0_init_26 rfl (tb_i (c := Cond.classLink RX0 9 RX3) 110 (by decide +kernel)) (b_len (mc := 121) l53 hL (by decide)) (b_c1 (mc := 121) l53 (by decide)) (b_s1 (N := 6) (ms := 4230) s53 (by decide)) e54 ?_
  have l54 : w54.1.length = w.1.length + 70 := ln_new e54 l53
  have s54 : pSl w54.1 = pSl w.1 + 2416 := sn_new e54 s53
  have z54_0 : w54.1[a0]? = some (0, 3) := by rw [e54]; exact z_new z53_0
  have z54_1 : w54.1[w.1.length]? = some (16, 30) := by rw [e54]; exact z_new z53_1
  have z54_n : w54.1[w53.1.length]? = some (3, 6) := by rw [e54]; exact z_at _ _
  have o54_0 : w54.2.2.2 a0 0 = some w.1.length := by rw [e54, o_new z53_0]; exact o53_0
  refine ok_dup dX0_init_29 rfl ?_
  refine ok_callI (d := (d + 0 + 2)) (mt := m3_init) (mc := 3) (ms := 134) (a := w53.1.length) (As := []) (r := [.ref w53.1.length, .int 17, .ref w.1.length]) dX0_init_30 mo3_init mv3_init lkRX0_17 rfl rfl (Nat.le_of_ble_eq_true rfl) (dep_le d (by decide)) (b_cm (mc := 121) l54 (by decide)) (b_cm (mc := 4230) s54 (by decide)) ?_
  obtain ⟨w55, e55, h⟩ := blE h
  refine ki3_init (d + 0) z54_n (b_sub l54 hL (by decide)) e55.symm ?_
  show Ok g _ Qx 33 [(1, .int 17), (0, .ref a0)] [.ref w53.1.length, .int 17, .ref w.1.length] w55
  have F55 := F3_init e55.symm
  have l55 : w55.1.length = w.1.length + 73 := ln_sub F55.1 l54
  have s55 : pSl w55.1 = pSl w.1 + 2550 := ln_sub F55.2.1 s54
  have z55_0 : w55.1[a0]? = some (0, 3) := by exact F55.2.2.1 _ _ z54_0
  have z55_1 : w55.1[w.1.length]? = some (16, 30) := by exact F55.2.2.1 _ _ z54_1
  have z55_2 : w55.1[w53.1.length]? = some (3, 6) := by exact F55.2.2.1 _ _ z54_n
  have o55_0 : w55.2.2.2 a0 0 = some w.1.length := by rw [F55.2.2.2 _ _ _ z54_0 (ne_z z54_0 z54_n (by decide))]; exact o54_0
  obtain ⟨w56, e56, h⟩ := blE h
  refine oi_aast (N := 17) dX0_init_33 z55_1 (Or.inl ⟨rfl, rfl⟩) z55_2 (by unfold vp_in; decide) (by decide) e56 ?_
  have l56 : w56.1.length = w.1.length + 73 := by rw [e56]; exact l55
  have s56 : pSl w56.1 = pSl w.1 + 2550 := by rw [e56]; exact s55
  have z56_0 : w56.1[a0]? = some (0, 3) := by rw [e56]; exact z55_0
  have z56_1 : w56.1[w.1.length]? = some (16, 30) := by rw [e56]; exact z55_1
  have o56_0 : w56.2.2.2 a0 0 = some w.1.length := by rw [e56, o_R (Or.inl (ne_z z55_0 z55_1 (by decide)))]; exact o55_0
  refine ok_iinc (u := 18) (l' := [(1, .int 18), (0, .ref a0)]) dX0_init_34 0 rfl (by decide) (Nat.le_of_ble_eq_true rfl) rfl ?_
  refine ok_goto (t := 15) dX0_init_37 (by decide) ?_
  refine ok_iload_n dX0_init_15 0 rfl ?_
  refine ok_bipush (v := 30) dX0_init_16 (by decide) ?_
  refine ok_icmp_ge (t := 40) dX0_init_18 (by decide) (fun q => absurd q (by decide)) (fun _ => ?_)
  refine ok_aload_n dX0_init_21 1 rfl ?_
  refine oi_getR (ci := 0) (k := 0) dX0_init_22 flRX0_11 rfl z56_0 (by decide) o56_0 ?_
  refine ok_iload_n dX0_init_25 0 rfl ?_
  obtain ⟨w57, e57, h⟩ := blE h
  refine oi_new (ci := 3) (q := (RX3, TX3, 6)) dX0_init_26 rfl (tb_i (c := Cond.classLink RX0 9 RX3) 110 (by decide +kernel)) (b_len (mc := 121) l56 hL (by decide)) (b_c1 (mc := 121) l56 (by decide)) (b_s1 (N := 6) (ms := 4230) s56 (by decide)) e57 ?_
  have l57 : w57.1.length = w.1.length + 74 := ln_new e57 l56
  have s57 : pSl w57.1 = pSl w.1 + 2556 := sn_new e57 s56
  have z57_0 : w57.1[a0]? = some (0, 3) := by rw [e57]; exact z_new z56_0
  have z57_1 : w57.1[w.1.length]? = some (16, 30) := by rw [e57]; exact z_new z56_1
  have z57_n : w57.1[w56.1.length]? = some (3, 6) := by rw [e57]; exact z_at _ _
  have o57_0 : w57.2.2.2 a0 0 = some w.1.length := by rw [e57, o_new z56_0]; exact o56_0
  refine ok_dup dX0_init_29 rfl ?_
  refine ok_callI (d := (d + 0 + 2)) (mt := m3_init) (mc := 3) (ms := 134) (a := w56.1.length) (As := []) (r := [.ref w56.1.length, .int 18, .ref w.1.length]) dX0_init_30 mo3_init mv3_init lkRX0_17 rfl rfl (Nat.le_of_ble_eq_true rfl) (dep_le d (by decide)) (b_cm (mc := 121) l57 (by decide)) (b_cm (mc := 4230) s57 (by decide)) ?_
  obtain ⟨w58, e58, h⟩ := blE h
  refine ki3_init (d + 0) z57_n (b_sub l57 hL (by decide)) e58.symm ?_
  show Ok g _ Qx 33 [(1, .int 18), (0, .ref a0)] [.ref w56.1.length, .int 18, .ref w.1.length] w58
  have F58 := F3_init e58.symm
  have l58 : w58.1.length = w.1.length + 77 := ln_sub F58.1 l57
  have s58 : pSl w58.1 = pSl w.1 + 2690 := ln_sub F58.2.1 s57
  have z58_0 : w58.1[a0]? = some (0, 3) := by exact F58.2.2.1 _ _ z57_0
  have z58_1 : w58.1[w.1.length]? = some (16, 30) := by exact F58.2.2.1 _ _ z57_1
  have z58_2 : w58.1[w56.1.length]? = some (3, 6) := by exact F58.2.2.1 _ _ z57_n
  have o58_0 : w58.2.2.2 a0 0 = some w.1.length := by rw [F58.2.2.2 _ _ _ z57_0 (ne_z z57_0 z57_n (by decide))]; exact o57_0
  obtain ⟨w59, e59, h⟩ := blE h
  refine oi_aast (N := 18) dX0_init_33 z58_1 (Or.inl ⟨rfl, rfl⟩) z58_2 (by unfold vp_in; decide) (by decide) e59 ?_
  have l59 : w59.1.length = w.1.length + 77 := by rw [e59]; exact l58
  have s59 : pSl w59.1 = pSl w.1 + 2690 := by rw [e59]; exact s58
  have z59_0 : w59.1[a0]? = some (0, 3) := by rw [e59]; exact z58_0
  have z59_1 : w59.1[w.1.length]? = some (16, 30) := by rw [e59]; exact z58_1
  have o59_0 : w59.2.2.2 a0 0 = some w.1.length := by rw [e59, o_R (Or.inl (ne_z z58_0 z58_1 (by decide)))]; exact o58_0
  refine ok_iinc (u := 19) (l' := [(1, .int 19), (0, .ref a0)]) dX0_init_34 0 rfl (by decide) (Nat.le_of_ble_eq_true rfl) rfl ?_
  refine ok_goto (t := 15) dX0_init_37 (by decide) ?_
  refine ok_iload_n dX0_init_15 0 rfl ?_
  refine ok_bipush (v := 30) dX0_init_16 (by decide) ?_
  refine ok_icmp_ge (t := 40) dX0_init_18 (by decide) (fun q => absurd q (by decide)) (fun _ => ?_)
  refine ok_aload_n dX0_init_21 1 rfl ?_
  refine oi_getR (ci := 0) (k := 0) dX0_init_22 flRX0_11 rfl z59_0 (by decide) o59_0 ?_
  refine ok_iload_n dX0_init_25 0 rfl ?_
  obtain ⟨w60, e60, h⟩ := blE h
  refine oi_new (ci := 3) (q := (RX3, TX3, 6)) dX0_init_26 rfl (tb_i (c := Cond.classLink RX0 9 RX3) 110 (by decide +kernel)) (b_len (mc := 121) l59 hL (by decide)) (b_c1 (mc := 121) l59 (by decide)) (b_s1 (N := 6) (ms := 4230) s59 (by decide)) e60 ?_
  have l60 : w60.1.length = w.1.length + 78 := ln_new e60 l59
  have s60 : pSl w60.1 = pSl w.1 + 2696 := sn_new e60 s59
  have z60_0 : w60.1[a0]? = some (0, 3) := by rw [e60]; exact z_new z59_0
  have z60_1 : w60.1[w.1.length]? = some (16, 30) := by rw [e60]; exact z_new z59_1
  have z60_n : w60.1[w59.1.length]? = some (3, 6) := by rw [e60]; exact z_at _ _
  have o60_0 : w60.2.2.2 a0 0 = some w.1.length := by rw [e60, o_new z59_0]; exact o59_0
  refine ok_dup dX0_init_29 rfl ?_
  refine ok_callI (d := (d + 0 + 2)) (mt := m3_init) (mc := 3) (ms := 134) (a := w59.1.length) (As := []) (r := [.ref w59.1.length, .int 19, .ref w.1.length]) dX0_init_30 mo3_init mv3_init lkRX0_17 rfl rfl (Nat.le_of_ble_eq_true rfl) (dep_le d (by decide)) (b_cm (mc := 121) l60 (by decide)) (b_cm (mc := 4230) s60 (by decide)) ?_
  obtain ⟨w61, e61, h⟩ := blE h
  refine ki3_init (d + 0) z60_n (b_sub l60 hL (by decide)) e61.symm ?_
  show Ok g _ Qx 33 [(1, .int 19), (0, .ref a0)] [.ref w59.1.length, .int 19, .ref w.1.length] w61
  have F61 := F3_init e61.symm
  have l61 : w61.1.length = w.1.length + 81 := ln_sub F61.1 l60
  have s61 : pSl w61.1 = pSl w.1 + 2830 := ln_sub F61.2.1 s60
  have z61_0 : w61.1[a0]? = some (0, 3) := by exact F61.2.2.1 _ _ z60_0
  have z61_1 : w61.1[w.1.length]? = some (16, 30) := by exact F61.2.2.1 _ _ z60_1
  have z61_2 : w61.1[w59.1.length]? = some (3, 6) := by exact F61.2.2.1 _ _ z60_n
  have o61_0 : w61.2.2.2 a0 0 = some w.1.length := by rw [F61.2.2.2 _ _ _ z60_0 (ne_z z60_0 z60_n (by decide))]; exact o60_0
  obtain ⟨w62, e62, h⟩ := blE h
  refine oi_aast (N := 19) dX0_init_33 z61_1 (Or.inl ⟨rfl, rfl⟩) z61_2 (by unfold vp_in; decide) (by decide) e62 ?_
  have l62 : w62.1.length = w.1.length + 81 := by rw [e62]; exact l61
  have s62 : pSl w62.1 = pSl w.1 + 2830 := by rw [e62]; exact s61
  have z62_0 : w62.1[a0]? = some (0, 3) := by rw [e62]; exact z61_0
  have z62_1 : w62.1[w.1.length]? = some (16, 30) := by rw [e62]; exact z61_1
  have o62_0 : w62.2.2.2 a0 0 = some w.1.length := by rw [e62, o_R (Or.inl (ne_z z61_0 z61_1 (by decide)))]; exact o61_0
  refine ok_iinc (u := 20) (l' := [(1, .int 20), (0, .ref a0)]) dX0_init_34 0 rfl (by decide) (Nat.le_of_ble_eq_true rfl) rfl ?_
  refine ok_goto (t := 15) dX0_init_37 (by decide) ?_
  refine ok_iload_n dX0_init_15 0 rfl ?_
  refine ok_bipush (v := 30) dX0_init_16 (by decide) ?_
  refine ok_icmp_ge (t := 40) dX0_init_18 (by decide) (fun q => absurd q (by decide)) (fun _ => ?_)
  refine ok_aload_n dX0_init_21 1 rfl ?_
  refine oi_getR (ci := 0) (k := 0) dX0_init_22 flRX0_11 rfl z62_0 (by decide) o62_0 ?_
  refine ok_iload_n dX0_init_25 0 rfl ?_
  obtain ⟨w63, e63, h⟩ := blE h
  refine oi_new (ci := 3) (q := (RX3, TX3, 6)) dX0_init_26 rfl (tb_i (c := Cond.classLink RX0 9 RX3) 110 (by decide +kernel)) (b_len (mc := 121) l62 hL (by decide)) (b_c1 (mc := 121) l62 (by decide)) (b_s1 (N := 6) (ms := 4230) s62 (by decide)) e63 ?_
  have l63 : w63.1.length = w.1.length + 82 := ln_new e63 l62
  have s63 : pSl w63.1 = pSl w.1 + 2836 := sn_new e63 s62
  have z63_0 : w63.1[a0]? = some (0, 3) := by rw [e63]; exact z_new z62_0
  have z63_1 : w63.1[w.1.length]? = some (16, 30) := by rw [e63]; exact z_new z62_1
  have z63_n : w63.1[w62.1.length]? = some (3, 6) := by rw [e63]; exact z_at _ _
  have o63_0 : w63.2.2.2 a0 0 = some w.1.length := by rw [e63, o_new z62_0]; exact o62_0
  refine ok_dup dX0_init_29 rfl ?_
  refine ok_callI (d := (d + 0 + 2)) (mt := m3_init) (mc := 3) (ms := 134) (a := w62.1.length) (As := []) (r := [.ref w62.1.length, .int 20, .ref w.1.length]) dX0_init_30 mo3_init mv3_init lkRX0_17 rfl rfl (Nat.le_of_ble_eq_true rfl) (dep_le d (by decide)) (b_cm (mc := 121) l63 (by decide)) (b_cm (mc := 4230) s63 (by decide)) ?_
  obtain ⟨w64, e64, h⟩ := blE h
  refine ki3_init (d + 0) z63_n (b_sub l63 hL (by decide)) e64.symm ?_
  show Ok g _ Qx 33 [(1, .int 20), (0, .ref a0)] [.ref w62.1.length, .int 20, .ref w.1.length] w64
  have F64 := F3_init e64.symm
  have l64 : w64.1.length = w.1.length + 85 := ln_sub F64.1 l63
  have s64 : pSl w64.1 = pSl w.1 + 2970 := ln_sub F64.2.1 s63
  have z64_0 : w64.1[a0]? = some (0, 3) := by exact F64.2.2.1 _ _ z63_0
  have z64_1 : w64.1[w.1.length]? = some (16, 30) := by exact F64.2.2.1 _ _ z63_1
  have z64_2 : w64.1[w62.1.length]? = some (3, 6) := by exact F64.2.2.1 _ _ z63_n
  have o64_0 : w64.2.2.2 a0 0 = some w.1.length := by rw [F64.2.2.2 _ _ _ z63_0 (ne_z z63_0 z63_n (by decide))]; exact o63_0
  obtain ⟨w65, e65, h⟩ := blE h
  refine oi_aast (N := 20) dX0_init_33 z64_1 (Or.inl ⟨rfl, rfl⟩) z64_2 (by unfold vp_in; decide) (by decide) e65 ?_
  have l65 : w65.1.length = w.1.length + 85 := by rw [e65]; exact l64
  have s65 : pSl w65.1 = pSl w.1 + 2970 := by rw [e65]; exact s64
  have z65_0 : w65.1[a0]? = some (0, 3) := by rw [e65]; exact z64_0
  have z65_1 : w65.1[w.1.length]? = some (16, 30) := by rw [e65]; exact z64_1
  have o65_0 : w65.2.2.2 a0 0 = some w.1.length := by rw [e65, o_R (Or.inl (ne_z z64_0 z64_1 (by decide)))]; exact o64_0
  refine ok_iinc (u := 21) (l' := [(1, .int 21), (0, .ref a0)]) dX0_init_34 0 rfl (by decide) (Nat.le_of_ble_eq_true rfl) rfl ?_
  refine ok_goto (t := 15) dX0_init_37 (by decide) ?_
  refine ok_iload_n dX0_init_15 0 rfl ?_
  refine ok_bipush (v := 30) dX0_init_16 (by decide) ?_
  refine ok_icmp_ge (t := 40) dX0_init_18 (by decide) (fun q => absurd q (by decide)) (fun _ => ?_)
  refine ok_aload_n dX0_init_21 1 rfl ?_
  refine oi_getR (ci := 0) (k := 0) dX0_init_22 flRX0_11 rfl z65_0 (by decide) o65_0 ?_
  refine ok_iload_n dX0_init_25 0 rfl ?_
  obtain ⟨w66, e66, h⟩ := blE h
  refine oi_new (ci := 3) (q := (RX3, TX3, 6)) dX0_init_26 rfl (tb_i (c := Cond.classLink RX0 9 RX3) 110 (by decide +kernel)) (b_len (mc := 121) l65 hL (by decide)) (b_c1 (mc := 121) l65 (by decide)) (b_s1 (N := 6) (ms := 4230) s65 (by decide)) e66 ?_
  have l66 : w66.1.length = w.1.length + 86 := ln_new e66 l65
  have s66 : pSl w66.1 = pSl w.1 + 2976 := sn_new e66 s65
  have z66_0 : w66.1[a0]? = some (0, 3) := by rw [e66]; exact z_new z65_0
  have z66_1 : w66.1[w.1.length]? = some (16, 30) := by rw [e66]; exact z_new z65_1
  have z66_n : w66.1[w65.1.length]? = some (3, 6) := by rw [e66]; exact z_at _ _
  have o66_0 : w66.2.2.2 a0 0 = some w.1.length := by rw [e66, o_new z65_0]; exact o65_0
  refine ok_dup dX0_init_29 rfl ?_
  refine ok_callI (d := (d + 0 + 2)) (mt := m3_init) (mc := 3) (ms := 134) (a := w65.1.length) (As := []) (r := [.ref w65.1.length, .int 21, .ref w.1.length]) dX0_init_30 mo3_init mv3_init lkRX0_17 rfl rfl (Nat.le_of_ble_eq_true rfl) (dep_le d (by decide)) (b_cm (mc := 121) l66 (by decide)) (b_cm (mc := 4230) s66 (by decide)) ?_
  obtain ⟨w67, e67, h⟩ := blE h
  refine ki3_init (d + 0) z66_n (b_sub l66 hL (by decide)) e67.symm ?_
  show Ok g _ Qx 33 [(1, .int 21), (0, .ref a0)] [.ref w65.1.length, .int 21, .ref w.1.length] w67
  have F67 := F3_init e67.symm
  have l67 : w67.1.length = w.1.length + 89 := ln_sub F67.1 l66
  have s67 : pSl w67.1 = pSl w.1 + 3110 := ln_sub F67.2.1 s66
  have z67_0 : w67.1[a0]? = some (0, 3) := by exact F67.2.2.1 _ _ z66_0
  have z67_1 : w67.1[w.1.length]? = some (16, 30) := by exact F67.2.2.1 _ _ z66_1
  have z67_2 : w67.1[w65.1.length]? = some (3, 6) := by exact F67.2.2.1 _ _ z66_n
  have o67_0 : w67.2.2.2 a0 0 = some w.1.length := by rw [F67.2.2.2 _ _ _ z66_0 (ne_z z66_0 z66_n (by decide))]; exact o66_0
  obtain ⟨w68, e68, h⟩ := blE h
  refine oi_aast (N := 21) dX0_init_33 z67_1 (Or.inl ⟨rfl, rfl⟩) z67_2 (by unfold vp_in; decide) (by decide) e68 ?_
  have l68 : w68.1.length = w.1.length + 89 := by rw [e68]; exact l67
  have s68 : pSl w68.1 = pSl w.1 + 3110 := by rw [e68]; exact s67
  have z68_0 : w68.1[a0]? = some (0, 3) := by rw [e68]; exact z67_0
  have z68_1 : w68.1[w.1.length]? = some (16, 30) := by rw [e68]; exact z67_1
  have o68_0 : w68.2.2.2 a0 0 = some w.1.length := by rw [e68, o_R (Or.inl (ne_z z67_0 z67_1 (by decide)))]; exact o67_0
  refine ok_iinc (u := 22) (l' := [(1, .int 22), (0, .ref a0)]) dX0_init_34 0 rfl (by decide) (Nat.le_of_ble_eq_true rfl) rfl ?_
  refine ok_goto (t := 15) dX0_init_37 (by decide) ?_
  refine ok_iload_n dX0_init_15 0 rfl ?_
  refine ok_bipush (v := 30) dX0_init_16 (by decide) ?_
  refine ok_icmp_ge (t := 40) dX0_init_18 (by decide) (fun q => absurd q (by decide)) (fun _ => ?_)
  refine ok_aload_n dX0_init_21 1 rfl ?_
  refine oi_getR (ci := 0) (k := 0) dX0_init_22 flRX0_11 rfl z68_0 (by decide) o68_0 ?_
  refine ok_iload_n dX0_init_25 0 rfl ?_
  obtain ⟨w69, e69, h⟩ := blE h
  refine oi_new (ci := 3) (q := (RX3, TX3, 6)) dX0_init_26 rfl (tb_i (c := Cond.classLink RX0 9 RX3) 110 (by decide +kernel)) (b_len (mc := 121) l68 hL (by decide)) (b_c1 (mc := 121) l68 (by decide)) (b_s1 (N := 6) (ms := 4230) s68 (by decide)) e69 ?_
  have l69 : w69.1.length = w.1.length + 90 := ln_new e69 l68
  have s69 : pSl w69.1 = pSl w.1 + 3116 := sn_new e69 s68
  have z69_0 : w69.1[a0]? = some (0, 3) := by rw [e69]; exact z_new z68_0
  have z69_1 : w69.1[w.1.length]? = some (16, 30) := by rw [e69]; exact z_new z68_1
  have z69_n : w69.1[w68.1.length]? = some (3, 6) := by rw [e69]; exact z_at _ _
  have o69_0 : w69.2.2.2 a0 0 = some w.1.length := by rw [e69, o_new z68_0]; exact o68_0
  refine ok_dup dX0_init_29 rfl ?_
  refine ok_callI (d := (d + 0 + 2)) (mt := m3_init) (mc := 3) (ms := 134) (a := w68.1.length) (As := []) (r := [.ref w68.1.length, .int 22, .ref w.1.length]) dX0_init_30 mo3_init mv3_init lkRX0_17 rfl rfl (Nat.le_of_ble_eq_true rfl) (dep_le d (by decide)) (b_cm (mc := 121) l69 (by decide)) (b_cm (mc := 4230) s69 (by decide)) ?_
  obtain ⟨w70, e70, h⟩ := blE h
  refine ki3_init (d + 0) z69_n (b_sub l69 hL (by decide)) e70.symm ?_
  show Ok g _ Qx 33 [(1, .int 22), (0, .ref a0)] [.ref w68.1.length, .int 22, .ref w.1.length] w70
  have F70 := F3_init e70.symm
  have l70 : w70.1.length = w.1.length + 93 := ln_sub F70.1 l69
  have s70 : pSl w70.1 = pSl w.1 + 3250 := ln_sub F70.2.1 s69
  have z70_0 : w70.1[a0]? = some (0, 3) := by exact F70.2.2.1 _ _ z69_0
  have z70_1 : w70.1[w.1.length]? = some (16, 30) := by exact F70.2.2.1 _ _ z69_1
  have z70_2 : w70.1[w68.1.length]? = some (3, 6) := by exact F70.2.2.1 _ _ z69_n
  have o70_0 : w70.2.2.2 a0 0 = some w.1.length := by rw [F70.2.2.2 _ _ _ z69_0 (ne_z z69_0 z69_n (by decide))]; exact o69_0
  obtain ⟨w71, e71, h⟩ := blE h
  refine oi_aast (N := 22) dX0_init_33 z70_1 (Or.inl ⟨rfl, rfl⟩) z70_2 (by unfold vp_in; decide) (by decide) e71 ?_
  have l71 : w71.1.length = w.1.length + 93 := by rw [e71]; exact l70
  have s71 : pSl w71.1 = pSl w.1 + 3250 := by rw [e71]; exact s70
  have z71_0 : w71.1[a0]? = some (0, 3) := by rw [e71]; exact z70_0
  have z71_1 : w71.1[w.1.length]? = some (16, 30) := by rw [e71]; exact z70_1
  have o71_0 : w71.2.2.2 a0 0 = some w.1.length := by rw [e71, o_R (Or.inl (ne_z z70_0 z70_1 (by decide)))]; exact o70_0
  refine ok_iinc (u := 23) (l' := [(1, .int 23), (0, .ref a0)]) dX0_init_34 0 rfl (by decide) (Nat.le_of_ble_eq_true rfl) rfl ?_
  refine ok_goto (t := 15) dX0_init_37 (by decide) ?_
  refine ok_iload_n dX0_init_15 0 rfl ?_
  refine ok_bipush (v := 30) dX0_init_16 (by decide) ?_
  refine ok_icmp_ge (t := 40) dX0_init_18 (by decide) (fun q => absurd q (by decide)) (fun _ => ?_)
  refine ok_aload_n dX0_init_21 1 rfl ?_
  refine oi_getR (ci := 0) (k := 0) dX0_init_22 flRX0_11 rfl z71_0 (by decide) o71_0 ?_
  refine ok_iload_n dX0_init_25 0 rfl ?_
  obtain ⟨w72, e72, h⟩ := blE h
  refine oi_new (ci := 3) (q := (RX3, TX3, 6)) dX0_init_26 rfl (tb_i (c := Cond.classLink RX0 9 RX3) 110 (by decide +kernel)) (b_len (mc := 121) l71 hL (by decide)) (b_c1 (mc := 121) l71 (by decide)) (b_s1 (N := 6) (ms := 4230) s71 (by decide)) e72 ?_
  have l72 : w72.1.length = w.1.length + 94 := ln_new e72 l71
  have s72 : pSl w72.1 = pSl w.1 + 3256 := sn_new e72 s71
  have z72_0 : w72.1[a0]? = some (0, 3) := by rw [e72]; exact z_new z71_0
  have z72_1 : w72.1[w.1.length]? = some (16, 30) := by rw [e72]; exact z_new z71_1
  have z72_n : w72.1[w71.1.length]? = some (3, 6) := by rw [e72]; exact z_at _ _
  have o72_0 : w72.2.2.2 a0 0 = some w.1.length := by rw [e72, o_new z71_0]; exact o71_0
  refine ok_dup dX0_init_29 rfl ?_
  refine ok_callI (d := (d + 0 + 2)) (mt := m3_init) (mc := 3) (ms := 134) (a := w71.1.length) (As := []) (r := [.ref w71.1.length, .int 23, .ref w.1.length]) dX0_init_30 mo3_init mv3_init lkRX0_17 rfl rfl (Nat.le_of_ble_eq_true rfl) (dep_le d (by decide)) (b_cm (mc := 121) l72 (by decide)) (b_cm (mc := 4230) s72 (by decide)) ?_
  obtain ⟨w73, e73, h⟩ := blE h
  refine ki3_init (d + 0) z72_n (b_sub l72 hL (by decide)) e73.symm ?_
  show Ok g _ Qx 33 [(1, .int 23), (0, .ref a0)] [.ref w71.1.length, .int 23, .ref w.1.length] w73
  have F73 := F3_init e73.symm
  have l73 : w73.1.length = w.1.length + 97 := ln_sub F73.1 l72
  have s73 : pSl w73.1 = pSl w.1 + 3390 := ln_sub F73.2.1 s72
  have z73_0 : w73.1[a0]? = some (0, 3) := by exact F73.2.2.1 _ _ z72_0
  have z73_1 : w73.1[w.1.length]? = some (16, 30) := by exact F73.2.2.1 _ _ z72_1
  have z73_2 : w73.1[w71.1.length]? = some (3, 6) := by exact F73.2.2.1 _ _ z72_n
  have o73_0 : w73.2.2.2 a0 0 = some w.1.length := by rw [F73.2.2.2 _ _ _ z72_0 (ne_z z72_0 z72_n (by decide))]; exact o72_0
  obtain ⟨w74, e74, h⟩ := blE h
  refine oi_aast (N := 23) dX0_init_33 z73_1 (Or.inl ⟨rfl, rfl⟩) z73_2 (by unfold vp_in; decide) (by decide) e74 ?_
  have l74 : w74.1.length = w.1.length + 97 := by rw [e74]; exact l73
  have s74 : pSl w74.1 = pSl w.1 + 3390 := by rw [e74]; exact s73
  have z74_0 : w74.1[a0]? = some (0, 3) := by rw [e74]; exact z73_0
  have z74_1 : w74.1[w.1.length]? = some (16, 30) := by rw [e74]; exact z73_1
  have o74_0 : w74.2.2.2 a0 0 = some w.1.length := by rw [e74, o_R (Or.inl (ne_z z73_0 z73_1 (by decide)))]; exact o73_0
  refine ok_iinc (u := 24) (l' := [(1, .int 24), (0, .ref a0)]) dX0_init_34 0 rfl (by decide) (Nat.le_of_ble_eq_true rfl) rfl ?_
  refine ok_goto (t := 15) dX0_init_37 (by decide) ?_
  refine ok_iload_n dX0_init_15 0 rfl ?_
  refine ok_bipush (v := 30) dX0_init_16 (by decide) ?_
  refine ok_icmp_ge (t := 40) dX0_init_18 (by decide) (fun q => absurd q (by decide)) (fun _ => ?_)
  refine ok_aload_n dX0_init_21 1 rfl ?_
  refine oi_getR (ci := 0) (k := 0) dX0_init_22 flRX0_11 rfl z74_0 (by decide) o74_0 ?_
  refine ok_iload_n dX0_init_25 0 rfl ?_
  obtain ⟨w75, e75, h⟩ := blE h
  refine oi_new (ci := 3) (q := (RX3, TX3, 6)) dX0_init_26 rfl (tb_i (c := Cond.classLink RX0 9 RX3) 110 (by decide +kernel)) (b_len (mc := 121) l74 hL (by decide)) (b_c1 (mc := 121) l74 (by decide)) (b_s1 (N := 6) (ms := 4230) s74 (by decide)) e75 ?_
  have l75 : w75.1.length = w.1.length + 98 := ln_new e75 l74
  have s75 : pSl w75.1 = pSl w.1 + 3396 := sn_new e75 s74
  have z75_0 : w75.1[a0]? = some (0, 3) := by rw [e75]; exact z_new z74_0
  have z75_1 : w75.1[w.1.length]? = some (16, 30) := by rw [e75]; exact z_new z74_1
  have z75_n : w75.1[w74.1.length]? = some (3, 6) := by rw [e75]; exact z_at _ _
  have o75_0 : w75.2.2.2 a0 0 = some w.1.length := by rw [e75, o_new z74_0]; exact o74_0
  refine ok_dup dX0_init_29 rfl ?_
  refine ok_callI (d := (d + 0 + 2)) (mt := m3_init) (mc := 3) (ms := 134) (a := w74.1.length) (As := []) (r := [.ref w74.1.length, .int 24, .ref w.1.length]) dX0_init_30 mo3_init mv3_init lkRX0_17 rfl rfl (Nat.le_of_ble_eq_true rfl) (dep_le d (by decide)) (b_cm (mc := 121) l75 (by decide)) (b_cm (mc := 4230) s75 (by decide)) ?_
  obtain ⟨w76, e76, h⟩ := blE h
  refine ki3_init (d + 0) z75_n (b_sub l75 hL (by decide)) e76.symm ?_
  show Ok g _ Qx 33 [(1, .int 24), (0, .ref a0)] [.ref w74.1.length, .int 24, .ref w.1.length] w76
  have F76 := F3_init e76.symm
  have l76 : w76.1.length = w.1.length + 101 := ln_sub F76.1 l75
  have s76 : pSl w76.1 = pSl w.1 + 3530 := ln_sub F76.2.1 s75
  have z76_0 : w76.1[a0]? = some (0, 3) := by exact F76.2.2.1 _ _ z75_0
  have z76_1 : w76.1[w.1.length]? = some (16, 30) := by exact F76.2.2.1 _ _ z75_1
  have z76_2 : w76.1[w74.1.length]? = some (3, 6) := by exact F76.2.2.1 _ _ z75_n
  have o76_0 : w76.2.2.2 a0 0 = some w.1.length := by rw [F76.2.2.2 _ _ _ z75_0 (ne_z z75_0 z75_n (by decide))]; exact o75_0
  obtain ⟨w77, e77, h⟩ := blE h
  refine oi_aast (N := 24) dX0_init_33 z76_1 (Or.inl ⟨rfl, rfl⟩) z76_2 (by unfold vp_in; decide) (by decide) e77 ?_
  have l77 : w77.1.length = w.1.length + 101 := by rw [e77]; exact l76
  have s77 : pSl w77.1 = pSl w.1 + 3530 := by rw [e77]; exact s76
  have z77_0 : w77.1[a0]? = some (0, 3) := by rw [e77]; exact z76_0
  have z77_1 : w77.1[w.1.length]? = some (16, 30) := by rw [e77]; exact z76_1
  have o77_0 : w77.2.2.2 a0 0 = some w.1.length := by rw [e77, o_R (Or.inl (ne_z z76_0 z76_1 (by decide)))]; exact o76_0
  refine ok_iinc (u := 25) (l' := [(1, .int 25), (0, .ref a0)]) dX0_init_34 0 rfl (by decide) (Nat.le_of_ble_eq_true rfl) rfl ?_
  refine ok_goto (t := 15) dX0_init_37 (by decide) ?_
  refine ok_iload_n dX0_init_15 0 rfl ?_
  refine ok_bipush (v := 30) dX0_init_16 (by decide) ?_
  refine ok_icmp_ge (t := 40) dX0_init_18 (by decide) (fun q => absurd q (by decide)) (fun _ => ?_)
  refine ok_aload_n dX0_init_21 1 rfl ?_
  refine oi_getR (ci := 0) (k := 0) dX0_init_22 flRX0_11 rfl z77_0 (by decide) o77_0 ?_
  refine ok_iload_n dX0_init_25 0 rfl ?_
  obtain ⟨w78, e78, h⟩ := blE h
  refine oi_new (ci := 3) (q := (RX3, TX3, 6)) dX0_init_26 rfl (tb_i (c := Cond.classLink RX0 9 RX3) 110 (by decide +kernel)) (b_len (mc := 121) l77 hL (by decide)) (b_c1 (mc := 121) l77 (by decide)) (b_s1 (N := 6) (ms := 4230) s77 (by decide)) e78 ?_
  have l78 : w78.1.length = w.1.length + 102 := ln_new e78 l77
  have s78 : pSl w78.1 = pSl w.1 + 3536 := sn_new e78 s77
  have z78_0 : w78.1[a0]? = some (0, 3) := by rw [e78]; exact z_new z77_0
  have z78_1 : w78.1[w.1.length]? = some (16, 30) := by rw [e78]; exact z_new z77_1
  have z78_n : w78.1[w77.1.length]? = some (3, 6) := by rw [e78]; exact z_at _ _
  have o78_0 : w78.2.2.2 a0 0 = some w.1.length := by rw [e78, o_new z77_0]; exact o77_0
  refine ok_dup dX0_init_29 rfl ?_
  refine ok_callI (d := (d + 0 + 2)) (mt := m3_init) (mc := 3) (ms := 134) (a := w77.1.length) (As := []) (r := [.ref w77.1.length, .int 25, .ref w.1.length]) dX0_init_30 mo3_init mv3_init lkRX0_17 rfl rfl (Nat.le_of_ble_eq_true rfl) (dep_le d (by decide)) (b_cm (mc := 121) l78 (by decide)) (b_cm (mc := 4230) s78 (by decide)) ?_
  obtain ⟨w79, e79, h⟩ := blE h
  refine ki3_init (d + 0) z78_n (b_sub l78 hL (by decide)) e79.symm ?_
  show Ok g _ Qx 33 [(1, .int 25), (0, .ref a0)] [.ref w77.1.length, .int 25, .ref w.1.length] w79
  have F79 := F3_init e79.symm
  have l79 : w79.1.length = w.1.length + 105 := ln_sub F79.1 l78
  have s79 : pSl w79.1 = pSl w.1 + 3670 := ln_sub F79.2.1 s78
  have z79_0 : w79.1[a0]? = some (0, 3) := by exact F79.2.2.1 _ _ z78_0
  have z79_1 : w79.1[w.1.length]? = some (16, 30) := by exact F79.2.2.1 _ _ z78_1
  have z79_2 : w79.1[w77.1.length]? = some (3, 6) := by exact F79.2.2.1 _ _ z78_n
  have o79_0 : w79.2.2.2 a0 0 = some w.1.length := by rw [F79.2.2.2 _ _ _ z78_0 (ne_z z78_0 z78_n (by decide))]; exact o78_0
  obtain ⟨w80, e80, h⟩ := blE h
  refine oi_aast (N := 25) dX0_init_33 z79_1 (Or.inl ⟨rfl, rfl⟩) z79_2 (by unfold vp_in; decide) (by decide) e80 ?_
  have l80 : w80.1.length = w.1.length + 105 := by rw [e80]; exact l79
  have s80 : pSl w80.1 = pSl w.1 + 3670 := by rw [e80]; exact s79
  have z80_0 : w80.1[a0]? = some (0, 3) := by rw [e80]; exact z79_0
  have z80_1 : w80.1[w.1.length]? = some (16, 30) := by rw [e80]; exact z79_1
  have o80_0 : w80.2.2.2 a0 0 = some w.1.length := by rw [e80, o_R (Or.inl (ne_z z79_0 z79_1 (by decide)))]; exact o79_0
  refine ok_iinc (u := 26) (l' := [(1, .int 26), (0, .ref a0)]) dX0_init_34 0 rfl (by decide) (Nat.le_of_ble_eq_true rfl) rfl ?_
  refine ok_goto (t := 15) dX0_init_37 (by decide) ?_
  refine ok_iload_n dX0_init_15 0 rfl ?_
  refine ok_bipush (v := 30) dX0_init_16 (by decide) ?_
  refine ok_icmp_ge (t := 40) dX0_init_18 (by decide) (fun q => absurd q (by decide)) (fun _ => ?_)
  refine ok_aload_n dX0_init_21 1 rfl ?_
  refine oi_getR (ci := 0) (k := 0) dX0_init_22 flRX0_11 rfl z80_0 (by decide) o80_0 ?_
  refine ok_iload_n dX0_init_25 0 rfl ?_
  obtain ⟨w81, e81, h⟩ := blE h
  refine oi_new (ci := 3) (q := (RX3, TX3, 6)) dX0_init_26 rfl (tb_i (c := Cond.classLink RX0 9 RX3) 110 (by decide +kernel)) (b_len (mc := 121) l80 hL (by decide)) (b_c1 (mc := 121) l80 (by decide)) (b_s1 (N := 6) (ms := 4230) s80 (by decide)) e81 ?_
  have l81 : w81.1.length = w.1.length + 106 := ln_new e81 l80
  have s81 : pSl w81.1 = pSl w.1 + 3676 := sn_new e81 s80
  have z81_0 : w81.1[a0]? = some (0, 3) := by rw [e81]; exact z_new z80_0
  have z81_1 : w81.1[w.1.length]? = some (16, 30) := by rw [e81]; exact z_new z80_1
  have z81_n : w81.1[w80.1.length]? = some (3, 6) := by rw [e81]; exact z_at _ _
  have o81_0 : w81.2.2.2 a0 0 = some w.1.length := by rw [e81, o_new z80_0]; exact o80_0
  refine ok_dup dX0_init_29 rfl ?_
  refine ok_callI (d := (d + 0 + 2)) (mt := m3_init) (mc := 3) (ms := 134) (a := w80.1.length) (As := []) (r := [.ref w80.1.length, .int 26, .ref w.1.length]) dX0_init_30 mo3_init mv3_init lkRX0_17 rfl rfl (Nat.le_of_ble_eq_true rfl) (dep_le d (by decide)) (b_cm (mc := 121) l81 (by decide)) (b_cm (mc := 4230) s81 (by decide)) ?_
  obtain ⟨w82, e82, h⟩ := blE h
  refine ki3_init (d + 0) z81_n (b_sub l81 hL (by decide)) e82.symm ?_
  show Ok g _ Qx 33 [(1, .int 26), (0, .ref a0)] [.ref w80.1.length, .int 26, .ref w.1.length] w82
  have F82 := F3_init e82.symm
  have l82 : w82.1.length = w.1.length + 109 := ln_sub F82.1 l81
  have s82 : pSl w82.1 = pSl w.1 + 3810 := ln_sub F82.2.1 s81
  have z82_0 : w82.1[a0]? = some (0, 3) := by exact F82.2.2.1 _ _ z81_0
  have z82_1 : w82.1[w.1.length]? = some (16, 30) := by exact F82.2.2.1 _ _ z81_1
  have z82_2 : w82.1[w80.1.length]? = some (3, 6) := by exact F82.2.2.1 _ _ z81_n
  have o82_0 : w82.2.2.2 a0 0 = some w.1.length := by rw [F82.2.2.2 _ _ _ z81_0 (ne_z z81_0 z81_n (by decide))]; exact o81_0
  obtain ⟨w83, e83, h⟩ := blE h
  refine oi_aast (N := 26) dX0_init_33 z82_1 (Or.inl ⟨rfl, rfl⟩) z82_2 (by unfold vp_in; decide) (by decide) e83 ?_
  have l83 : w83.1.length = w.1.length + 109 := by rw [e83]; exact l82
  have s83 : pSl w83.1 = pSl w.1 + 3810 := by rw [e83]; exact s82
  have z83_0 : w83.1[a0]? = some (0, 3) := by rw [e83]; exact z82_0
  have z83_1 : w83.1[w.1.length]? = some (16, 30) := by rw [e83]; exact z82_1
  have o83_0 : w83.2.2.2 a0 0 = some w.1.length := by rw [e83, o_R (Or.inl (ne_z z82_0 z82_1 (by decide)))]; exact o82_0
  refine ok_iinc (u := 27) (l' := [(1, .int 27), (0, .ref a0)]) dX0_init_34 0 rfl (by decide) (Nat.le_of_ble_eq_true rfl) rfl ?_
  refine ok_goto (t := 15) dX0_init_37 (by decide) ?_
  refine ok_iload_n dX0_init_15 0 rfl ?_
  refine ok_bipush (v := 30) dX0_init_16 (by decide) ?_
  refine ok_icmp_ge (t := 40) dX0_init_18 (by decide) (fun q => absurd q (by decide)) (fun _ => ?_)
  refine ok_aload_n dX0_init_21 1 rfl ?_
  refine oi_getR (ci := 0) (k := 0) dX0_init_22 flRX0_11 rfl z83_0 (by decide) o83_0 ?_
  refine ok_iload_n dX0_init_25 0 rfl ?_
  obtain ⟨w84, e84, h⟩ := blE h
  refine oi_new (ci := 3) (q := (RX3, TX3, 6)) dX0_init_26 rfl (tb_i (c := Cond.classLink RX0 9 RX3) 110 (by decide +kernel)) (b_len (mc := 121) l83 hL (by decide)) (b_c1 (mc := 121) l83 (by decide)) (b_s1 (N := 6) (ms := 4230) s83 (by decide)) e84 ?_
  have l84 : w84.1.length = w.1.length + 110 := ln_new e84 l83
  have s84 : pSl w84.1 = pSl w.1 + 3816 := sn_new e84 s83
  have z84_0 : w84.1[a0]? = some (0, 3) := by rw [e84]; exact z_new z83_0
  have z84_1 : w84.1[w.1.length]? = some (16, 30) := by rw [e84]; exact z_new z83_1
  have z84_n : w84.1[w83.1.length]? = some (3, 6) := by rw [e84]; exact z_at _ _
  have o84_0 : w84.2.2.2 a0 0 = some w.1.length := by rw [e84, o_new z83_0]; exact o83_0
  refine ok_dup dX0_init_29 rfl ?_
  refine ok_callI (d := (d + 0 + 2)) (mt := m3_init) (mc := 3) (ms := 134) (a := w83.1.length) (As := []) (r := [.ref w83.1.length, .int 27, .ref w.1.length]) dX0_init_30 mo3_init mv3_init lkRX0_17 rfl rfl (Nat.le_of_ble_eq_true rfl) (dep_le d (by decide)) (b_cm (mc := 121) l84 (by decide)) (b_cm (mc := 4230) s84 (by decide)) ?_
  obtain ⟨w85, e85, h⟩ := blE h
  refine ki3_init (d + 0) z84_n (b_sub l84 hL (by decide)) e85.symm ?_
  show Ok g _ Qx 33 [(1, .int 27), (0, .ref a0)] [.ref w83.1.length, .int 27, .ref w.1.length] w85
  have F85 := F3_init e85.symm
  have l85 : w85.1.length = w.1.length + 113 := ln_sub F85.1 l84
  have s85 : pSl w85.1 = pSl w.1 + 3950 := ln_sub F85.2.1 s84
  have z85_0 : w85.1[a0]? = some (0, 3) := by exact F85.2.2.1 _ _ z84_0
  have z85_1 : w85.1[w.1.length]? = some (16, 30) := by exact F85.2.2.1 _ _ z84_1
  have z85_2 : w85.1[w83.1.length]? = some (3, 6) := by exact F85.2.2.1 _ _ z84_n
  have o85_0 : w85.2.2.2 a0 0 = some w.1.length := by rw [F85.2.2.2 _ _ _ z84_0 (ne_z z84_0 z84_n (by decide))]; exact o84_0
  obtain ⟨w86, e86, h⟩ := blE h
  refine oi_aast (N := 27) dX0_init_33 z85_1 (Or.inl ⟨rfl, rfl⟩) z85_2 (by unfold vp_in; decide) (by decide) e86 ?_
  have l86 : w86.1.length = w.1.length + 113 := by rw [e86]; exact l85
  have s86 : pSl w86.1 = pSl w.1 + 3950 := by rw [e86]; exact s85
  have z86_0 : w86.1[a0]? = some (0, 3) := by rw [e86]; exact z85_0
  have z86_1 : w86.1[w.1.length]? = some (16, 30) := by rw [e86]; exact z85_1
  have o86_0 : w86.2.2.2 a0 0 = some w.1.length := by rw [e86, o_R (Or.inl (ne_z z85_0 z85_1 (by decide)))]; exact o85_0
  refine ok_iinc (u := 28) (l' := [(1, .int 28), (0, .ref a0)]) dX0_init_34 0 rfl (by decide) (Nat.le_of_ble_eq_true rfl) rfl ?_
  refine ok_goto (t := 15) dX0_init_37 (by decide) ?_
  refine ok_iload_n dX0_init_15 0 rfl ?_
  refine ok_bipush (v := 30) dX0_init_16 (by decide) ?_
  refine ok_icmp_ge (t := 40) dX0_init_18 (by decide) (fun q => absurd q (by decide)) (fun _ => ?_)
  refine ok_aload_n dX0_init_21 1 rfl ?_
  refine oi_getR (ci := 0) (k := 0) dX0_init_22 flRX0_11 rfl z86_0 (by decide) o86_0 ?_
  refine ok_iload_n dX0_init_25 0 rfl ?_
  obtain ⟨w87, e87, h⟩ := blE h
  refine oi_new (ci := 3) (q := (RX3, TX3, 6)) dX0_init_26 rfl (tb_i (c := Cond.classLink RX0 9 RX3) 110 (by decide +kernel)) (b_len (mc := 121) l86 hL (by decide)) (b_c1 (mc := 121) l86 (by decide)) (b_s1 (N := 6) (ms := 4230) s86 (by decide)) e87 ?_
  have l87 : w87.1.length = w.1.length + 114 := ln_new e87 l86
  have s87 : pSl w87.1 = pSl w.1 + 3956 := sn_new e87 s86
  have z87_0 : w87.1[a0]? = some (0, 3) := by rw [e87]; exact z_new z86_0
  have z87_1 : w87.1[w.1.length]? = some (16, 30) := by rw [e87]; exact z_new z86_1
  have z87_n : w87.1[w86.1.length]? = some (3, 6) := by rw [e87]; exact z_at _ _
  have o87_0 : w87.2.2.2 a0 0 = some w.1.length := by rw [e87, o_new z86_0]; exact o86_0
  refine ok_dup dX0_init_29 rfl ?_
  refine ok_callI (d := (d + 0 + 2)) (mt := m3_init) (mc := 3) (ms := 134) (a := w86.1.length) (As := []) (r := [.ref w86.1.length, .int 28, .ref w.1.length]) dX0_init_30 mo3_init mv3_init lkRX0_17 rfl rfl (Nat.le_of_ble_eq_true rfl) (dep_le d (by decide)) (b_cm (mc := 121) l87 (by decide)) (b_cm (mc := 4230) s87 (by decide)) ?_
  obtain ⟨w88, e88, h⟩ := blE h
  refine ki3_init (d + 0) z87_n (b_sub l87 hL (by decide)) e88.symm ?_
  show Ok g _ Qx 33 [(1, .int 28), (0, .ref a0)] [.ref w86.1.length, .int 28, .ref w.1.length] w88
  have F88 := F3_init e88.symm
  have l88 : w88.1.length = w.1.length + 117 := ln_sub F88.1 l87
  have s88 : pSl w88.1 = pSl w.1 + 4090 := ln_sub F88.2.1 s87
  have z88_0 : w88.1[a0]? = some (0, 3) := by exact F88.2.2.1 _ _ z87_0
  have z88_1 : w88.1[w.1.length]? = some (16, 30) := by exact F88.2.2.1 _ _ z87_1
  have z88_2 : w88.1[w86.1.length]? = some (3, 6) := by exact F88.2.2.1 _ _ z87_n
  have o88_0 : w88.2.2.2 a0 0 = some w.1.length := by rw [F88.2.2.2 _ _ _ z87_0 (ne_z z87_0 z87_n (by decide))]; exact o87_0
  obtain ⟨w89, e89, h⟩ := blE h
  refine oi_aast (N := 28) dX0_init_33 z88_1 (Or.inl ⟨rfl, rfl⟩) z88_2 (by unfold vp_in; decide) (by decide) e89 ?_
  have l89 : w89.1.length = w.1.length + 117 := by rw [e89]; exact l88
  have s89 : pSl w89.1 = pSl w.1 + 4090 := by rw [e89]; exact s88
  have z89_0 : w89.1[a0]? = some (0, 3) := by rw [e89]; exact z88_0
  have z89_1 : w89.1[w.1.length]? = some (16, 30) := by rw [e89]; exact z88_1
  have o89_0 : w89.2.2.2 a0 0 = some w.1.length := by rw [e89, o_R (Or.inl (ne_z z88_0 z88_1 (by decide)))]; exact o88_0
  refine ok_iinc (u := 29) (l' := [(1, .int 29), (0, .ref a0)]) dX0_init_34 0 rfl (by decide) (Nat.le_of_ble_eq_true rfl) rfl ?_
  refine ok_goto (t := 15) dX0_init_37 (by decide) ?_
  refine ok_iload_n dX0_init_15 0 rfl ?_
  refine ok_bipush (v := 30) dX0_init_16 (by decide) ?_
  refine ok_icmp_ge (t := 40) dX0_init_18 (by decide) (fun q => absurd q (by decide)) (fun _ => ?_)
  refine ok_aload_n dX0_init_21 1 rfl ?_
  refine oi_getR (ci := 0) (k := 0) dX0_init_22 flRX0_11 rfl z89_0 (by decide) o89_0 ?_
  refine ok_iload_n dX0_init_25 0 rfl ?_
  obtain ⟨w90, e90, h⟩ := blE h
  refine oi_new (ci := 3) (q := (RX3, TX3, 6)) dX0_init_26 rfl (tb_i (c := Cond.classLink RX0 9 RX3) 110 (by decide +kernel)) (b_len (mc := 121) l89 hL (by decide)) (b_c1 (mc := 121) l89 (by decide)) (b_s1 (N := 6) (ms := 4230) s89 (by decide)) e90 ?_
  have l90 : w90.1.length = w.1.length + 118 := ln_new e90 l89
  have s90 : pSl w90.1 = pSl w.1 + 4096 := sn_new e90 s89
  have z90_0 : w90.1[a0]? = some (0, 3) := by rw [e90]; exact z_new z89_0
  have z90_1 : w90.1[w.1.length]? = some (16, 30) := by rw [e90]; exact z_new z89_1
  have z90_n : w90.1[w89.1.length]? = some (3, 6) := by rw [e90]; exact z_at _ _
  have o90_0 : w90.2.2.2 a0 0 = some w.1.length := by rw [e90, o_new z89_0]; exact o89_0
  refine ok_dup dX0_init_29 rfl ?_
  refine ok_callI (d := (d + 0 + 2)) (mt := m3_init) (mc := 3) (ms := 134) (a := w89.1.length) (As := []) (r := [.ref w89.1.length, .int 29, .ref w.1.length]) dX0_init_30 mo3_init mv3_init lkRX0_17 rfl rfl (Nat.le_of_ble_eq_true rfl) (dep_le d (by decide)) (b_cm (mc := 121) l90 (by decide)) (b_cm (mc := 4230) s90 (by decide)) ?_
  obtain ⟨w91, e91, h⟩ := blE h
  refine ki3_init (d + 0) z90_n (b_sub l90 hL (by decide)) e91.symm ?_
  show Ok g _ Qx 33 [(1, .int 29), (0, .ref a0)] [.ref w89.1.length, .int 29, .ref w.1.length] w91
  have F91 := F3_init e91.symm
  have l91 : w91.1.length = w.1.length + 121 := ln_sub F91.1 l90
  have s91 : pSl w91.1 = pSl w.1 + 4230 := ln_sub F91.2.1 s90
  have z91_0 : w91.1[a0]? = some (0, 3) := by exact F91.2.2.1 _ _ z90_0
  have z91_1 : w91.1[w.1.length]? = some (16, 30) := by exact F91.2.2.1 _ _ z90_1
  have z91_2 : w91.1[w89.1.length]? = some (3, 6) := by exact F91.2.2.1 _ _ z90_n
  have o91_0 : w91.2.2.2 a0 0 = some w.1.length := by rw [F91.2.2.2 _ _ _ z90_0 (ne_z z90_0 z90_n (by decide))]; exact o90_0
  obtain ⟨w92, e92, h⟩ := blE h
  refine oi_aast (N := 29) dX0_init_33 z91_1 (Or.inl ⟨rfl, rfl⟩) z91_2 (by unfold vp_in; decide) (by decide) e92 ?_
  have l92 : w92.1.length = w.1.length + 121 := by rw [e92]; exact l91
  have s92 : pSl w92.1 = pSl w.1 + 4230 := by rw [e92]; exact s91
  have z92_0 : w92.1[a0]? = some (0, 3) := by rw [e92]; exact z91_0
  have z92_1 : w92.1[w.1.length]? = some (16, 30) := by rw [e92]; exact z91_1
  have o92_0 : w92.2.2.2 a0 0 = some w.1.length := by rw [e92, o_R (Or.inl (ne_z z91_0 z91_1 (by decide)))]; exact o91_0
  refine ok_iinc (u := 30) (l' := [(1, .int 30), (0, .ref a0)]) dX0_init_34 0 rfl (by decide) (Nat.le_of_ble_eq_true rfl) rfl ?_
  refine ok_goto (t := 15) dX0_init_37 (by decide) ?_
  refine ok_iload_n dX0_init_15 0 rfl ?_
  refine ok_bipush (v := 30) dX0_init_16 (by decide) ?_
  refine ok_icmp_ge (t := 40) dX0_init_18 (by decide) (fun _ => ?_) (fun q => absurd (by decide) q)
  subst h
  exact ok_vret dX0_init_40 hQ
theorem ki0_init {g : pG} {Q : Option Value → pW → Prop} {w wf : pW} {a0 : Nat} (d : Nat) (hz0 : w.1[a0]? = some (0, 3)) (hL : w.1.length + 121 ≤ 1000) (h : i0_init a0 w = wf) (hQ : Q none wf) : CT g (d + 3) m0_init 121 4230 [.ref a0] w Q :=
  ct_of_ok (mt := m0_init) (ini := true) mo0_init.2.2.2.2 (fun _ => rfl) (Nat.le_of_ble_eq_true rfl) (oi0_init d hz0 hL h ⟨trivial, hQ, (F0_init h).1, (F0_init h).2.1⟩)
theorem lkRX9_3 : Cond.methodLink RX9 3 objectInit ∈ lw_tbl := tb_i 35 (by decide +kernel)
theorem lkRX9_11 : Cond.methodLink RX9 11 yX10_init ∈ lw_tbl := tb_i 38 (by decide +kernel)
theorem lkRX9_20 : Cond.methodLink RX9 20 yX0_init ∈ lw_tbl := tb_i 106 (by decide +kernel)
theorem dX9_init_0 : decode cX9_init 0 = .ok (.aload_n 0, 1) := by decide +kernel
theorem dX9_init_1 : decode cX9_init 1 = .ok (.invokespecial 3, 3) := by decide +kernel
theorem dX9_init_4 : decode cX9_init 4 = .ok (.aload_n 0, 1) := by decide +kernel
theorem dX9_init_5 : decode cX9_init 5 = .ok (.new 9, 3) := by decide +kernel
theorem dX9_init_8 : decode cX9_init 8 = .ok (.dup, 1) := by decide +kernel
theorem dX9_init_9 : decode cX9_init 9 = .ok (.invokespecial 11, 3) := by decide +kernel
theorem dX9_init_12 : decode cX9_init 12 = .ok (.putfield 12, 3) := by decide +kernel
theorem dX9_init_15 : decode cX9_init 15 = .ok (.aload_n 0, 1) := by decide +kernel
theorem dX9_init_16 : decode cX9_init 16 = .ok (.new 18, 3) := by decide +kernel
theorem dX9_init_19 : decode cX9_init 19 = .ok (.dup, 1) := by decide +kernel
theorem dX9_init_20 : decode cX9_init 20 = .ok (.invokespecial 20, 3) := by decide +kernel
theorem dX9_init_23 : decode cX9_init 23 = .ok (.putfield 21, 3) := by decide +kernel
theorem dX9_init_26 : decode cX9_init 26 = .ok (.aload_n 0, 1) := by decide +kernel
theorem dX9_init_27 : decode cX9_init 27 = .ok (.bipush 8, 2) := by decide +kernel
theorem dX9_init_29 : decode cX9_init 29 = .ok (.newarray .int, 2) := by decide +kernel
theorem dX9_init_31 : decode cX9_init 31 = .ok (.putfield 25, 3) := by decide +kernel
theorem dX9_init_34 : decode cX9_init 34 = .ok (.aload_n 0, 1) := by decide +kernel
theorem dX9_init_35 : decode cX9_init 35 = .ok (.bipush 8, 2) := by decide +kernel
theorem dX9_init_37 : decode cX9_init 37 = .ok (.newarray .int, 2) := by decide +kernel
theorem dX9_init_39 : decode cX9_init 39 = .ok (.putfield 29, 3) := by decide +kernel
theorem dX9_init_42 : decode cX9_init 42 = .ok (.aload_n 0, 1) := by decide +kernel
theorem dX9_init_43 : decode cX9_init 43 = .ok (.bipush 8, 2) := by decide +kernel
theorem dX9_init_45 : decode cX9_init 45 = .ok (.newarray .int, 2) := by decide +kernel
theorem dX9_init_47 : decode cX9_init 47 = .ok (.putfield 32, 3) := by decide +kernel
theorem dX9_init_50 : decode cX9_init 50 = .ok (.aload_n 0, 1) := by decide +kernel
theorem dX9_init_51 : decode cX9_init 51 = .ok (.bipush 8, 2) := by decide +kernel
theorem dX9_init_53 : decode cX9_init 53 = .ok (.newarray .int, 2) := by decide +kernel
theorem dX9_init_55 : decode cX9_init 55 = .ok (.putfield 35, 3) := by decide +kernel
theorem dX9_init_58 : decode cX9_init 58 = .ok (.aload_n 0, 1) := by decide +kernel
theorem dX9_init_59 : decode cX9_init 59 = .ok (.iconst (-1), 1) := by decide +kernel
theorem dX9_init_60 : decode cX9_init 60 = .ok (.putfield 38, 3) := by decide +kernel
theorem dX9_init_63 : decode cX9_init 63 = .ok (.return_, 1) := by decide +kernel
def m9_init : pMT := (yX9_init, cX9_init, 1, none)
theorem mo9_init : mOK m9_init 0 := ⟨tb_i 34 (by decide +kernel), wi_RX9, ⟨wn_RX9.1, wn_RX9.2, by decide +kernel⟩, by decide, plainFor_of_name wp_RX9⟩
theorem mv9_init : mI m9_init := ⟨tb_i 33 (by decide +kernel), rfl, rfl⟩
def i9_init (a0 : Nat) (w : pW) : pW := bl (pNew w (10, 5)) fun w1 => bl (i10_init w.1.length w1) fun w2 => bl (wR w2 a0 0 w.1.length) fun w3 => bl (pNew w3 (0, 3)) fun w4 => bl (i0_init w3.1.length w4) fun w5 => bl (wR w5 a0 1 w3.1.length) fun w6 => bl (pNew w6 (13, 8)) fun w7 => bl (wR w7 a0 2 w6.1.length) fun w8 => bl (pNew w8 (13, 8)) fun w9 => bl (wR w9 a0 3 w8.1.length) fun w10 => bl (pNew w10 (13, 8)) fun w11 => bl (wR w11 a0 4 w10.1.length) fun w12 => bl (pNew w12 (13, 8)) fun w13 => bl (wR w13 a0 5 w12.1.length) fun w14 => bl (wI w14 a0 9 (-1)) fun w15 => w15
set_option maxHeartbeats 4000000 in
set_option maxRecDepth 20000 in
theorem F9_init {a0 : Nat} {w wf : pW} (h : i9_init a0 w = wf) : wf.1.length = w.1.length + 133 ∧ pSl wf.1 = pSl w.1 + 4495 ∧ (∀ (c : Nat) (q : Nat × Nat), w.1[c]? = some q → wf.1[c]? = some q) ∧ ∀ (c k : Nat) (q : Nat × Nat), w.1[c]? = some q → c ≠ a0 → wf.2.2.2 c k = w.2.2.2 c k := by
  unfold i9_init at h
  have P0 : (w.1.length = w.1.length + 0 ∧ pSl w.1 = pSl w.1 + 0) ∧ (∀ (c : Nat) (q : Nat × Nat), w.1[c]? = some q → w.1[c]? = some q) ∧ ∀ (c k : Nat) (q : Nat × Nat), w.1[c]? = some q → c ≠ a0 → w.2.2.2 c k = w.2.2.2 c k := ⟨⟨rfl, rfl⟩, fun _ _ h => h, fun _ _ _ _ _ => rfl⟩
  obtain ⟨w1, e1, h⟩ := blE h
  have P1 : (w1.1.length = w.1.length + 1 ∧ pSl w1.1 = pSl w.1 + 5) ∧ (∀ (c : Nat) (q : Nat × Nat), w.1[c]? = some q → w1.1[c]? = some q) ∧ ∀ (c k : Nat) (q : Nat × Nat), w.1[c]? = some q → c ≠ a0 → w1.2.2.2 c k = w.2.2.2 c k := pf_new P0 e1
  obtain ⟨w2, e2, h⟩ := blE h
  have P2 : (w2.1.length = w.1.length + 7 ∧ pSl w2.1 = pSl w.1 + 230) ∧ (∀ (c : Nat) (q : Nat × Nat), w.1[c]? = some q → w2.1[c]? = some q) ∧ ∀ (c k : Nat) (q : Nat × Nat), w.1[c]? = some q → c ≠ a0 → w2.2.2.2 c k = w.2.2.2 c k := pf_S P1 (F10_init e2.symm) (fun c q hc => pf_ne P0 hc)
  obtain ⟨w3, e3, h⟩ := blE h
  have P3 : (w3.1.length = w.1.length + 7 ∧ pSl w3.1 = pSl w.1 + 230) ∧ (∀ (c : Nat) (q : Nat × Nat), w.1[c]? = some q → w3.1[c]? = some q) ∧ ∀ (c k : Nat) (q : Nat × Nat), w.1[c]? = some q → c ≠ a0 → w3.2.2.2 c k = w.2.2.2 c k := pf_R P2 e3 (fun c q hc => Or.inl rfl)
  obtain ⟨w4, e4, h⟩ := blE h
  have P4 : (w4.1.length = w.1.length + 8 ∧ pSl w4.1 = pSl w.1 + 233) ∧ (∀ (c : Nat) (q : Nat × Nat), w.1[c]? = some q → w4.1[c]? = some q) ∧ ∀ (c k : Nat) (q : Nat × Nat), w.1[c]? = some q → c ≠ a0 → w4.2.2.2 c k = w.2.2.2 c k := pf_new P3 e4
  obtain ⟨w5, e5, h⟩ := blE h
  have P5 : (w5.1.length = w.1.length + 129 ∧ pSl w5.1 = pSl w.1 + 4463) ∧ (∀ (c : Nat) (q : Nat × Nat), w.1[c]? = some q → w5.1[c]? = some q) ∧ ∀ (c k : Nat) (q : Nat × Nat), w.1[c]? = some q → c ≠ a0 → w5.2.2.2 c k = w.2.2.2 c k := pf_S P4 (F0_init e5.symm) (fun c q hc => pf_ne P3 hc)
  obtain ⟨w6, e6, h⟩ := blE h
  have P6 : (w6.1.length = w.1.length + 129 ∧ pSl w6.1 = pSl w.1 + 4463) ∧ (∀ (c : Nat) (q : Nat × Nat), w.1[c]? = some q → w6.1[c]? = some q) ∧ ∀ (c k : Nat) (q : Nat × Nat), w.1[c]? = some q → c ≠ a0 → w6.2.2.2 c k = w.2.2.2 c k := pf_R P5 e6 (fun c q hc => Or.inl rfl)
  obtain ⟨w7, e7, h⟩ := blE h
  have P7 : (w7.1.length = w.1.length + 130 ∧ pSl w7.1 = pSl w.1 + 4471) ∧ (∀ (c : Nat) (q : Nat × Nat), w.1[c]? = some q → w7.1[c]? = some q) ∧ ∀ (c k : Nat) (q : Nat × Nat), w.1[c]? = some q → c ≠ a0 → w7.2.2.2 c k = w.2.2.2 c k := pf_new P6 e7
  obtain ⟨w8, e8, h⟩ := blE h
  have P8 : (w8.1.length = w.1.length + 130 ∧ pSl w8.1 = pSl w.1 + 4471) ∧ (∀ (c : Nat) (q : Nat × Nat), w.1[c]? = some q → w8.1[c]? = some q) ∧ ∀ (c k : Nat) (q : Nat × Nat), w.1[c]? = some q → c ≠ a0 → w8.2.2.2 c k = w.2.2.2 c k := pf_R P7 e8 (fun c q hc => Or.inl rfl)
  obtain ⟨w9, e9, h⟩ := blE h
  have P9 : (w9.1.length = w.1.length + 131 ∧ pSl w9.1 = pSl w.1 + 4479) ∧ (∀ (c : Nat) (q : Nat × Nat), w.1[c]? = some q → w9.1[c]? = some q) ∧ ∀ (c k : Nat) (q : Nat × Nat), w.1[c]? = some q → c ≠ a0 → w9.2.2.2 c k = w.2.2.2 c k := pf_new P8 e9
  obtain ⟨w10, e10, h⟩ := blE h
  have P10 : (w10.1.length = w.1.length + 131 ∧ pSl w10.1 = pSl w.1 + 4479) ∧ (∀ (c : Nat) (q : Nat × Nat), w.1[c]? = some q → w10.1[c]? = some q) ∧ ∀ (c k : Nat) (q : Nat × Nat), w.1[c]? = some q → c ≠ a0 → w10.2.2.2 c k = w.2.2.2 c k := pf_R P9 e10 (fun c q hc => Or.inl rfl)
  obtain ⟨w11, e11, h⟩ := blE h
  have P11 : (w11.1.length = w.1.length + 132 ∧ pSl w11.1 = pSl w.1 + 4487) ∧ (∀ (c : Nat) (q : Nat × Nat), w.1[c]? = some q → w11.1[c]? = some q) ∧ ∀ (c k : Nat) (q : Nat × Nat), w.1[c]? = some q → c ≠ a0 → w11.2.2.2 c k = w.2.2.2 c k := pf_new P10 e11
  obtain ⟨w12, e12, h⟩ := blE h
  have P12 : (w12.1.length = w.1.length + 132 ∧ pSl w12.1 = pSl w.1 + 4487) ∧ (∀ (c : Nat) (q : Nat × Nat), w.1[c]? = some q → w12.1[c]? = some q) ∧ ∀ (c k : Nat) (q : Nat × Nat), w.1[c]? = some q → c ≠ a0 → w12.2.2.2 c k = w.2.2.2 c k := pf_R P11 e12 (fun c q hc => Or.inl rfl)
  obtain ⟨w13, e13, h⟩ := blE h
  have P13 : (w13.1.length = w.1.length + 133 ∧ pSl w13.1 = pSl w.1 + 4495) ∧ (∀ (c : Nat) (q : Nat × Nat), w.1[c]? = some q → w13.1[c]? = some q) ∧ ∀ (c k : Nat) (q : Nat × Nat), w.1[c]? = some q → c ≠ a0 → w13.2.2.2 c k = w.2.2.2 c k := pf_new P12 e13
  obtain ⟨w14, e14, h⟩ := blE h
  have P14 : (w14.1.length = w.1.length + 133 ∧ pSl w14.1 = pSl w.1 + 4495) ∧ (∀ (c : Nat) (q : Nat × Nat), w.1[c]? = some q → w14.1[c]? = some q) ∧ ∀ (c k : Nat) (q : Nat × Nat), w.1[c]? = some q → c ≠ a0 → w14.2.2.2 c k = w.2.2.2 c k := pf_R P13 e14 (fun c q hc => Or.inl rfl)
  obtain ⟨w15, e15, h⟩ := blE h
  have P15 : (w15.1.length = w.1.length + 133 ∧ pSl w15.1 = pSl w.1 + 4495) ∧ (∀ (c : Nat) (q : Nat × Nat), w.1[c]? = some q → w15.1[c]? = some q) ∧ ∀ (c k : Nat) (q : Nat × Nat), w.1[c]? = some q → c ≠ a0 → w15.2.2.2 c k = w.2.2.2 c k := pf_I P14 e15
  subst h
  exact ⟨P15.1.1, P15.1.2, P15.2⟩
set_option maxHeartbeats 4000000 in
set_option maxRecDepth 20000 in
theorem oi9_init {g : pG} {Qx : Option Value → pW → Prop} {w wf : pW} {a0 : Nat} (d : Nat) (hz0 : w.1[a0]? = some (9, 10)) (hL : w.1.length + 133 ≤ 1000) (h : i9_init a0 w = wf) (hQ : Qx none wf) : Ok g (d + 4, RX9, cX9_init, 1, true, 133, 4495, w.1.length, pSl w.1) Qx 0 [(0, .ref a0)] [] w := by
  unfold i9_init at h
  have l0 : w.1.length = w.1.length + 0 := rfl
  have s0 : pSl w.1 = pSl w.1 + 0 := rfl
  refine ok_aload_n dX9_init_0 0 rfl ?_
  refine ok_oinit dX9_init_1 lkRX9_3 (Nat.le_of_ble_eq_true rfl) (by show 1 ≤ d + _; omega) ?_
  refine ok_aload_n dX9_init_4 0 rfl ?_
  obtain ⟨w1, e1, h⟩ := blE h
  refine oi_new (ci := 10) (q := (RX10, TX10, 5)) dX9_init_5 rfl (tb_i (c := Cond.classLink RX9 9 RX10) 36 (by decide +kernel)) (b_len (mc := 133) l0 hL (by decide)) (b_c1 (mc := 133) l0 (by decide)) (b_s1 (N := 5) (ms := 4495) s0 (by decide)) e1 ?_
  have l1 : w1.1.length = w.1.length + 1 := ln_new e1 l0
  have s1 : pSl w1.1 = pSl w.1 + 5 := sn_new e1 s0
  have z1_0 : w1.1[a0]? = some (9, 10) := by rw [e1]; exact z_new hz0
  have z1_n : w1.1[w.1.length]? = some (10, 5) := by rw [e1]; exact z_at _ _
  refine ok_dup dX9_init_8 rfl ?_
  refine ok_callI (d := (d + 0 + 3)) (mt := m10_init) (mc := 6) (ms := 225) (a := w.1.length) (As := []) (r := [.ref w.1.length, .ref a0]) dX9_init_9 mo10_init mv10_init lkRX9_11 rfl rfl (Nat.le_of_ble_eq_true rfl) (dep_le d (by decide)) (b_cm (mc := 133) l1 (by decide)) (b_cm (mc := 4495) s1 (by decide)) ?_
  obtain ⟨w2, e2, h⟩ := blE h
  refine ki10_init (d + 0) z1_n (b_sub l1 hL (by decide)) e2.symm ?_
  show Ok g _ Qx 12 [(0, .ref a0)] [.ref w.1.length, .ref a0] w2
  have F2 := F10_init e2.symm
  have l2 : w2.1.length = w.1.length + 7 := ln_sub F2.1 l1
  have s2 : pSl w2.1 = pSl w.1 + 230 := ln_sub F2.2.1 s1
  have z2_0 : w2.1[a0]? = some (9, 10) := by exact F2.2.2.1 _ _ z1_0
  have z2_1 : w2.1[w.1.length]? = some (10, 5) := by exact F2.2.2.1 _ _ z1_n
  obtain ⟨w3, e3, h⟩ := blE h
  refine oi_putR (ci := 9) (k := 0) dX9_init_12 flRX9_12 rfl (Or.inl ⟨_, rfl⟩) (Or.inr ⟨rfl, rfl, rfl⟩) z2_0 (by decide) e3 ?_
  have l3 : w3.1.length = w.1.length + 7 := by rw [e3]; exact l2
  have s3 : pSl w3.1 = pSl w.1 + 230 := by rw [e3]; exact s2
  have z3_0 : w3.1[a0]? = some (9, 10) := by rw [e3]; exact z2_0
  refine ok_aload_n dX9_init_15 0 rfl ?_
  obtain ⟨w4, e4, h⟩ := blE h
  refine oi_new (ci := 0) (q := (RX0, TX0, 3)) dX9_init_16 rfl (tb_i (c := Cond.classLink RX9 18 RX0) 104 (by decide +kernel)) (b_len (mc := 133) l3 hL (by decide)) (b_c1 (mc := 133) l3 (by decide)) (b_s1 (N := 3) (ms := 4495) s3 (by decide)) e4 ?_
  have l4 : w4.1.length = w.1.length + 8 := ln_new e4 l3
  have s4 : pSl w4.1 = pSl w.1 + 233 := sn_new e4 s3
  have z4_0 : w4.1[a0]? = some (9, 10) := by rw [e4]; exact z_new z3_0
  have z4_n : w4.1[w3.1.length]? = some (0, 3) := by rw [e4]; exact z_at _ _
  refine ok_dup dX9_init_19 rfl ?_
  refine ok_callI (d := (d + 0 + 3)) (mt := m0_init) (mc := 121) (ms := 4230) (a := w3.1.length) (As := []) (r := [.ref w3.1.length, .ref a0]) dX9_init_20 mo0_init mv0_init lkRX9_20 rfl rfl (Nat.le_of_ble_eq_true rfl) (dep_le d (by decide)) (b_cm (mc := 133) l4 (by decide)) (b_cm (mc := 4495) s4 (by decide)) ?_
  obtain ⟨w5, e5, h⟩ := blE h
  refine ki0_init (d + 0) z4_n (b_sub l4 hL (by decide)) e5.symm ?_
  show Ok g _ Qx 23 [(0, .ref a0)] [.ref w3.1.length, .ref a0] w5
  have F5 := F0_init e5.symm
  have l5 : w5.1.length = w.1.length + 129 := ln_sub F5.1 l4
  have s5 : pSl w5.1 = pSl w.1 + 4463 := ln_sub F5.2.1 s4
  have z5_0 : w5.1[a0]? = some (9, 10) := by exact F5.2.2.1 _ _ z4_0
  have z5_1 : w5.1[w3.1.length]? = some (0, 3) := by exact F5.2.2.1 _ _ z4_n
  obtain ⟨w6, e6, h⟩ := blE h
  refine oi_putR (ci := 9) (k := 1) dX9_init_23 flRX9_21 rfl (Or.inl ⟨_, rfl⟩) (Or.inr ⟨rfl, rfl, rfl⟩) z5_0 (by decide) e6 ?_
  have l6 : w6.1.length = w.1.length + 129 := by rw [e6]; exact l5
  have s6 : pSl w6.1 = pSl w.1 + 4463 := by rw [e6]; exact s5
  have z6_0 : w6.1[a0]? = some (9, 10) := by rw [e6]; exact z5_0
  refine ok_aload_n dX9_init_26 0 rfl ?_
  refine ok_bipush (v := 8) dX9_init_27 (by decide) ?_
  obtain ⟨w7, e7, h⟩ := blE h
  refine oi_newa (kd := 13) (N := 8) dX9_init_29 rfl (Or.inl ⟨rfl, rfl⟩) wa_int (by decide) (by decide) (by decide) (b_len (mc := 133) l6 hL (by decide)) (b_c1 (mc := 133) l6 (by decide)) (b_s1 (ms := 4495) s6 (by decide)) e7 ?_
  have l7 : w7.1.length = w.1.length + 130 := ln_new e7 l6
  have s7 : pSl w7.1 = pSl w.1 + 4471 := sn_new e7 s6
  have z7_0 : w7.1[a0]? = some (9, 10) := by rw [e7]; exact z_new z6_0
  have z7_n : w7.1[w6.1.length]? = some (13, 8) := by rw [e7]; exact z_at _ _
  obtain ⟨w8, e8, h⟩ := blE h
  refine oi_putR (ci := 9) (k := 2) dX9_init_31 flRX9_25 rfl (Or.inr ⟨_, rfl⟩) (Or.inr ⟨rfl, rfl, rfl⟩) z7_0 (by decide) e8 ?_
  have l8 : w8.1.length = w.1.length + 130 := by rw [e8]; exact l7
  have s8 : pSl w8.1 = pSl w.1 + 4471 := by rw [e8]; exact s7
  have z8_0 : w8.1[a0]? = some (9, 10) := by rw [e8]; exact z7_0
  refine ok_aload_n dX9_init_34 0 rfl ?_
  refine ok_bipush (v := 8) dX9_init_35 (by decide) ?_
  obtain ⟨w9, e9, h⟩ := blE h
  refine oi_newa (kd := 13) (N := 8) dX9_init_37 rfl (Or.inl ⟨rfl, rfl⟩) wa_int (by decide) (by decide) (by decide) (b_len (mc := 133) l8 hL (by decide)) (b_c1 (mc := 133) l8 (by decide)) (b_s1 (ms := 4495) s8 (by decide)) e9 ?_
  have l9 : w9.1.length = w.1.length + 131 := ln_new e9 l8
  have s9 : pSl w9.1 = pSl w.1 + 4479 := sn_new e9 s8
  have z9_0 : w9.1[a0]? = some (9, 10) := by rw [e9]; exact z_new z8_0
  have z9_n : w9.1[w8.1.length]? = some (13, 8) := by rw [e9]; exact z_at _ _
  obtain ⟨w10, e10, h⟩ := blE h
  refine oi_putR (ci := 9) (k := 3) dX9_init_39 flRX9_29 rfl (Or.inr ⟨_, rfl⟩) (Or.inr ⟨rfl, rfl, rfl⟩) z9_0 (by decide) e10 ?_
  have l10 : w10.1.length = w.1.length + 131 := by rw [e10]; exact l9
  have s10 : pSl w10.1 = pSl w.1 + 4479 := by rw [e10]; exact s9
  have z10_0 : w10.1[a0]? = some (9, 10) := by rw [e10]; exact z9_0
  refine ok_aload_n dX9_init_42 0 rfl ?_
  refine ok_bipush (v := 8) dX9_init_43 (by decide) ?_
  obtain ⟨w11, e11, h⟩ := blE h
  refine oi_newa (kd := 13) (N := 8) dX9_init_45 rfl (Or.inl ⟨rfl, rfl⟩) wa_int (by decide) (by decide) (by decide) (b_len (mc := 133) l10 hL (by decide)) (b_c1 (mc := 133) l10 (by decide)) (b_s1 (ms := 4495) s10 (by decide)) e11 ?_
  have l11 : w11.1.length = w.1.length + 132 := ln_new e11 l10
  have s11 : pSl w11.1 = pSl w.1 + 4487 := sn_new e11 s10
  have z11_0 : w11.1[a0]? = some (9, 10) := by rw [e11]; exact z_new z10_0
  have z11_n : w11.1[w10.1.length]? = some (13, 8) := by rw [e11]; exact z_at _ _
  obtain ⟨w12, e12, h⟩ := blE h
  refine oi_putR (ci := 9) (k := 4) dX9_init_47 flRX9_32 rfl (Or.inr ⟨_, rfl⟩) (Or.inr ⟨rfl, rfl, rfl⟩) z11_0 (by decide) e12 ?_
  have l12 : w12.1.length = w.1.length + 132 := by rw [e12]; exact l11
  have s12 : pSl w12.1 = pSl w.1 + 4487 := by rw [e12]; exact s11
  have z12_0 : w12.1[a0]? = some (9, 10) := by rw [e12]; exact z11_0
  refine ok_aload_n dX9_init_50 0 rfl ?_
  refine ok_bipush (v := 8) dX9_init_51 (by decide) ?_
  obtain ⟨w13, e13, h⟩ := blE h
  refine oi_newa (kd := 13) (N := 8) dX9_init_53 rfl (Or.inl ⟨rfl, rfl⟩) wa_int (by decide) (by decide) (by decide) (b_len (mc := 133) l12 hL (by decide)) (b_c1 (mc := 133) l12 (by decide)) (b_s1 (ms := 4495) s12 (by decide)) e13 ?_
  have l13 : w13.1.length = w.1.length + 133 := ln_new e13 l12
  have s13 : pSl w13.1 = pSl w.1 + 4495 := sn_new e13 s12
  have z13_0 : w13.1[a0]? = some (9, 10) := by rw [e13]; exact z_new z12_0
  have z13_n : w13.1[w12.1.length]? = some (13, 8) := by rw [e13]; exact z_at _ _
  obtain ⟨w14, e14, h⟩ := blE h
  refine oi_putR (ci := 9) (k := 5) dX9_init_55 flRX9_35 rfl (Or.inr ⟨_, rfl⟩) (Or.inr ⟨rfl, rfl, rfl⟩) z13_0 (by decide) e14 ?_
  have l14 : w14.1.length = w.1.length + 133 := by rw [e14]; exact l13
  have s14 : pSl w14.1 = pSl w.1 + 4495 := by rw [e14]; exact s13
  have z14_0 : w14.1[a0]? = some (9, 10) := by rw [e14]; exact z13_0
  refine ok_aload_n dX9_init_58 0 rfl ?_
  refine ok_iconst (v := (-1)) dX9_init_59 (by decide) ?_
  obtain ⟨w15, e15, h⟩ := blE h
  refine oi_putI (ci := 9) (k := 9) dX9_init_60 flRX9_38 rfl (Or.inl rfl) z14_0 (by decide) e15 ?_
  have l15 : w15.1.length = w.1.length + 133 := by rw [e15]; exact l14
  have s15 : pSl w15.1 = pSl w.1 + 4495 := by rw [e15]; exact s14
  have z15_0 : w15.1[a0]? = some (9, 10) := by rw [e15]; exact z14_0
  subst h
  exact ok_vret dX9_init_63 hQ
theorem ki9_init {g : pG} {Q : Option Value → pW → Prop} {w wf : pW} {a0 : Nat} (d : Nat) (hz0 : w.1[a0]? = some (9, 10)) (hL : w.1.length + 133 ≤ 1000) (h : i9_init a0 w = wf) (hQ : Q none wf) : CT g (d + 4) m9_init 133 4495 [.ref a0] w Q :=
  ct_of_ok (mt := m9_init) (ini := true) mo9_init.2.2.2.2 (fun _ => rfl) (Nat.le_of_ble_eq_true rfl) (oi9_init d hz0 hL h ⟨trivial, hQ, (F9_init h).1, (F9_init h).2.1⟩)
