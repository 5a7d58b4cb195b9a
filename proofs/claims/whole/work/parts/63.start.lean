/-! the law from its entry: both objects are made, then its loop -/
def W0 (ls : Nat) (xs : Nat → Int32) : pW := ([(18, ls)], fun a => if a = 0 then xs else fun _ => 0, fun _ _ => 0, fun _ _ => none)
def WX (ls : Nat) (xs : Nat → Int32) : pW := i11_init 1 (pNew (W0 ls xs) (11, 11))
def aMo : Nat := 331
def WM (ls : Nat) (xs : Nat → Int32) : pW := i12_pre aMo (pNew (WX ls xs) (12, 34))
theorem WX_len (ls : Nat) (xs : Nat → Int32) : (WX ls xs).1.length = aMo := (F11_init (a0 := 1) (w := pNew (W0 ls xs) (11, 11)) rfl).1
theorem WX_sl (ls : Nat) (xs : Nat → Int32) : pSl (WX ls xs).1 = ls + 11 + 13540 := (F11_init (a0 := 1) (w := pNew (W0 ls xs) (11, 11)) rfl).2.1
theorem WM_len (ls : Nat) (xs : Nat → Int32) : (WM ls xs).1.length = aMo + 1 + 16 := by
  have h := (F12_pre (a0 := aMo) (w := pNew (WX ls xs) (12, 34)) rfl).1
  rw [len_new, WX_len] at h
  exact h
theorem WM_sl (ls : Nat) (xs : Nat → Int32) : pSl (WM ls xs).1 = ls + 11 + 13540 + 34 + 14661 := by
  have h := (F12_pre (a0 := aMo) (w := pNew (WX ls xs) (12, 34)) rfl).2.1
  have t : pSl (pNew (WX ls xs) (12, 34)).1 = pSl (WX ls xs).1 + 34 := sl_new _ _
  rw [t, WX_sl] at h
  exact h
theorem WX_X (ls : Nat) (xs : Nat → Int32) : (WX ls xs).1[1]? = some (11, 11) := (F11_init (a0 := 1) (w := pNew (W0 ls xs) (11, 11)) rfl).2.2.1 _ _ rfl
theorem WM_X (ls : Nat) (xs : Nat → Int32) : (WM ls xs).1[1]? = some (11, 11) := (F12_pre (a0 := aMo) (w := pNew (WX ls xs) (12, 34)) rfl).2.2.1 _ _ (z_new (WX_X ls xs))
theorem W3_M (ls : Nat) (xs : Nat → Int32) : (pNew (WX ls xs) (12, 34)).1[aMo]? = some (12, 34) := by
  have h := z_at (WX ls xs) (12, 34)
  rw [WX_len] at h
  exact h
theorem WM_M (ls : Nat) (xs : Nat → Int32) : (WM ls xs).1[aMo]? = some (12, 34) := (F12_pre (a0 := aMo) (w := pNew (WX ls xs) (12, 34)) rfl).2.2.1 _ _ (W3_M ls xs)
set_option maxHeartbeats 4000000 in
set_option maxRecDepth 20000 in
theorem law_start {g : pG} {Qx : Option Value → pW → Prop} {n : Nat} {I2 : (Nat → Nat → Int32)} {R : (Nat → Nat → Int32) → (Nat → Nat → Int64) → (Nat → Nat → Option Nat) → Prop} (hStr : StrOK g) (hgL : gL g ≤ 3072) (hW : WT (WM (gL g) (gx g)).1 (WM (gL g) (gx g)).2.2.2) (hc : f12_copy n (WM (gL g) (gx g)).2.1 (rO (WM (gL g) (gx g)).2.2.2 aMo 0) (rO (WM (gL g) (gx g)).2.2.2 aMo 1) = some I2) (S : AllSt n 1 aMo R) (hWT : ∀ I L O, R I L O → WT (WM (gL g) (gx g)).1 O) (hR : R I2 (WM (gL g) (gx g)).2.2.1 (WM (gL g) (gx g)).2.2.2) (hQ : ∀ I L O, R I L O → Qx (some (.int 1)) ((WM (gL g) (gx g)).1, I, L, O)) : Ok g (400, RL, cL_law, 4, false, 600000, 7302250, 1, gL g) Qx 0 [(0, .ref 0)] [] (W0 (gL g) (gx g)) := by
  have l0 : (W0 (gL g) (gx g)).1.length = 1 := rfl
  have s0 : pSl (W0 (gL g) (gx g)).1 = gL g := rfl
  refine oi_new (ci := 11) (q := (RX11, TX11, 11)) (w' := pNew (W0 (gL g) (gx g)) (11, 11)) dL_law_0 rfl (tb_i (c := Cond.classLink RL 7 RX11) 22 (by decide +kernel)) (by omega) (by show _ ≤ 1 + 600000; omega) (by show pSl _ + 11 ≤ gL g + 7302250; omega) rfl ?_
  have l1 : (pNew (W0 (gL g) (gx g)) (11, 11)).1.length = 2 := rfl
  have s1 : pSl (pNew (W0 (gL g) (gx g)) (11, 11)).1 = gL g + 11 := rfl
  refine ok_dup dL_law_3 rfl ?_
  refine ok_callI (d := (394 + 5)) (mt := m11_init) (mc := 329) (ms := 13540) (a := 1) (As := []) (r := [.ref 1]) dL_law_4 mo11_init mv11_init lkRL_9 rfl rfl (Nat.le_of_ble_eq_true rfl) (Nat.le_of_ble_eq_true rfl) (by show _ ≤ 1 + 600000; omega) (by show _ ≤ gL g + 7302250; omega) ?_
  refine ki11_init 394 (wf := WX (gL g) (gx g)) rfl (by omega) rfl ?_
  show Ok g _ Qx 7 [(0, .ref 0)] [.ref 1] (WX (gL g) (gx g))
  refine ok_astore_n (l' := [(1, .ref 1), (0, .ref 0)]) dL_law_7 rfl (Nat.le_of_ble_eq_true rfl) rfl ?_
  have l2 := WX_len (gL g) (gx g)
  have l2' : aMo = 331 := rfl
  have s2 := WX_sl (gL g) (gx g)
  refine oi_new (ci := 12) (q := (RX12, TX12, 34)) (w' := pNew (WX (gL g) (gx g)) (12, 34)) dL_law_8 rfl (tb_i (c := Cond.classLink RL 10 RX12) 1296 (by decide +kernel)) (by omega) (by show _ ≤ 1 + 600000; omega) (by show pSl _ + 34 ≤ gL g + 7302250; omega) rfl ?_
  rw [l2]
  have l3 : (pNew (WX (gL g) (gx g)) (12, 34)).1.length = 331 + 1 := by rw [len_new, l2, l2']
  have s3 : pSl (pNew (WX (gL g) (gx g)) (12, 34)).1 = gL g + 11 + 13540 + 34 := by
    have t : pSl (pNew (WX (gL g) (gx g)) (12, 34)).1 = pSl (WX (gL g) (gx g)).1 + 34 := sl_new _ _
    omega
  refine ok_dup dL_law_11 rfl ?_
  refine ok_callI (d := (396 + 3)) (mt := m12_init) (mc := 16) (ms := 14661) (a := aMo) (As := []) (r := [.ref aMo]) dL_law_12 mo12_init mv12_init lkRL_12 rfl rfl (Nat.le_of_ble_eq_true rfl) (Nat.le_of_ble_eq_true rfl) (by show _ ≤ 1 + 600000; omega) (by show _ ≤ gL g + 7302250; omega) ?_
  refine ki12_init 396 (wf := WM (gL g) (gx g)) (W3_M (gL g) (gx g)) (by omega) rfl hW hc ?_
  show Ok g _ Qx 15 [(1, .ref 1), (0, .ref 0)] [.ref aMo] ((WM (gL g) (gx g)).1, I2, (WM (gL g) (gx g)).2.2.1, (WM (gL g) (gx g)).2.2.2)
  refine ok_astore_n (l' := [(2, .ref aMo), (1, .ref 1), (0, .ref 0)]) dL_law_15 rfl (Nat.le_of_ble_eq_true rfl) rfl ?_
  refine ok_iconst (v := 0) dL_law_16 (by decide) ?_
  refine ok_istore_n (l' := [(3, .int 0), (2, .ref aMo), (1, .ref 1), (0, .ref 0)]) dL_law_17 rfl (Nat.le_of_ble_eq_true rfl) rfl ?_
  refine ok_sub [3, 2, 1, 0] rfl ?_
  have l4 := WM_len (gL g) (gx g)
  have s4 := WM_sl (gL g) (gx g)
  exact law_loop hWT hStr (WM_X (gL g) (gx g)) (WM_M (gL g) (gx g)) (by omega) (by omega) S hgL hQ (gL g + 6) 0 _ _ _ (by omega) (by omega) hR
