theorem dJ7_fill_d0a16_0 : decode cJ7_fill_d0a16 0 = .ok (.iconst 0, 1) := by decide +kernel
theorem dJ7_fill_d0a16_1 : decode cJ7_fill_d0a16 1 = .ok (.istore_n 3, 1) := by decide +kernel
theorem dJ7_fill_d0a16_2 : decode cJ7_fill_d0a16 2 = .ok (.aload_n 0, 1) := by decide +kernel
theorem dJ7_fill_d0a16_3 : decode cJ7_fill_d0a16 3 = .ok (.arraylength, 1) := by decide +kernel
theorem dJ7_fill_d0a16_4 : decode cJ7_fill_d0a16 4 = .ok (.istore 4, 2) := by decide +kernel
theorem dJ7_fill_d0a16_6 : decode cJ7_fill_d0a16 6 = .ok (.iload_n 3, 1) := by decide +kernel
theorem dJ7_fill_d0a16_7 : decode cJ7_fill_d0a16 7 = .ok (.iload 4, 2) := by decide +kernel
theorem dJ7_fill_d0a16_9 : decode cJ7_fill_d0a16 9 = .ok (.if_icmp .ge 13, 3) := by decide +kernel
theorem dJ7_fill_d0a16_12 : decode cJ7_fill_d0a16 12 = .ok (.aload_n 0, 1) := by decide +kernel
theorem dJ7_fill_d0a16_13 : decode cJ7_fill_d0a16 13 = .ok (.iload_n 3, 1) := by decide +kernel
theorem dJ7_fill_d0a16_14 : decode cJ7_fill_d0a16 14 = .ok (.lload_n 1, 1) := by decide +kernel
theorem dJ7_fill_d0a16_15 : decode cJ7_fill_d0a16 15 = .ok (.lastore, 1) := by decide +kernel
theorem dJ7_fill_d0a16_16 : decode cJ7_fill_d0a16 16 = .ok (.iinc 3 1, 3) := by decide +kernel
theorem dJ7_fill_d0a16_19 : decode cJ7_fill_d0a16 19 = .ok (.goto (-13), 3) := by decide +kernel
theorem dJ7_fill_d0a16_22 : decode cJ7_fill_d0a16 22 = .ok (.return_, 1) := by decide +kernel
theorem wi_RJ7 : Cond.initialized RJ7 ∈ lw_tbl := tb_i 19 (by decide +kernel)
theorem wn_RJ7 : RJ7 ≠ "java/lang/invoke/MethodHandle" ∧ RJ7 ≠ "java/lang/invoke/VarHandle" := ⟨by decide +kernel, by decide +kernel⟩
def mJ7_fill_d0a16 : pMT := (yJ7_fill_d0a16, cJ7_fill_d0a16, 5, none)
theorem moJ7_fill_d0a16 : mOK mJ7_fill_d0a16 2 := ⟨tb_i 1200 (by decide +kernel), wi_RJ7, ⟨wn_RJ7.1, wn_RJ7.2, by decide +kernel⟩, by decide, by decide +kernel⟩
theorem mvJ7_fill_d0a16 : mS mJ7_fill_d0a16 := (tb_i 1199 (by decide +kernel) : Cond.static yJ7_fill_d0a16 ∈ lw_tbl)
theorem dJ7_fill_53178_0 : decode cJ7_fill_53178 0 = .ok (.iconst 0, 1) := by decide +kernel
theorem dJ7_fill_53178_1 : decode cJ7_fill_53178 1 = .ok (.istore_n 2, 1) := by decide +kernel
theorem dJ7_fill_53178_2 : decode cJ7_fill_53178 2 = .ok (.aload_n 0, 1) := by decide +kernel
theorem dJ7_fill_53178_3 : decode cJ7_fill_53178 3 = .ok (.arraylength, 1) := by decide +kernel
theorem dJ7_fill_53178_4 : decode cJ7_fill_53178 4 = .ok (.istore_n 3, 1) := by decide +kernel
theorem dJ7_fill_53178_5 : decode cJ7_fill_53178 5 = .ok (.iload_n 2, 1) := by decide +kernel
theorem dJ7_fill_53178_6 : decode cJ7_fill_53178 6 = .ok (.iload_n 3, 1) := by decide +kernel
theorem dJ7_fill_53178_7 : decode cJ7_fill_53178 7 = .ok (.if_icmp .ge 13, 3) := by decide +kernel
theorem dJ7_fill_53178_10 : decode cJ7_fill_53178 10 = .ok (.aload_n 0, 1) := by decide +kernel
theorem dJ7_fill_53178_11 : decode cJ7_fill_53178 11 = .ok (.iload_n 2, 1) := by decide +kernel
theorem dJ7_fill_53178_12 : decode cJ7_fill_53178 12 = .ok (.iload_n 1, 1) := by decide +kernel
theorem dJ7_fill_53178_13 : decode cJ7_fill_53178 13 = .ok (.iastore, 1) := by decide +kernel
theorem dJ7_fill_53178_14 : decode cJ7_fill_53178 14 = .ok (.iinc 2 1, 3) := by decide +kernel
theorem dJ7_fill_53178_17 : decode cJ7_fill_53178 17 = .ok (.goto (-12), 3) := by decide +kernel
theorem dJ7_fill_53178_20 : decode cJ7_fill_53178 20 = .ok (.return_, 1) := by decide +kernel
def mJ7_fill_53178 : pMT := (yJ7_fill_53178, cJ7_fill_53178, 4, none)
theorem moJ7_fill_53178 : mOK mJ7_fill_53178 2 := ⟨tb_i 540 (by decide +kernel), wi_RJ7, ⟨wn_RJ7.1, wn_RJ7.2, by decide +kernel⟩, by decide, by decide +kernel⟩
theorem mvJ7_fill_53178 : mS mJ7_fill_53178 := (tb_i 539 (by decide +kernel) : Cond.static yJ7_fill_53178 ∈ lw_tbl)
/-! Arrays.fill over an array of any length -/
theorem fl_0 {I : Nat → Nat → Int32} {a : Nat} {v : Int32} : flI I a 0 v = I := by
  funext b j
  unfold flI va_up
  by_cases h : b = a
  · subst h; simp
  · rw [if_neg h]
theorem fl_s {I : Nat → Nat → Int32} {a j : Nat} {v : Int32} : sI (flI I a j v) a j v = flI I a (j + 1) v := by
  funext b k
  unfold sI flI va_up upd
  by_cases h : b = a
  · subst h
    simp only [if_true]
    by_cases hk : k = j
    · subst hk; simp
    · rw [if_neg hk]
      by_cases h2 : k < j
      · rw [if_pos h2, if_pos (by omega)]
      · rw [if_neg h2, if_neg (by omega)]
  · rw [if_neg h, if_neg h, if_neg h]
theorem flL_0 {L : Nat → Nat → Int64} {a : Nat} {v : Int64} : flL L a 0 v = L := by
  funext b j
  unfold flL va_up
  by_cases h : b = a
  · subst h; simp
  · rw [if_neg h]
theorem flL_s {L : Nat → Nat → Int64} {a j : Nat} {v : Int64} : sL (flL L a j v) a j v = flL L a (j + 1) v := by
  funext b k
  unfold sL flL va_up vp_updL
  by_cases h : b = a
  · subst h
    simp only [if_true]
    by_cases hk : k = j
    · subst hk; simp
    · rw [if_neg hk]
      by_cases h2 : k < j
      · rw [if_pos h2, if_pos (by omega)]
      · rw [if_neg h2, if_neg (by omega)]
  · rw [if_neg h, if_neg h, if_neg h]
theorem oJ7_fillI_c5 {g : pG} {Qx : Option Value → pW → Prop} {Z : pZ} {I : Nat → Nat → Int32} {L : Nat → Nat → Int64} {O : Nat → Nat → Option Nat} {d a n : Nat} {v : Int32} (hz : Z[a]? = some (13, n)) (hn : n < 2147483648) (hQ : Qx none (Z, flI I a n v, L, O)) : ∀ (k j : Nat), j + k = n → Ok g (d + 4, RJ7, cJ7_fill_53178, 4, false, 0, 0, Z.length, pSl Z) Qx 5 [(0, .ref a), (1, .int v), (2, .int (nI j)), (3, .int (nI n))] [] (Z, flI I a j v, L, O) := by
  intro k
  induction k with
  | zero =>
    intro j hj
    have hj : j = n := hj
    subst hj
    refine ok_iload_n dJ7_fill_53178_5 2 rfl ?_
    refine ok_iload_n dJ7_fill_53178_6 3 rfl ?_
    refine ok_icmp_ge (t := 20) dJ7_fill_53178_7 (by decide) (fun _ => ?_) (fun hc => absurd (nI_le (Nat.le_refl _) hn) hc)
    exact ok_vret dJ7_fill_53178_20 hQ
  | succ k ih =>
    intro j hj
    refine ok_iload_n dJ7_fill_53178_5 2 rfl ?_
    refine ok_iload_n dJ7_fill_53178_6 3 rfl ?_
    refine ok_icmp_ge (t := 20) dJ7_fill_53178_7 (by decide) (fun hc => absurd hc (nI_ge (by omega) hn)) (fun _ => ?_)
    refine ok_aload_n dJ7_fill_53178_10 0 rfl ?_
    refine ok_iload_n dJ7_fill_53178_11 2 rfl ?_
    refine ok_iload_n dJ7_fill_53178_12 1 rfl ?_
    refine ok_iast3 (N := j) dJ7_fill_53178_13 hz (vp_in_nI (by omega) hn) (nI_clamp (by omega)) (I1 := flI I a (j + 1) v) fl_s.symm ?_
    refine ok_iinc (u := nI (j + 1)) (l' := [(2, .int (nI (j + 1))), (0, .ref a), (1, .int v), (3, .int (nI n))]) dJ7_fill_53178_14 2 rfl (nI_1 j) (Nat.le_of_ble_eq_true rfl) rfl ?_
    refine ok_goto (t := 5) dJ7_fill_53178_17 (by decide) ?_
    refine ok_sub [1, 2, 0, 3] rfl ?_
    exact ih (j + 1) (by omega)
theorem kJ7_fillI {g : pG} {Q : Option Value → pW → Prop} {Z : pZ} {I I1 : Nat → Nat → Int32} {L : Nat → Nat → Int64} {O : Nat → Nat → Option Nat} {d a n : Nat} {v : Int32} (hz : Z[a]? = some (13, n)) (hn : n < 2147483648) (hI : I1 = flI I a n v) (hQ : Q none (Z, I1, L, O)) : CT g (d + 4) mJ7_fill_53178 0 0 [.ref a, .int v] (Z, I, L, O) Q := by
  subst hI
  refine ct_of_ok (mt := mJ7_fill_53178) (ini := false) moJ7_fill_53178.2.2.2.2 (fun h => by cases h) (Nat.le_of_ble_eq_true rfl) ?_
  show Ok g (d + 4, RJ7, cJ7_fill_53178, 4, false, 0, 0, Z.length, pSl Z) _ 0 [(0, .ref a), (1, .int v)] [] (Z, I, L, O)
  refine ok_iconst (v := 0) dJ7_fill_53178_0 (by decide) ?_
  refine ok_istore_n (l' := [(2, .int 0), (0, .ref a), (1, .int v)]) dJ7_fill_53178_1 rfl (Nat.le_of_ble_eq_true rfl) rfl ?_
  refine ok_aload_n dJ7_fill_53178_2 1 rfl ?_
  refine ok_alen (v := nI n) dJ7_fill_53178_3 hz (Or.inl rfl) rfl ?_
  refine ok_istore_n (l' := [(3, .int (nI n)), (2, .int 0), (0, .ref a), (1, .int v)]) dJ7_fill_53178_4 rfl (Nat.le_of_ble_eq_true rfl) rfl ?_
  refine ok_sub [2, 3, 1, 0] rfl ?_
  have h := oJ7_fillI_c5 (g := g) (Qx := fun v' w' => pRt mJ7_fill_53178.2.2.2 v' ∧ Q v' w' ∧ w'.1.length = Z.length + 0 ∧ pSl w'.1 = pSl Z + 0) (I := I) (L := L) (O := O) (d := d) (v := v) hz hn ⟨trivial, hQ, rfl, rfl⟩ n 0 (by omega)
  rw [fl_0, nI_0] at h
  exact h
theorem oJ7_fillL_c6 {g : pG} {Qx : Option Value → pW → Prop} {Z : pZ} {I : Nat → Nat → Int32} {L : Nat → Nat → Int64} {O : Nat → Nat → Option Nat} {d a n : Nat} {v : Int64} (hz : Z[a]? = some (14, n)) (hn : n < 2147483648) (hQ : Qx none (Z, I, flL L a n v, O)) : ∀ (k j : Nat), j + k = n → Ok g (d + 4, RJ7, cJ7_fill_d0a16, 5, false, 0, 0, Z.length, pSl Z) Qx 6 [(0, .ref a), (1, .long v), (3, .int (nI j)), (4, .int (nI n))] [] (Z, I, flL L a j v, O) := by
  intro k
  induction k with
  | zero =>
    intro j hj
    have hj : j = n := hj
    subst hj
    refine ok_iload_n dJ7_fill_d0a16_6 2 rfl ?_
    refine ok_iload dJ7_fill_d0a16_7 3 rfl ?_
    refine ok_icmp_ge (t := 22) dJ7_fill_d0a16_9 (by decide) (fun _ => ?_) (fun hc => absurd (nI_le (Nat.le_refl _) hn) hc)
    exact ok_vret dJ7_fill_d0a16_22 hQ
  | succ k ih =>
    intro j hj
    refine ok_iload_n dJ7_fill_d0a16_6 2 rfl ?_
    refine ok_iload dJ7_fill_d0a16_7 3 rfl ?_
    refine ok_icmp_ge (t := 22) dJ7_fill_d0a16_9 (by decide) (fun hc => absurd hc (nI_ge (by omega) hn)) (fun _ => ?_)
    refine ok_aload_n dJ7_fill_d0a16_12 0 rfl ?_
    refine ok_iload_n dJ7_fill_d0a16_13 2 rfl ?_
    refine ok_lload_n dJ7_fill_d0a16_14 1 rfl ?_
    refine ok_last3 (N := j) dJ7_fill_d0a16_15 hz (vp_in_nI (by omega) hn) (nI_clamp (by omega)) (L1 := flL L a (j + 1) v) flL_s.symm ?_
    refine ok_iinc (u := nI (j + 1)) (l' := [(3, .int (nI (j + 1))), (0, .ref a), (1, .long v), (4, .int (nI n))]) dJ7_fill_d0a16_16 2 rfl (nI_1 j) (Nat.le_of_ble_eq_true rfl) rfl ?_
    refine ok_goto (t := 6) dJ7_fill_d0a16_19 (by decide) ?_
    refine ok_sub [1, 2, 0, 3] rfl ?_
    exact ih (j + 1) (by omega)
theorem kJ7_fillL {g : pG} {Q : Option Value → pW → Prop} {Z : pZ} {I : Nat → Nat → Int32} {L L1 : Nat → Nat → Int64} {O : Nat → Nat → Option Nat} {d a n : Nat} {v : Int64} (hz : Z[a]? = some (14, n)) (hn : n < 2147483648) (hI : L1 = flL L a n v) (hQ : Q none (Z, I, L1, O)) : CT g (d + 4) mJ7_fill_d0a16 0 0 [.ref a, .long v] (Z, I, L, O) Q := by
  subst hI
  refine ct_of_ok (mt := mJ7_fill_d0a16) (ini := false) moJ7_fill_d0a16.2.2.2.2 (fun h => by cases h) (Nat.le_of_ble_eq_true rfl) ?_
  show Ok g (d + 4, RJ7, cJ7_fill_d0a16, 5, false, 0, 0, Z.length, pSl Z) _ 0 [(0, .ref a), (1, .long v)] [] (Z, I, L, O)
  refine ok_iconst (v := 0) dJ7_fill_d0a16_0 (by decide) ?_
  refine ok_istore_n (l' := [(3, .int 0), (0, .ref a), (1, .long v)]) dJ7_fill_d0a16_1 rfl (Nat.le_of_ble_eq_true rfl) rfl ?_
  refine ok_aload_n dJ7_fill_d0a16_2 1 rfl ?_
  refine ok_alen (v := nI n) dJ7_fill_d0a16_3 hz (Or.inr rfl) rfl ?_
  refine ok_istore (l' := [(4, .int (nI n)), (3, .int 0), (0, .ref a), (1, .long v)]) dJ7_fill_d0a16_4 (Nat.le_of_ble_eq_true rfl) rfl ?_
  refine ok_sub [2, 3, 1, 0] rfl ?_
  have h := oJ7_fillL_c6 (g := g) (Qx := fun v' w' => pRt mJ7_fill_d0a16.2.2.2 v' ∧ Q v' w' ∧ w'.1.length = Z.length + 0 ∧ pSl w'.1 = pSl Z + 0) (I := I) (L := L) (O := O) (d := d) (v := v) hz hn ⟨trivial, hQ, rfl, rfl⟩ n 0 (by omega)
  rw [flL_0, nI_0] at h
  exact h
