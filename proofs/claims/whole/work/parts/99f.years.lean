/-! years -/
def yrA (N : TN) : TN := upN N 8 (anX (N 8))
def yrN (lw : Lws) (N : TN) : TN :=
  if N 8 % 6 ≤ 1 then (if 0 < N 0 ∧ 0 < N 1 then pyN lw (N 8 % N 0) (N 8 / 6 % N 1) (yrA N) else yrA N)
  else if N 8 % 6 = 2 then (if 0 < N 0 ∧ N 8 / 6 % 16 < Ln N (N 8 % N 0) then upN (yrA N) (10 + 16 * (N 8 % N 0) + N 8 / 6 % 16) 0 else yrA N)
  else if N 8 % 6 = 3 then (if 0 < N 1 then upN (yrA N) (90 + 6 * (N 8 / 6 % N 1) + (1 + N 8 % 5)) 0 else yrA N)
  else if N 7 < 9999 then psN lw (yrA N) else yrA N
section YR
variable {n : Nat} {I I0 J J0 : TI} {L : TL} {O : TO} {N : TN} {lw : Lws}
theorem yrA_ok (hN : NB N) : NB (yrA N) ∧ PJ N (yrA N) ∧ yrA N 7 = N 7 ∧ yrA N 0 = N 0 ∧ yrA N 1 = N 1 ∧ ∀ r, Ln (yrA N) r = Ln N r := by
  have h1 := PI_8 (PI_r hN) (anX_lt (N 8))
  exact ⟨h1.2, PJ_i h1, h1.1 7 (by omega) (by omega), h1.1 0 (by omega) (by omega), h1.1 1 (by omega) (by omega), fun r => upN_o _ (by omega)⟩
theorem yrN_ok (hN : NB N) : NB (yrN lw N) ∧ PJ N (yrN lw N) := by
  obtain ⟨a1, a2, a3, a4, a5, a6⟩ := yrA_ok hN
  have hB := NB_WB hN
  have b1 := hB.1
  have b2 := hB.2.1
  unfold yrN
  by_cases c1 : N 8 % 6 ≤ 1
  · rw [if_pos c1]
    by_cases q : 0 < N 0 ∧ 0 < N 1
    · rw [if_pos q]
      obtain ⟨g1, g2, -⟩ := pyN_ok (lw := lw) (r := N 8 % N 0) (c := N 8 / 6 % N 1) a1 (by rw [a4]; exact Nat.mod_lt _ q.1) (by rw [a5]; exact Nat.mod_lt _ q.2)
      exact ⟨g1, PJ_t a2 g2⟩
    · rw [if_neg q]; exact ⟨a1, a2⟩
  rw [if_neg c1]
  by_cases c2 : N 8 % 6 = 2
  · rw [if_pos c2]
    by_cases q : 0 < N 0 ∧ N 8 / 6 % 16 < Ln N (N 8 % N 0)
    · rw [if_pos q]
      have := Nat.mod_lt (N 8) q.1
      exact ⟨NB_up a1 ⟨by omega, by omega, by omega, by omega, by omega, by omega, by omega⟩ ⟨by omega, by omega, by omega, by omega, by omega, by omega, by omega, by omega, by omega, by omega, by omega⟩, PJ_t a2 (PJ_u (by omega))⟩
    · rw [if_neg q]; exact ⟨a1, a2⟩
  rw [if_neg c2]
  by_cases c3 : N 8 % 6 = 3
  · rw [if_pos c3]
    by_cases q : 0 < N 1
    · rw [if_pos q]
      have := Nat.mod_lt (N 8 / 6) q
      exact ⟨NB_up a1 ⟨by omega, by omega, by omega, by omega, by omega, by omega, by omega⟩ ⟨by omega, by omega, by omega, by omega, by omega, by omega, by omega, by omega, by omega, by omega, by omega⟩, PJ_t a2 (PJ_u (by omega))⟩
    · rw [if_neg q]; exact ⟨a1, a2⟩
  rw [if_neg c3]
  by_cases q : N 7 < 9999
  · rw [if_pos q]
    obtain ⟨g1, g2, -⟩ := psN_ok (lw := lw) a1 (by rw [a3]; exact q)
    exact ⟨g1, PJ_t a2 g2⟩
  · rw [if_neg q]; exact ⟨a1, a2⟩
theorem CS_w {I0 I : TI} {N : TN} (hO : OF O) (h : CS I0 I N) {r p v : Nat} (hr : r < 5) (hp : p < 16) (hv : v ≤ 9) : CS I0 (sI I 7 (r * 16 + p) (nI v)) (upN N (10 + 16 * r + p) v) := by
  obtain ⟨e, hP, hN⟩ := h
  exact ⟨e, (PWm_ok hO e I0).2.2.2.1 I N r p v hr hp hP, NB_up hN ⟨by omega, by omega, by omega, by omega, by omega, by omega, by omega⟩ ⟨by omega, by omega, by omega, by omega, by omega, by omega, by omega, by omega, by omega, by omega, by omega⟩⟩
theorem CS_h {I0 I : TI} {N : TN} (hO : OF O) (h : CS I0 I N) {c k v : Nat} (hc : c < 4) (h1 : 1 ≤ k) (hk : k < 6) (hv : v ≤ 99) : CS I0 (sI I 8 (c * 6 + k) (nI v)) (upN N (90 + 6 * c + k) v) := by
  obtain ⟨e, hP, hN⟩ := h
  exact ⟨e, (PWm_ok hO e I0).2.2.1 I N c k v hc hk hP, NB_up hN ⟨by omega, by omega, by omega, by omega, by omega, by omega, by omega⟩ ⟨by omega, by omega, by omega, by omega, by omega, by omega, by omega, by omega, by omega, by omega, by omega⟩⟩
theorem nm1' {k : Nat} : ¬ inR (-1 : Int32) k := by
  unfold inR; rw [lm1]; omega
theorem xc_year (hn : 100000 ≤ n) (hO : OF O) (hL : LX0 I0 (rlX N) lw) (h : CS I0 I N) : ∃ I', f4_passYear n I O 286 3 (rlX N) = some I' ∧ CS I0 I' (yrN lw N) := by
  have h0 := h
  obtain ⟨e, hP, hN⟩ := h
  have hB := NB_WB hN
  have b1 := hB.1
  have b2 := hB.2.1
  have b8 := hB.2.2.2.2.2.2.2.2.2
  have hW := PWm_ok hO e I0
  have hV := hW.1 I N hP
  obtain ⟨a1, a2, a3, a4, a5, a6⟩ := yrA_ok hN
  have an := x_anew hW hB hP
  have hC : CS I0 (sI I 6 5 (nI (anX (N 8)))) (yrA N) := CS_8 hO h0 (anX_lt (N 8))
  generalize hI1 : sI I 6 5 (nI (anX (N 8))) = I1 at *
  have hC' := hC
  obtain ⟨e1, hP1, -⟩ := hC'
  have hV1 := (PWm_ok hO e1 I0).1 I1 _ hP1
  have hB1 := NB_WB a1
  have v3 : I1 3 3 = nI (N 0) := by rw [hV1.2.1, a4]
  have v4 : I1 3 4 = nI (N 1) := by rw [hV1.2.2.1, a5]
  have v8 : I 6 5 = nI (N 8) := hV.2.2.2.2.2.2.2.2
  have v7 := CS_7v hO hC
  have o2 := o_3_2 hO
  have m6 : nI (N 8) - nI (N 8) / 6 * 6 = nI (N 8 % 6) := pk_rem (d := 6) (by omega) (by omega) (by omega)
  have m5 : nI (N 8) - nI (N 8) / 5 * 5 = nI (N 8 % 5) := pk_rem (d := 5) (by omega) (by omega) (by omega)
  have d6 : nI (N 8) / 6 = nI (N 8 / 6) := pk_div (d := 6) (by omega) (by omega) (by omega)
  have m16 : nI (N 8 / 6) - nI (N 8 / 6) / 16 * 16 = nI (N 8 / 6 % 16) := pk_rem (d := 16) (by omega) (by omega) (by omega)
  -- the roll and the child of it
  have key : ∀ t0 t1 : Int32, ((0 < N 0 ∧ t0 = nI (N 8 % N 0)) ∨ (N 0 = 0 ∧ t0 = -1)) → ((0 < N 1 ∧ t1 = nI (N 8 / 6 % N 1)) ∨ (N 1 = 0 ∧ t1 = -1)) → ∃ I', f4_passYear_c54 n O I1 286 3 (rlX N) (nI (N 8)) t0 t1 = some I' ∧ CS I0 I' (yrN lw N) := by
    intro t0 t1 h0 h1
    have lt6 : N 8 % 6 < 6 := Nat.mod_lt _ (by omega)
    have eq6 : ∀ k : Nat, k < 6 → (nI (N 8 % 6) = nI k ↔ N 8 % 6 = k) := fun k hk => nI_eq (by omega) (by omega)
    have play : N 8 % 6 ≤ 1 → ∃ I', ((f10_hasRoll I1 3 t0).bind fun r2 => if r2 = 0 then some I1 else (f10_hasChild I1 3 t1).bind fun r5 => if r5 = 0 then some I1 else (f4_playRoll n I1 O 286 3 (rlX N) t0 t1).bind fun r8 => some r8.2) = some I' ∧ CS I0 I' (yrN lw N) := by
      intro c1
      unfold yrN
      rw [if_pos c1]
      rcases h0 with ⟨q0, rfl⟩ | ⟨q0, rfl⟩
      · have hr0 : N 8 % N 0 < yrA N 0 := by rw [a4]; exact Nat.mod_lt _ q0
        rw [x_hasRoll hV1 hB1 hr0, qb, if_neg (by decide)]
        rcases h1 with ⟨q1, rfl⟩ | ⟨q1, rfl⟩
        · have hc0 : N 8 / 6 % N 1 < yrA N 1 := by rw [a5]; exact Nat.mod_lt _ q1
          rw [x_hasChild hV1 hB1 hc0, qb, if_neg (by decide), if_pos ⟨q0, q1⟩]
          obtain ⟨I2, p1, p2⟩ := xc_play (lw := lw) hn hO (sx := rlX N) hL hC hr0 hc0
          exact ⟨I2, by rw [p1, qb], p2⟩
        · rw [x_noChild hV1 hB1 nm1', qb, if_pos rfl, if_neg (by omega)]
          exact ⟨I1, rfl, hC⟩
      · rw [x_noRoll hV1 hB1 nm1', qb, if_pos rfl, if_neg (by omega)]
        exact ⟨I1, rfl, hC⟩
    unfold f4_passYear_c54
    rw [m6]
    by_cases c0 : N 8 % 6 = 0
    · rw [if_pos (show nI (N 8 % 6) = 0 from (eq6 0 (by omega)).mpr c0)]
      exact play (by omega)
    rw [if_neg (show ¬ nI (N 8 % 6) = 0 from fun q => c0 ((eq6 0 (by omega)).mp q))]
    by_cases c1 : N 8 % 6 = 1
    · rw [if_pos (show nI (N 8 % 6) = 1 from (eq6 1 (by omega)).mpr c1)]
      exact play (by omega)
    rw [if_neg (show ¬ nI (N 8 % 6) = 1 from fun q => c1 ((eq6 1 (by omega)).mp q))]
    by_cases c2 : N 8 % 6 = 2
    · rw [if_pos (show nI (N 8 % 6) = 2 from (eq6 2 (by omega)).mpr c2), d6, m16]
      unfold yrN
      rw [if_neg (by omega), if_pos c2]
      rcases h0 with ⟨q0, rfl⟩ | ⟨q0, rfl⟩
      · have hr0 : N 8 % N 0 < N 0 := Nat.mod_lt _ q0
        by_cases hp : N 8 / 6 % 16 < Ln N (N 8 % N 0)
        · rw [if_pos ⟨q0, hp⟩]
          have ep := x_hasPlace hV1 hB1 (r := N 8 % N 0) (p := N 8 / 6 % 16) (by rw [a4]; exact hr0) (by rw [a6]; exact hp)
          refine ⟨_, ?_, CS_w hO hC (r := N 8 % N 0) (p := N 8 / 6 % 16) (v := 0) (by omega) (by omega) (by omega)⟩
          have o3 : rO O 6 0 = 7 := o_6_0 hO
          simp (disch := omega) only [f10_mend, ep, o2, o3, qL, qb, qbl, qadd, qmul, qsubm, qdm, qsub, qdiv, qcl, qlt, qle, qeq, nltT, nltF, nleT, nleF, neqT, neqF, or_false, false_or, or_true, true_or, or_self, and_true, true_and, and_false, false_and, and_self, not_true_eq_false, not_false_eq_true, ↓reduceIte]
        · rw [if_neg (fun q => hp q.2)]
          have ep := x_noPlace hV1 hB1 (r := N 8 % N 0) (y := nI (N 8 / 6 % 16)) (by rw [a4]; exact hr0) (by rw [a6]; unfold inR; rw [qtoI (by omega)]; omega)
          exact ⟨I1, by simp (disch := omega) only [f10_mend, ep, qL, qb, qbl, qadd, qmul, qsubm, qdm, qsub, qdiv, qcl, qlt, qle, qeq, nltT, nltF, nleT, nleF, neqT, neqF, or_false, false_or, or_true, true_or, or_self, and_true, true_and, and_false, false_and, and_self, not_true_eq_false, not_false_eq_true, ↓reduceIte], hC⟩
      · rw [if_neg (by omega)]
        have ep := x_noPlaceR hV1 hB1 (x := -1) (y := nI (N 8 / 6 % 16)) nm1'
        refine ⟨I1, ?_, hC⟩
        unfold f10_mend
        rw [ep, qb, if_pos rfl, qb]
    rw [if_neg (show ¬ nI (N 8 % 6) = 2 from fun q => c2 ((eq6 2 (by omega)).mp q))]
    by_cases c3 : N 8 % 6 = 3
    · rw [if_pos (show nI (N 8 % 6) = 3 from (eq6 3 (by omega)).mpr c3), m5]
      unfold yrN
      rw [if_neg (by omega), if_neg c2, if_pos c3]
      rcases h1 with ⟨q1, rfl⟩ | ⟨q1, rfl⟩
      · have hc0 : N 8 / 6 % N 1 < N 1 := Nat.mod_lt _ q1
        rw [if_pos q1]
        have ep := x_hasChild hV1 hB1 (r := N 8 / 6 % N 1) (by rw [a5]; exact hc0)
        refine ⟨_, ?_, CS_h hO hC (c := N 8 / 6 % N 1) (k := 1 + N 8 % 5) (v := 0) (by omega) (by omega) (by omega) (by omega)⟩
        have o3 : rO O 6 1 = 8 := o_6_1 hO
        simp (disch := omega) only [f10_unhear, ep, o2, o3, qL, qb, qbl, qadd, qmul, qsubm, qdm, qsub, qdiv, qcl, qlt, qle, qeq, nltT, nltF, nleT, nleF, neqT, neqF, or_false, false_or, or_true, true_or, or_self, and_true, true_and, and_false, false_and, and_self, not_true_eq_false, not_false_eq_true, ↓reduceIte]
      · rw [if_neg (by omega)]
        have ep := x_noChild hV1 hB1 (x := -1) nm1'
        refine ⟨I1, ?_, hC⟩
        unfold f10_unhear
        rw [ep, qb, if_pos rfl, qb]
    rw [if_neg (show ¬ nI (N 8 % 6) = 3 from fun q => c3 ((eq6 3 (by omega)).mp q)), o2, v7, a3]
    unfold yrN
    rw [if_neg (show ¬ N 8 % 6 ≤ 1 by omega), if_neg c2, if_neg c3]
    by_cases q : N 7 < 9999
    · rw [if_neg (show ¬ (9999 : Int32) ≤ nI (N 7) from fun w => by have := (nI_leI (a := 9999) (b := N 7) (by omega) (by omega)).mp w; omega), if_pos q]
      obtain ⟨I2, p1, p2⟩ := xc_pass (lw := lw) hn hO (sx := rlX N) hL hC (by rw [a3]; exact q)
      exact ⟨I2, by rw [p1, qb], p2⟩
    · have s7 := hB.2.2.2.2.2.2.2.2.1
      rw [if_pos (show (9999 : Int32) ≤ nI (N 7) from (nI_leI (a := 9999) (b := N 7) (by omega) (by omega)).mpr (by omega)), if_neg q]
      exact ⟨I1, rfl, hC⟩
  unfold f4_passYear
  rw [o2, an, qb, v8]
  have key2 : ∀ t0 : Int32, ((0 < N 0 ∧ t0 = nI (N 8 % N 0)) ∨ (N 0 = 0 ∧ t0 = -1)) → ∃ I', f4_passYear_c32 n O I1 286 3 (rlX N) (nI (N 8)) t0 = some I' ∧ CS I0 I' (yrN lw N) := by
    intro t0 h0
    unfold f4_passYear_c32
    rw [v4]
    by_cases q1 : N 1 = 0
    · rw [q1, if_pos (by decide)]
      exact key t0 (-1) h0 (Or.inr ⟨q1, rfl⟩)
    · rw [if_neg (nI_nle (by omega) (by omega)), if_neg (nI_ne0 (by omega) (by omega)), d6, show nI (N 8 / 6) - nI (N 8 / 6) / nI (N 1) * nI (N 1) = nI (N 8 / 6 % N 1) from pk_rem (d := N 1) (by omega) (by omega) (by omega)]
      exact key t0 _ h0 (Or.inl ⟨by omega, rfl⟩)
  rw [v3]
  by_cases q0 : N 0 = 0
  · rw [q0, if_pos (by decide)]
    exact key2 (-1) (Or.inr ⟨q0, rfl⟩)
  · rw [if_neg (nI_nle (by omega) (by omega)), if_neg (nI_ne0 (by omega) (by omega)), show nI (N 8) - nI (N 8) / nI (N 0) * nI (N 0) = nI (N 8 % N 0) from pk_rem (d := N 0) (by omega) (by omega) (by omega)]
    exact key2 _ (Or.inl ⟨by omega, rfl⟩)
theorem mc_year (hn : 100000 ≤ n) (hO : OF O) (hw : J0 331 23 = 1) (hL : LM0 J0 (N 3) lw) (hN : NB N) (hC : MS O J0 J (yrA N)) : ∃ J' L', f12_happens n J L O 331 (nI (N 8)) = some (J', L') ∧ MS O J0 J' (yrN lw N) := by
  have hB := NB_WB hN
  have b1 := hB.1
  have b2 := hB.2.1
  have b8 := hB.2.2.2.2.2.2.2.2.2
  have s7 := hB.2.2.2.2.2.2.2.2.1
  obtain ⟨a1, a2, a3, a4, a5, a6⟩ := yrA_ok hN
  have hM1 := hC.1
  have hB1 := NB_WB a1
  have e3 : yrA N 3 = N 3 := PJ_3 a2
  have w0 : J 332 0 = nI (N 0) := by rw [hM1.2 0 (by omega), a4]
  have w1 : J 332 1 = nI (N 1) := by rw [hM1.2 1 (by omega), a5]
  have w7 : J 332 7 = nI (N 7) := by rw [hM1.2 7 (by omega), a3]
  unfold yrN
  by_cases c1 : N 8 % 6 ≤ 1
  · rw [if_pos c1]
    by_cases q1 : N 1 = 0
    · rw [if_neg (by omega)]
      exact ⟨J, L, by simp (disch := omega) only [f12_happens, hM1.1, w1, q1, qL, qb, qbl, qadd, qmul, qsubm, qdm, qsub, qdiv, qcl, qlt, qle, qeq, nltT, nltF, nleT, nleF, neqT, neqF, or_false, false_or, or_true, true_or, or_self, and_true, true_and, and_false, false_and, and_self, not_true_eq_false, not_false_eq_true, ↓reduceIte], hC⟩
    by_cases q0 : N 0 = 0
    · rw [if_neg (by omega)]
      exact ⟨J, L, by simp (disch := omega) only [f12_happens, hM1.1, w1, w0, qL, qb, qbl, qadd, qmul, qsubm, qdm, qsub, qdiv, qcl, qlt, qle, qeq, nltT, nltF, nleT, nleF, neqT, neqF, or_false, false_or, or_true, true_or, or_self, and_true, true_and, and_false, false_and, and_self, not_true_eq_false, not_false_eq_true, ↓reduceIte], hC⟩
    rw [if_pos ⟨by omega, by omega⟩]
    have hr0 : N 8 % N 0 < yrA N 0 := by rw [a4]; exact Nat.mod_lt _ (by omega)
    have hc0 : N 8 / 6 % N 1 < yrA N 1 := by rw [a5]; exact Nat.mod_lt _ (by omega)
    obtain ⟨J2, L2, p1, p2, p3⟩ := mc_play (L := L) (lw := lw) hn hO hw (by rw [e3]; exact hL) hC hr0 hc0
    exact ⟨J2, L2, by simp (disch := omega) only [f12_happens, hM1.1, w1, w0, p1, qL, qb, qbl, qadd, qmul, qsubm, qdm, qsub, qdiv, qcl, qlt, qle, qeq, nltT, nltF, nleT, nleF, neqT, neqF, or_false, false_or, or_true, true_or, or_self, and_true, true_and, and_false, false_and, and_self, not_true_eq_false, not_false_eq_true, ↓reduceIte], p2⟩
  rw [if_neg c1]
  by_cases c2 : N 8 % 6 = 2
  · rw [if_pos c2]
    by_cases q0 : N 0 = 0
    · rw [if_neg (by omega)]
      exact ⟨J, L, by simp (disch := omega) only [f12_happens, hM1.1, c2, w0, qL, qb, qbl, qadd, qmul, qsubm, qdm, qsub, qdiv, qcl, qlt, qle, qeq, nltT, nltF, nleT, nleF, neqT, neqF, or_false, false_or, or_true, true_or, or_self, and_true, true_and, and_false, false_and, and_self, not_true_eq_false, not_false_eq_true, ↓reduceIte], hC⟩
    have hr0 : N 8 % N 0 < N 0 := Nat.mod_lt _ (by omega)
    by_cases hp : N 8 / 6 % 16 < Ln N (N 8 % N 0)
    · rw [if_pos ⟨by omega, hp⟩]
      have ep := m_isPlace hM1 hB1 (r := N 8 % N 0) (p := N 8 / 6 % 16) (by rw [a4]; exact hr0) (by rw [a6]; exact hp)
      have ew := m_wearOf hM1 (r := N 8 % N 0) (p := N 8 / 6 % 16) (by omega) (by omega)
      have wb := hB1.2.2.2.2.2.1 (N 8 % N 0) (N 8 / 6 % 16) (by omega) (by omega)
      have hNB : NB (upN (yrA N) (10 + 16 * (N 8 % N 0) + N 8 / 6 % 16) 0) := NB_up a1 ⟨by omega, by omega, by omega, by omega, by omega, by omega, by omega⟩ ⟨by omega, by omega, by omega, by omega, by omega, by omega, by omega, by omega, by omega, by omega, by omega⟩
      by_cases z : Wr (yrA N) (N 8 % N 0) (N 8 / 6 % 16) = 0
      · refine ⟨J, L, by simp (disch := omega) only [f12_happens, f12_canPatch, hM1.1, c2, w0, ep, ew, z, qL, qb, qbl, qadd, qmul, qsubm, qdm, qsub, qdiv, qcl, qlt, qle, qeq, nltT, nltF, nleT, nleF, neqT, neqF, or_false, false_or, or_true, true_or, or_self, and_true, true_and, and_false, false_and, and_self, not_true_eq_false, not_false_eq_true, ↓reduceIte], MV_ext hM1 (fun t ht => ?_), hNB, hC.2.2⟩
        unfold upN
        by_cases qt : t = 10 + 16 * (N 8 % N 0) + N 8 / 6 % 16
        · rw [if_pos qt, qt]; exact z
        · rw [if_neg qt]
      · exact ⟨_, L, by simp (disch := omega) only [f12_happens, f12_canPatch, hM1.1, c2, w0, ep, ew, qL, qb, qbl, qadd, qmul, qsubm, qdm, qsub, qdiv, qcl, qlt, qle, qeq, nltT, nltF, nleT, nleF, neqT, neqF, or_false, false_or, or_true, true_or, or_self, and_true, true_and, and_false, false_and, and_self, not_true_eq_false, not_false_eq_true, ↓reduceIte], MS_u hC hNB⟩
    · rw [if_neg (fun q => hp q.2)]
      have ep := m_noPlace hM1 hB1 (r := N 8 % N 0) (y := nI (N 8 / 6 % 16)) (by rw [a4]; exact hr0) (by rw [a6]; unfold inR; rw [qtoI (by omega)]; omega)
      exact ⟨J, L, by simp (disch := omega) only [f12_happens, f12_canPatch, hM1.1, c2, w0, ep, qL, qb, qbl, qadd, qmul, qsubm, qdm, qsub, qdiv, qcl, qlt, qle, qeq, nltT, nltF, nleT, nleF, neqT, neqF, or_false, false_or, or_true, true_or, or_self, and_true, true_and, and_false, false_and, and_self, not_true_eq_false, not_false_eq_true, ↓reduceIte], hC⟩
  rw [if_neg c2]
  by_cases c3 : N 8 % 6 = 3
  · rw [if_pos c3]
    by_cases q1 : N 1 = 0
    · rw [if_neg (by omega)]
      exact ⟨J, L, by simp (disch := omega) only [f12_happens, hM1.1, c3, w1, q1, qL, qb, qbl, qadd, qmul, qsubm, qdm, qsub, qdiv, qcl, qlt, qle, qeq, nltT, nltF, nleT, nleF, neqT, neqF, or_false, false_or, or_true, true_or, or_self, and_true, true_and, and_false, false_and, and_self, not_true_eq_false, not_false_eq_true, ↓reduceIte], hC⟩
    rw [if_pos (by omega)]
    have hc0 : N 8 / 6 % N 1 < N 1 := Nat.mod_lt _ (by omega)
    have y : 90 + 6 * (N 8 / 6 % N 1) + 1 + N 8 % 5 = 90 + 6 * (N 8 / 6 % N 1) + (1 + N 8 % 5) := by omega
    refine ⟨sI J 332 (90 + 6 * (N 8 / 6 % N 1) + (1 + N 8 % 5)) (nI 0), L, by simp (disch := omega) only [f12_happens, hM1.1, c3, w1, y, qL, qb, qbl, qadd, qmul, qsubm, qdm, qsub, qdiv, qcl, qlt, qle, qeq, nltT, nltF, nleT, nleF, neqT, neqF, or_false, false_or, or_true, true_or, or_self, and_true, true_and, and_false, false_and, and_self, not_true_eq_false, not_false_eq_true, ↓reduceIte], MS_u hC (NB_up a1 ⟨by omega, by omega, by omega, by omega, by omega, by omega, by omega⟩ ⟨by omega, by omega, by omega, by omega, by omega, by omega, by omega, by omega, by omega, by omega, by omega⟩)⟩
  rw [if_neg c3]
  by_cases q : N 7 < 9999
  · rw [if_pos q]
    obtain ⟨J2, L2, p1, p2, p3⟩ := mc_pass (L := L) (lw := lw) hn hO hw (by rw [e3]; exact hL) hC (by rw [a3]; exact q)
    exact ⟨J2, L2, by simp (disch := omega) only [f12_happens, hM1.1, w7, p1, qL, qb, qbl, qadd, qmul, qsubm, qdm, qsub, qdiv, qcl, qlt, qle, qeq, nltT, nltF, nleT, nleF, neqT, neqF, or_false, false_or, or_true, true_or, or_self, and_true, true_and, and_false, false_and, and_self, not_true_eq_false, not_false_eq_true, ↓reduceIte], p2⟩
  · rw [if_neg q]
    exact ⟨J, L, by simp (disch := omega) only [f12_happens, hM1.1, w7, qL, qb, qbl, qadd, qmul, qsubm, qdm, qsub, qdiv, qcl, qlt, qle, qeq, nltT, nltF, nleT, nleF, neqT, neqF, or_false, false_or, or_true, true_or, or_self, and_true, true_and, and_false, false_and, and_self, not_true_eq_false, not_false_eq_true, ↓reduceIte], hC⟩
def yrG (lw : Lws) (_ : Nat) (N : TN) : TN := yrN lw N
theorem yrs_ok (hN : NB N) : ∀ k, NB (fo (yrG lw) k 0 N) ∧ PJ N (fo (yrG lw) k 0 N) := by
  intro k
  induction k with
  | zero => exact ⟨hN, PJ_r N⟩
  | succ k ih =>
    rw [fo_s]
    obtain ⟨g1, g2⟩ := yrN_ok (lw := lw) ih.1
    exact ⟨g1, PJ_t ih.2 g2⟩
theorem s_years (hn : 100000 ≤ n) (h : RE tX I O) (L : TL) (p1 p2 : Int32) : ∃ (v : Int32) (I1 I2 : TI) (L2 : TL), f11_years n I O 1 p1 p2 = some (v, I1) ∧ f12_years n I1 L O 331 p1 p2 = some (v, I2, L2) ∧ RE tX I2 O := by
  obtain ⟨N, G, e, f, tp, h⟩ := h
  have hO := h.1
  have hV := RW_WV hO h.2.2.2.2.2.2.1
  have hN := h.2.2.2.1
  have hB := NB_WB hN
  have hM := h.2.1
  have hF := RW_fd h.2.2.2.2.2.2.1
  have b0 : N 0 ≤ 5 := hB.1
  have b1 : N 1 ≤ 4 := hB.2.1
  have b4 : N 4 ≤ 30 := hN.2.2.2.2.1
  by_cases h1 : ((0 : Nat) : Int) ≤ p1.toInt ∧ p1.toInt ≤ ((9999 : Nat) : Int)
  · obtain ⟨sd, -, hsd, rfl⟩ := inB h1
    by_cases h2 : ((1 : Nat) : Int) ≤ p2.toInt ∧ p2.toInt ≤ ((40 : Nat) : Int)
    · obtain ⟨k, hk1, hk, rfl⟩ := inB h2
      obtain ⟨lw, l1, l2⟩ := R_lw h
      obtain ⟨I1, k1, k2⟩ := xc_keep hO (CS_r h)
      have c3 := CS_8 hO k2 (v := sd * 2 + 269) (by omega)
      have hN1 : NB (upN (keepN N) 8 (sd * 2 + 269)) := NB_up (keepNB hN) ⟨by omega, by omega, by omega, by omega, by omega, by omega, by omega⟩ ⟨by omega, by omega, by omega, by omega, by omega, by omega, by omega, by omega, by omega, by omega, by omega⟩
      have pj1 : PJ N (upN (keepN N) 8 (sd * 2 + 269)) := PJ_t (PJ_k b4) (PJ_u (by omega))
      obtain ⟨I2, x1, x2⟩ : ∃ I2, f11_years_c53 n O n (sI I1 6 5 (nI (sd * 2 + 269))) 1 (nI k) (nI 0) = some (nI ((fo (yrG lw) k 0 (upN (keepN N) 8 (sd * 2 + 269))) 7), I2) ∧ CS I I2 (fo (yrG lw) k 0 (upN (keepN N) 8 (sd * 2 + 269))) := by
        refine lpR (L := fun m j (s : TI) => f11_years_c53 n O m s 1 (nI k) (nI j)) (fun j s => CS I s (fo (yrG lw) j 0 (upN (keepN N) 8 (sd * 2 + 269)))) (fun res => ∃ I2, res = some (nI ((fo (yrG lw) k 0 (upN (keepN N) 8 (sd * 2 + 269))) 7), I2) ∧ CS I I2 (fo (yrG lw) k 0 (upN (keepN N) 8 (sd * 2 + 269)))) k ?_ ?_ k 0 n _ (by omega) (by omega) c3
        · intro m j s hj hs
          left
          obtain ⟨g1, g2⟩ := yrs_ok (lw := lw) hN1 j
          have er := CS_rul hO hs
          have e3 : (fo (yrG lw) j 0 (upN (keepN N) 8 (sd * 2 + 269))) 3 = N 3 := PJ_3 (PJ_t pj1 g2)
          obtain ⟨I3, q1, q2⟩ := xc_year (lw := lw) hn hO (by rw [rlX_e e3]; exact l1) hs
          refine ⟨I3, by rw [fo_s]; exact q2, ?_⟩
          have hlt : ¬ nI k ≤ nI j := fun q => by rw [nI_leI (by omega) (by omega)] at q; omega
          show f11_years_c53 n O (m + 1) s 1 (nI k) (nI j) = f11_years_c53 n O m I3 1 (nI k) (nI (j + 1))
          rw [f11_years_c53, if_neg hlt, er, qb, o_1_7 hO, o_1_0 hO, o_2_0 hO, q1, qb, nI_1]
        · intro m s hs
          have v7 := CS_7v hO hs
          refine ⟨s, ?_, hs⟩
          rw [f11_years_c53, if_pos (by rw [nI_leI (by omega) (by omega)]; omega), o_1_0 hO, o_2_0 hO, o_3_2 hO, v7]
      have hms := MS_r hM hN x2
      obtain ⟨J1, j1, j2, j3⟩ := mc_keep hn hms
      have m3 := MS_u (t := 8) (v := sd * 2 + 269) j2 hN1
      have hw0 : I2 331 23 = 1 := by rw [CS_f x2 (by omega)]; exact h.2.2.2.2.2.2.2.2.2.2.1
      have hl0 : LM0 I2 (N 3) lw := LM_fr l2 (CS_f x2 (by omega))
      obtain ⟨J2, L2, y1, y2⟩ : ∃ J2 L2, f12_years_c43 n O n (sI J1 332 8 (nI (sd * 2 + 269))) L 331 (nI k) (nI 0) = some (nI ((fo (yrG lw) k 0 (upN (keepN N) 8 (sd * 2 + 269))) 7), J2, L2) ∧ MS O I2 J2 (fo (yrG lw) k 0 (upN (keepN N) 8 (sd * 2 + 269))) := by
        refine lpR (L := fun m j (s : TI × TL) => f12_years_c43 n O m s.1 s.2 331 (nI k) (nI j)) (fun j s => MS O I2 s.1 (fo (yrG lw) j 0 (upN (keepN N) 8 (sd * 2 + 269)))) (fun res => ∃ J2 L2, res = some (nI ((fo (yrG lw) k 0 (upN (keepN N) 8 (sd * 2 + 269))) 7), J2, L2) ∧ MS O I2 J2 (fo (yrG lw) k 0 (upN (keepN N) 8 (sd * 2 + 269)))) k ?_ ?_ k 0 n (_, L) (by omega) (by omega) m3
        · intro m j s hj hs
          left
          obtain ⟨g1, g2⟩ := yrs_ok (lw := lw) hN1 j
          have e3 : (fo (yrG lw) j 0 (upN (keepN N) 8 (sd * 2 + 269))) 3 = N 3 := PJ_3 (PJ_t pj1 g2)
          have an := m_anew hs.1 (NB_WB g1)
          have hA : MS O I2 (sI s.1 332 8 (nI (anX ((fo (yrG lw) j 0 (upN (keepN N) 8 (sd * 2 + 269))) 8)))) (yrA (fo (yrG lw) j 0 (upN (keepN N) 8 (sd * 2 + 269)))) := MS_u hs (yrA_ok g1).1
          obtain ⟨J3, L3, q1, q2⟩ := mc_year (L := s.2) (lw := lw) hn hO hw0 (by rw [e3]; exact hl0) g1 hA
          refine ⟨(J3, L3), by rw [fo_s]; exact q2, ?_⟩
          have hlt : ¬ nI k ≤ nI j := fun q => by rw [nI_leI (by omega) (by omega)] at q; omega
          show f12_years_c43 n O (m + 1) s.1 s.2 331 (nI k) (nI j) = f12_years_c43 n O m J3 L3 331 (nI k) (nI (j + 1))
          rw [f12_years_c43, if_neg hlt, an, qb, hs.1.1, hs.1.2 8 (by omega), q1, qb, nI_1]
        · intro m s hs
          refine ⟨s.1, s.2, ?_, hs⟩
          rw [f12_years_c43, if_pos (by rw [nI_leI (by omega) (by omega)]; omega), hs.1.1, hs.1.2 7 (by omega)]
      obtain ⟨g1, g2⟩ := yrs_ok (lw := lw) hN1 k
      refine ⟨nI ((fo (yrG lw) k 0 (upN (keepN N) 8 (sd * 2 + 269))) 7), I2, J2, L2, ?_, ?_, R0_gen tXst h x2 y2 (PJ_2 (PJ_t pj1 g2))⟩
      · rw [← x1]
        simp (disch := omega) only [f11_years, o_1_0 hO, o_1_1 hO, o_1_2 hO, o_1_3 hO, o_1_4 hO, o_1_5 hO, o_1_6 hO, o_1_7 hO, o_1_8 hO, o_1_9 hO, o_2_0 hO, o_2_1 hO, o_2_2 hO, o_2_3 hO, o_2_4 hO, o_2_5 hO, o_3_0 hO, o_3_1 hO, o_3_2 hO, o_6_0 hO, o_6_1 hO, o_6_2 hO, o_10_0 hO, o_331_0 hO, k1, qL, qb, qbl, qadd, qmul, qsubm, qdm, qsub, qdiv, qcl, qlt, qle, qeq, nltT, nltF, nleT, nleF, neqT, neqF, or_false, false_or, or_true, true_or, or_self, and_true, true_and, and_false, false_and, and_self, not_true_eq_false, not_false_eq_true, ↓reduceIte]
      · have e1 := m_inT (Nat.zero_le sd) hsd (by omega)
        have e2 := m_inT hk1 hk (by omega)
        rw [← y1]
        simp (disch := omega) only [f12_years, e1, e2, j1, hM.1, qL, qb, qbl, qadd, qmul, qsubm, qdm, qsub, qdiv, qcl, qlt, qle, qeq, nltT, nltF, nleT, nleF, neqT, neqF, or_false, false_or, or_true, true_or, or_self, and_true, true_and, and_false, false_and, and_self, not_true_eq_false, not_false_eq_true, ↓reduceIte]
    · have e1 := outB (by omega) (by omega) h2
      have e2 := m_inF h2 (by omega) (by omega)
      have e0 := m_inT (Nat.zero_le sd) hsd (by omega)
      refine ⟨-1, I, I, L, ?_, ?_, N, G, e, f, tp, h⟩
      · rcases e1 with e1 | ⟨e1, e3⟩
        · simp (disch := omega) only [f11_years, e1, qL, qb, qbl, qadd, qmul, qsubm, qdm, qsub, qdiv, qcl, qlt, qle, qeq, nltT, nltF, nleT, nleF, neqT, neqF, or_false, false_or, or_true, true_or, or_self, and_true, true_and, and_false, false_and, and_self, not_true_eq_false, not_false_eq_true, ↓reduceIte]
        · have e4 : ¬ p2 ≤ nI 40 := fun q => by rw [i_le, qtoI (by omega)] at q; rw [i_lt, qtoI (by omega)] at e3; omega
          simp (disch := omega) only [f11_years, e1, e4, qL, qb, qbl, qadd, qmul, qsubm, qdm, qsub, qdiv, qcl, qlt, qle, qeq, nltT, nltF, nleT, nleF, neqT, neqF, or_false, false_or, or_true, true_or, or_self, and_true, true_and, and_false, false_and, and_self, not_true_eq_false, not_false_eq_true, ↓reduceIte]
      · simp (disch := omega) only [f12_years, e0, e2, qL, qb, qbl, qadd, qmul, qsubm, qdm, qsub, qdiv, qcl, qlt, qle, qeq, nltT, nltF, nleT, nleF, neqT, neqF, or_false, false_or, or_true, true_or, or_self, and_true, true_and, and_false, false_and, and_self, not_true_eq_false, not_false_eq_true, ↓reduceIte]
  · have e1 := outB (by omega) (by omega) h1
    have e2 := m_inF h1 (by omega) (by omega)
    refine ⟨-1, I, I, L, ?_, ?_, N, G, e, f, tp, h⟩
    · rcases e1 with e1 | ⟨e1, e3⟩
      · simp (disch := omega) only [f11_years, e1, qL, qb, qbl, qadd, qmul, qsubm, qdm, qsub, qdiv, qcl, qlt, qle, qeq, nltT, nltF, nleT, nleF, neqT, neqF, or_false, false_or, or_true, true_or, or_self, and_true, true_and, and_false, false_and, and_self, not_true_eq_false, not_false_eq_true, ↓reduceIte]
      · simp (disch := omega) only [f11_years, e1, e3, qL, qb, qbl, qadd, qmul, qsubm, qdm, qsub, qdiv, qcl, qlt, qle, qeq, nltT, nltF, nleT, nleF, neqT, neqF, or_false, false_or, or_true, true_or, or_self, and_true, true_and, and_false, false_and, and_self, not_true_eq_false, not_false_eq_true, ↓reduceIte]
    · simp (disch := omega) only [f12_years, e2, qL, qb, qbl, qadd, qmul, qsubm, qdm, qsub, qdiv, qcl, qlt, qle, qeq, nltT, nltF, nleT, nleF, neqT, neqF, or_false, false_or, or_true, true_or, or_self, and_true, true_and, and_false, false_and, and_self, not_true_eq_false, not_false_eq_true, ↓reduceIte]
end YR
