/-! a roll cut by a text; all of a text -/
def rlN (N : TN) (c : Nat) : TN := upN (upN N (114 + N 0) c) 0 (N 0 + 1)
def kyG (r : Nat) (q : Nat → Nat) (i : Nat) (N : TN) : TN := upN N (119 + 16 * r + i) (q i)
def kyN (N : TN) (r : Nat) (q : Nat → Nat) (i : Nat) : TN := fo (kyG r q) i 0 N
section CR
variable {n : Nat} {I I0 J J0 : TI} {L : TL} {O : TO} {N : TN} {lw : Lws}
theorem rlN_ok (hN : NB N) {c : Nat} (h1 : 1 ≤ c) (hc : c ≤ 16) (h5 : N 0 < 5) : NB (upN N (114 + N 0) c) ∧ NB (rlN N c) ∧ rlN N c 0 = N 0 + 1 ∧ rlN N c 2 = N 2 ∧ rlN N c 3 = N 3 ∧ Ln (rlN N c) (N 0) = c := by
  have hB1 : NB (upN N (114 + N 0) c) := NB_up hN ⟨by omega, by omega, by omega, by omega, by omega, by omega, by omega⟩ ⟨by omega, by omega, by omega, by omega, by omega, by omega, by omega, by omega, by omega, by omega, by omega⟩
  have hl : ∀ r, r < N 0 + 1 → 1 ≤ Ln (upN N (114 + N 0) c) r := by
    intro r hr
    by_cases q : r = N 0
    · subst q; unfold Ln; rw [upN_s]; exact h1
    · unfold Ln; rw [upN_o _ (by omega)]; exact hN.2.2.2.2.2.2.2.2.1 r (by omega)
  refine ⟨hB1, NB_up hB1 ⟨fun _ => ⟨by omega, hl⟩, by omega, by omega, by omega, by omega, by omega, by omega⟩ ⟨by omega, by omega, by omega, by omega, by omega, by omega, by omega, by omega, by omega, by omega, by omega⟩, upN_s _ _ _, ?_, ?_, ?_⟩
  · unfold rlN; rw [upN_o _ (by omega), upN_o _ (by omega)]
  · unfold rlN; rw [upN_o _ (by omega), upN_o _ (by omega)]
  · unfold rlN Ln; rw [upN_o _ (by omega), upN_s]
theorem kyN_s (r : Nat) (q : Nat → Nat) (i : Nat) : kyN N r q (i + 1) = upN (kyN N r q i) (119 + 16 * r + i) (q i) := by
  unfold kyN; rw [fo_s, Nat.zero_add]; rfl
theorem kyN_ok (hN : NB N) {r : Nat} {q : Nat → Nat} (hr : r < 5) : ∀ i, i ≤ 16 → (∀ j, j < i → q j ≤ 5) → NB (kyN N r q i) ∧ ∀ t, ¬ (119 ≤ t ∧ t < 199) → kyN N r q i t = N t := by
  intro i
  induction i with
  | zero => intro _ _; exact ⟨hN, fun _ _ => rfl⟩
  | succ i ih =>
    intro hi hq
    obtain ⟨h1, h2⟩ := ih (by omega) (fun j hj => hq j (by omega))
    have q5 := hq i (by omega)
    rw [kyN_s]
    exact ⟨NB_up h1 ⟨by omega, by omega, by omega, by omega, by omega, by omega, by omega⟩ ⟨by omega, by omega, by omega, by omega, by omega, by omega, by omega, by omega, by omega, by omega, by omega⟩, fun t ht => by rw [upN_o _ (by omega)]; exact h2 t ht⟩
theorem cl_roll {t k nc z : Nat} {f c b' : Nat} (hn : 100000 ≤ n) (hO : OF O) (hN : NB N) (hx : XCl I0 t k nc 7 f c) (hm : MCl I0 t k 3 c b') (h1 : 1 ≤ c) (hc : c ≤ 16) (hz : I0 (300 + 6 * t) 5 = nI z) (hz3 : z ≤ 300) (hf : f + c ≤ z) {q : Nat → Nat} (hq : ∀ i, i < c → q i ≤ 5 ∧ I0 (300 + 6 * t + 1) (f + i) = nI (q i) ∧ I0 334 (1065 * t + 1 + 19 * k + 2 + i) = nI (q i)) : ∃ v N', ClP n O I0 t k N v N' := by
  have hB := NB_WB hN
  have b0 := hB.1
  have t4 : t < 4 := hx.2.2.2.1
  obtain ⟨o0, o1, o2, o3, o4⟩ := sc_o hO t4
  obtain ⟨m1, m2, m3, m4, m5, m6⟩ := hm
  have ein := m_inT (x := c) h1 hc (by omega)
  by_cases w : N 0 = 5
  · have lz : -nI 1 < nI 0 := by decide
    refine ⟨false, N, hN, rfl, rfl, fun I h => ⟨I, x_carry hO hx h (by omega) ?_, h⟩, fun J0 J L h4 hw h => ⟨J, L, ?_, h⟩⟩
    · obtain ⟨e1, e2, e3, e4⟩ := x_cl hO hx h
      have v3 : I 3 3 = nI (N 0) := (CS_V hO h).2.1
      show _ = some (nI 0, I)
      simp (disch := omega) only [f11_carryOut, e1, e2, e3, f11_cutRoll, f11_roll, f10_addRoll, o_1_0 hO, o_1_1 hO, o_1_2 hO, o_1_3 hO, o_1_4 hO, o_1_5 hO, o_1_6 hO, o_1_7 hO, o_1_8 hO, o_1_9 hO, o_2_0 hO, o_2_1 hO, o_2_2 hO, o_2_3 hO, o_2_4 hO, o_2_5 hO, o_3_0 hO, o_3_1 hO, o_3_2 hO, o_6_0 hO, o_6_1 hO, o_6_2 hO, o_10_0 hO, o_331_0 hO, v3, w, qL, qb, qbl, qadd, qmul, qsubm, qdm, qsub, qdiv, qcl, qlt, qle, qeq, nltT, nltF, nleT, nleF, neqT, neqF, or_false, false_or, or_true, true_or, or_self, and_true, true_and, and_false, false_and, and_self, not_true_eq_false, not_false_eq_true, ↓reduceIte]
    · have f4 : J 334 = I0 334 := by rw [ms334 h, h4]
      have v0 := h.1.2 0 (by omega)
      obtain ⟨n', hn'⟩ : ∃ n', n = n' + 1 := ⟨n - 1, by omega⟩
      have e74 : f12_isPlayed_c74 n O n J L 331 (nI (1065 * t + 1 + 19 * k)) (nI c) (-nI 1) (nI 0) = some (nI 0, J, L) := by
        have : ∀ n1, f12_isPlayed_c74 n O (n1 + 1) J L 331 (nI (1065 * t + 1 + 19 * k)) (nI c) (-nI 1) (nI 0) = some (nI 0, J, L) := by
          intro n1
          simp (disch := omega) only [f12_isPlayed_c74, lz, qL, qb, qbl, qadd, qmul, qsubm, qdm, qsub, qdiv, qcl, qlt, qle, qeq, nltT, nltF, nleT, nleF, neqT, neqF, or_false, false_or, or_true, true_or, or_self, and_true, true_and, and_false, false_and, and_self, not_true_eq_false, not_false_eq_true, ↓reduceIte]
        have t' := this n'
        rw [← hn'] at t'
        exact t'
      show _ = some (nI 0, J, L)
      simp (disch := omega) only [f12_isPlayed, o_331_2 hO, f4, m4, m5, m6, f12_roll, ein, h.1.1, v0, w, e74, qL, qb, qbl, qadd, qmul, qsubm, qdm, qsub, qdiv, qcl, qlt, qle, qeq, nltT, nltF, nleT, nleF, neqT, neqF, or_false, false_or, or_true, true_or, or_self, and_true, true_and, and_false, false_and, and_self, not_true_eq_false, not_false_eq_true, ↓reduceIte]
  · obtain ⟨r1, r2, r3, r4, r5, r6⟩ := rlN_ok hN h1 hc (by omega)
    have kok := fun i hi => kyN_ok (N := rlN N c) (q := q) r2 (r := N 0) (by omega) i hi
    obtain ⟨g1, g2⟩ := kok c hc (fun j hj => (hq j hj).1)
    have ne := neg_ne (j := N 0) (by omega)
    refine ⟨true, kyN (rlN N c) (N 0) q c, g1, by rw [g2 2 (by omega), r4], by rw [g2 3 (by omega), r5], fun I h => ?_, fun J0 J L h4 hw h => ?_⟩
    · obtain ⟨e1, e2, e3, e4⟩ := x_cl hO hx h
      have v3 : I 3 3 = nI (N 0) := (CS_V hO h).2.1
      have ea : la 2 (114 + N 0) = 4 := by simp (disch := omega) only [la, qL, qb, qbl, qadd, qmul, qsubm, qdm, qsub, qdiv, qcl, qlt, qle, qeq, nltT, nltF, nleT, nleF, neqT, neqF, or_false, false_or, or_true, true_or, or_self, and_true, true_and, and_false, false_and, and_self, not_true_eq_false, not_false_eq_true, ↓reduceIte]
      have ek : lk (114 + N 0) = N 0 := by simp (disch := omega) only [lk, qL, qb, qbl, qadd, qmul, qsubm, qdm, qsub, qdiv, qcl, qlt, qle, qeq, nltT, nltF, nleT, nleF, neqT, neqF, or_false, false_or, or_true, true_or, or_self, and_true, true_and, and_false, false_and, and_self, not_true_eq_false, not_false_eq_true, ↓reduceIte] <;> omega
      have c1 := CS_u h (t := 114 + N 0) (v := c) ea ek (by omega) (by omega) r1
      have c2 : CS I0 (sI (sI I 4 (N 0) (nI c)) 3 3 (nI (N 0 + 1))) (rlN N c) := CS_u c1 (t := 0) (v := N 0 + 1) (by decide) (by decide) (by omega) (by omega) r2
      have key : ∃ I', f11_cutRoll_c18 n O n (sI (sI I 4 (N 0) (nI c)) 3 3 (nI (N 0 + 1))) 1 (300 + 6 * t) (nI f) (nI c) (nI (N 0)) (nI 0) = some (nI 1, I') ∧ CS I0 I' (kyN (rlN N c) (N 0) q c) := by
        refine lpR (L := fun m i (s : TI) => f11_cutRoll_c18 n O m s 1 (300 + 6 * t) (nI f) (nI c) (nI (N 0)) (nI i)) (fun i s => CS I0 s (kyN (rlN N c) (N 0) q i)) (fun res => ∃ I', res = some (nI 1, I') ∧ CS I0 I' (kyN (rlN N c) (N 0) q c)) c ?_ ?_ c 0 n _ (by omega) (by omega) c2
        · intro m i s hi hs
          left
          obtain ⟨k1, k2⟩ := kok i (by omega) (fun j hj => (hq j (by omega)).1)
          have hBk := NB_WB k1
          obtain ⟨q5, q6, q7⟩ := hq i hi
          have hNB : NB (upN (kyN (rlN N c) (N 0) q i) (119 + 16 * (N 0) + i) (q i)) := NB_up k1 ⟨by omega, by omega, by omega, by omega, by omega, by omega, by omega⟩ ⟨by omega, by omega, by omega, by omega, by omega, by omega, by omega, by omega, by omega, by omega, by omega⟩
          have ea' : la 2 (119 + 16 * (N 0) + i) = 5 := by simp (disch := omega) only [la, qL, qb, qbl, qadd, qmul, qsubm, qdm, qsub, qdiv, qcl, qlt, qle, qeq, nltT, nltF, nleT, nleF, neqT, neqF, or_false, false_or, or_true, true_or, or_self, and_true, true_and, and_false, false_and, and_self, not_true_eq_false, not_false_eq_true, ↓reduceIte]
          have ek' : lk (119 + 16 * (N 0) + i) = (N 0) * 16 + i := by simp (disch := omega) only [lk, qL, qb, qbl, qadd, qmul, qsubm, qdm, qsub, qdiv, qcl, qlt, qle, qeq, nltT, nltF, nleT, nleF, neqT, neqF, or_false, false_or, or_true, true_or, or_self, and_true, true_and, and_false, false_and, and_self, not_true_eq_false, not_false_eq_true, ↓reduceIte] <;> omega
          have c4 := CS_u hs (t := 119 + 16 * (N 0) + i) (v := q i) ea' ek' (by omega) (by omega) hNB
          have fz := CS_f hs (a := 300 + 6 * t) (by omega)
          have fs := CS_f hs (a := 300 + 6 * t + 1) (by omega)
          have est : f7_stepAt s O (300 + 6 * t) (nI (f + i)) = some (nI (q i)) := by
            simp (disch := omega) only [f7_stepAt, fz, hz, o0, fs, q6, qL, qb, qbl, qadd, qmul, qsubm, qdm, qsub, qdiv, qcl, qlt, qle, qeq, nltT, nltF, nleT, nleF, neqT, neqF, or_false, false_or, or_true, true_or, or_self, and_true, true_and, and_false, false_and, and_self, not_true_eq_false, not_false_eq_true, ↓reduceIte]
          have ep := x_hasPlace (CS_V hO hs) hBk (r := N 0) (p := i) (by rw [k2 0 (by omega), r3]; omega) (by unfold Ln; rw [k2 _ (by omega)]; have : rlN N c (114 + N 0) = c := r6; omega)
          refine ⟨sI s 5 ((N 0) * 16 + i) (nI (q i)), by rw [kyN_s]; exact c4, ?_⟩
          simp (disch := omega) only [f11_cutRoll_c18, est, f11_hole, o_1_0 hO, o_1_1 hO, o_1_2 hO, o_1_3 hO, o_1_4 hO, o_1_5 hO, o_1_6 hO, o_1_7 hO, o_1_8 hO, o_1_9 hO, o_2_0 hO, o_2_1 hO, o_2_2 hO, o_2_3 hO, o_2_4 hO, o_2_5 hO, o_3_0 hO, o_3_1 hO, o_3_2 hO, o_6_0 hO, o_6_1 hO, o_6_2 hO, o_10_0 hO, o_331_0 hO, ep, qL, qb, qbl, qadd, qmul, qsubm, qdm, qsub, qdiv, qcl, qlt, qle, qeq, nltT, nltF, nleT, nleF, neqT, neqF, or_false, false_or, or_true, true_or, or_self, and_true, true_and, and_false, false_and, and_self, not_true_eq_false, not_false_eq_true, ↓reduceIte]
        · intro m s hs
          refine ⟨s, ?_, hs⟩
          simp (disch := omega) only [f11_cutRoll_c18, qL, qb, qbl, qadd, qmul, qsubm, qdm, qsub, qdiv, qcl, qlt, qle, qeq, nltT, nltF, nleT, nleF, neqT, neqF, or_false, false_or, or_true, true_or, or_self, and_true, true_and, and_false, false_and, and_self, not_true_eq_false, not_false_eq_true, ↓reduceIte]
      obtain ⟨I', p1, p2⟩ := key
      refine ⟨I', x_carry hO hx h (by omega) ?_, p2⟩
      show _ = some (nI 1, I')
      simp (disch := omega) only [f11_carryOut, e1, e2, e3, f11_cutRoll, f11_roll, f10_addRoll, o_1_0 hO, o_1_1 hO, o_1_2 hO, o_1_3 hO, o_1_4 hO, o_1_5 hO, o_1_6 hO, o_1_7 hO, o_1_8 hO, o_1_9 hO, o_2_0 hO, o_2_1 hO, o_2_2 hO, o_2_3 hO, o_2_4 hO, o_2_5 hO, o_3_0 hO, o_3_1 hO, o_3_2 hO, o_6_0 hO, o_6_1 hO, o_6_2 hO, o_10_0 hO, o_331_0 hO, v3, sI_s, sI_o, Nat.add_sub_cancel, ne, p1, qL, qb, qbl, qadd, qmul, qsubm, qdm, qsub, qdiv, qcl, qlt, qle, qeq, nltT, nltF, nleT, nleF, neqT, neqF, or_false, false_or, or_true, true_or, or_self, and_true, true_and, and_false, false_and, and_self, not_true_eq_false, not_false_eq_true, ↓reduceIte]
    · have f4 : J 334 = I0 334 := by rw [ms334 h, h4]
      have v0 := h.1.2 0 (by omega)
      have c2 : MS O J0 (sI (sI J 332 (114 + N 0) (nI c)) 332 0 (nI (N 0 + 1))) (rlN N c) := MS_u (MS_u h r1) r2
      have key : ∃ J', f12_isPlayed_c74 n O n (sI (sI J 332 (114 + N 0) (nI c)) 332 0 (nI (N 0 + 1))) L 331 (nI (1065 * t + 1 + 19 * k)) (nI c) (nI (N 0)) (nI 0) = some (nI 1, J', L) ∧ MS O J0 J' (kyN (rlN N c) (N 0) q c) := by
        refine lpR (L := fun m i (s : TI) => f12_isPlayed_c74 n O m s L 331 (nI (1065 * t + 1 + 19 * k)) (nI c) (nI (N 0)) (nI i)) (fun i s => MS O J0 s (kyN (rlN N c) (N 0) q i)) (fun res => ∃ J', res = some (nI 1, J', L) ∧ MS O J0 J' (kyN (rlN N c) (N 0) q c)) c ?_ ?_ c 0 n _ (by omega) (by omega) c2
        · intro m i s hi hs
          left
          obtain ⟨k1, k2⟩ := kok i (by omega) (fun j hj => (hq j (by omega)).1)
          obtain ⟨q5, q6, q7⟩ := hq i hi
          have hNB : NB (upN (kyN (rlN N c) (N 0) q i) (119 + 16 * (N 0) + i) (q i)) := NB_up k1 ⟨by omega, by omega, by omega, by omega, by omega, by omega, by omega⟩ ⟨by omega, by omega, by omega, by omega, by omega, by omega, by omega, by omega, by omega, by omega, by omega⟩
          have g4 : s 334 (1065 * t + 1 + 19 * k + 2 + i) = nI (q i) := by rw [ms334 hs, h4]; exact q7
          refine ⟨sI s 332 (119 + 16 * (N 0) + i) (nI (q i)), by rw [kyN_s]; exact MS_u hs hNB, ?_⟩
          simp (disch := omega) only [f12_isPlayed_c74, o_331_2 hO, hs.1.1, g4, qL, qb, qbl, qadd, qmul, qsubm, qdm, qsub, qdiv, qcl, qlt, qle, qeq, nltT, nltF, nleT, nleF, neqT, neqF, or_false, false_or, or_true, true_or, or_self, and_true, true_and, and_false, false_and, and_self, not_true_eq_false, not_false_eq_true, ↓reduceIte]
        · intro m s hs
          refine ⟨s, ?_, hs⟩
          simp (disch := omega) only [f12_isPlayed_c74, qL, qb, qbl, qadd, qmul, qsubm, qdm, qsub, qdiv, qcl, qlt, qle, qeq, nltT, nltF, nleT, nleF, neqT, neqF, or_false, false_or, or_true, true_or, or_self, and_true, true_and, and_false, false_and, and_self, not_true_eq_false, not_false_eq_true, ↓reduceIte]
      obtain ⟨J', p1, p2⟩ := key
      refine ⟨J', L, ?_, p2⟩
      show _ = some (nI 1, J', L)
      simp (disch := omega) only [f12_isPlayed, o_331_2 hO, f4, m4, m5, m6, f12_roll, ein, h.1.1, v0, sI_s, sI_k, Nat.add_sub_cancel, p1, qL, qb, qbl, qadd, qmul, qsubm, qdm, qsub, qdiv, qcl, qlt, qle, qeq, nltT, nltF, nleT, nleF, neqT, neqF, or_false, false_or, or_true, true_or, or_self, and_true, true_and, and_false, false_and, and_self, not_true_eq_false, not_false_eq_true, ↓reduceIte]
/-- each clause of a text, carried out by both -/
theorem cl_any {G : TN} {e f tp : Nat} (hn : 100000 ≤ n) {N0 : TN} (h : R0 tX I0 O N0 G e f tp) {t k nc : Nat} (ht : t < N0 2) (hc : I0 334 (1065 * t) = nI nc) (hnc : nc ≤ 24) (hk : k < nc) (hN : NB N) (h2 : N 2 = N0 2) (h3 : N 3 = N0 3) : ∃ v N', ClP n O I0 t k N v N' := by
  have hO := h.1
  obtain ⟨lw, l1, l2⟩ := R_lw h
  rw [← rlX_e h3] at l1
  rw [← h3] at l2
  obtain ⟨t4, nc', z, so, c1, c2, c3, c4, c5, c6, -⟩ := h.2.2.2.2.2.2.2.2.2.2.2 t ht
  have e1 : nc' = nc := by
    rw [c5] at hc
    exact (nI_eq (by omega) (by omega)).mp hc
  subst e1
  obtain ⟨d1, d2, d3, d4, d5, d6⟩ := c6 k hk
  have nIx : ∀ x : Int32, ∃ a : Nat, x = nI a := fun x => ⟨x.toBitVec.toNat, by
    have : nI x.toBitVec.toNat = x := by
      unfold nI
      exact Int32.toBitVec.inj (by simp)
    exact this.symm⟩
  obtain ⟨fa, hfa⟩ := nIx (I0 (300 + 6 * t + 3) k)
  obtain ⟨sb, hsb⟩ := nIx (I0 (300 + 6 * t + 4) k)
  obtain ⟨ma, hma⟩ := nIx (I0 334 (1065 * t + 1 + 19 * k + 1))
  obtain ⟨mb, hmb⟩ := nIx (I0 334 (1065 * t + 1 + 19 * k + 2))
  have so9 : so k = 0 ∨ so k = 1 ∨ so k = 2 ∨ so k = 3 ∨ so k = 4 ∨ so k = 5 ∨ so k = 6 ∨ so k = 7 ∨ so k = 8 := by omega
  have hk24 : k < 24 := by omega
  rcases so9 with s | s | s | s | s | s | s | s | s
  · rw [s] at d2 d3
    exact ⟨true, N, cl_law (s := 0) hO hN ⟨c3, hk, c1, t4, d3, by decide, hfa, hsb⟩ ⟨t4, hk24, by omega, d2, hma, hmb⟩ (by omega)⟩
  · rw [s] at d2 d3
    exact ⟨true, N, cl_law (s := 1) hO hN ⟨c3, hk, c1, t4, d3, by decide, hfa, hsb⟩ ⟨t4, hk24, by omega, d2, hma, hmb⟩ (by omega)⟩
  · rw [s] at d2 d3
    exact ⟨true, N, cl_law (s := 2) hO hN ⟨c3, hk, c1, t4, d3, by decide, hfa, hsb⟩ ⟨t4, hk24, by omega, d2, hma, hmb⟩ (by omega)⟩
  · rw [s] at d2 d3
    obtain ⟨g, c, q1, q2, q3, q4, q5, q6, q7⟩ := d4 s
    have hx : ∀ i, ∃ q, i < c → q ≤ 5 ∧ I0 (300 + 6 * t + 1) (g + i) = nI q ∧ I0 334 (1065 * t + 1 + 19 * k + 2 + i) = nI q := by
      intro i
      by_cases w : i < c
      · obtain ⟨q, hq⟩ := q7 i w
        exact ⟨q, fun _ => hq⟩
      · exact ⟨0, fun w' => absurd w' w⟩
    exact cl_roll hn hO hN ⟨c3, hk, c1, t4, d3, by decide, q4, q5⟩ ⟨t4, hk24, by omega, d2, q6, hmb⟩ q1 q2 c4 c2 q3 (fun i hi => Classical.choose_spec (hx i) hi)
  · rw [s] at d2 d3
    exact cl_child hO hN ⟨c3, hk, c1, t4, d3, by decide, hfa, hsb⟩ ⟨t4, hk24, by omega, d2, hma, hmb⟩
  · rw [s] at d2 d3
    obtain ⟨a, b, q1, q2, q3, q4, q5, q6⟩ := d5 (by omega) (by omega)
    exact cl_play hn hO hN l1 l2 ⟨c3, hk, c1, t4, d3, by decide, q3, q4⟩ ⟨t4, hk24, by omega, d2, q5, q6⟩ q1 q2
  · rw [s] at d2 d3
    obtain ⟨a, b, q1, q2, q3, q4, q5, q6⟩ := d5 (by omega) (by omega)
    exact cl_patch hn hO hN ⟨c3, hk, c1, t4, d3, by decide, q3, q4⟩ ⟨t4, hk24, by omega, d2, q5, q6⟩ q1 q2
  · rw [s] at d2 d3
    obtain ⟨a, b, q1, q2, q3, q4, q5, q6⟩ := d5 (by omega) (by omega)
    exact cl_forget hn hO hN ⟨c3, hk, c1, t4, d3, by decide, q3, q4⟩ ⟨t4, hk24, by omega, d2, q5, q6⟩ q1 q2
  · rw [s] at d2 d3
    obtain ⟨a, q1, q2, q3, q4⟩ := d6 s
    exact cl_sunday hn hO hN l1 l2 ⟨c3, hk, c1, t4, d3, by decide, q3, hsb⟩ ⟨t4, hk24, by omega, d2, q4, hmb⟩ q2
def rnF (F : Nat → TN → Bool × TN) : Nat → Nat → TN → Int32 × TN
  | 0, _, N => (-1, N)
  | d + 1, k, N => if (F k N).1 then rnF F d (k + 1) (F k N).2 else (nI k, (F k N).2)
theorem s_played (hn : 100000 ≤ n) (h : RE tX I O) (L : TL) (p1 : Int32) : ∃ (v : Int32) (I1 I2 : TI) (L2 : TL), f11_played n I O 1 p1 = some (v, I1) ∧ f12_played n I1 L O 331 p1 = some (v, I2, L2) ∧ RE tX I2 O := by
  obtain ⟨N, G, e, f, tp, h⟩ := h
  have hO := h.1
  have hV := RW_WV hO h.2.2.2.2.2.2.1
  have hN := h.2.2.2.1
  have hB := NB_WB hN
  have hM := h.2.1
  have hF := RW_fd h.2.2.2.2.2.2.1
  have b0 : N 0 ≤ 5 := hB.1
  have b1 : N 1 ≤ 4 := hB.2.1
  have hF0 := hF
  have b2 : N 2 ≤ 4 := hN.2.2.1
  by_cases h1 : inR p1 (N 2)
  · obtain ⟨t, ht, rfl⟩ := inR_of h1
    obtain ⟨t4, nc, z, so, c1, c2, c3, c4, c5, -⟩ := h.2.2.2.2.2.2.2.2.2.2.2 t ht
    have hx : ∀ k M, ∃ r : Bool × TN, k < nc → NB M → M 2 = N 2 → M 3 = N 3 → ClP n O I t k M r.1 r.2 := by
      intro k M
      by_cases q : k < nc ∧ NB M ∧ M 2 = N 2 ∧ M 3 = N 3
      · obtain ⟨v, M', g⟩ := cl_any hn h ht c5 c1 q.1 q.2.1 q.2.2.1 q.2.2.2
        exact ⟨(v, M'), fun _ _ _ _ => g⟩
      · exact ⟨(true, M), fun a b c d => absurd ⟨a, b, c, d⟩ q⟩
    let F : Nat → TN → Bool × TN := fun k M => Classical.choose (hx k M)
    have hF : ∀ k M, k < nc → NB M → M 2 = N 2 → M 3 = N 3 → ClP n O I t k M (F k M).1 (F k M).2 := fun k M => Classical.choose_spec (hx k M)
    have rok : ∀ d k M, k + d = nc → NB M → M 2 = N 2 → M 3 = N 3 → NB (rnF F d k M).2 ∧ (rnF F d k M).2 2 = N 2 := by
      intro d
      induction d with
      | zero => intro k M _ a b c; exact ⟨a, b⟩
      | succ d ih =>
        intro k M hk a b c
        obtain ⟨g1, g2, g3, -⟩ := hF k M (by omega) a b c
        show NB (if (F k M).1 = true then rnF F d (k + 1) (F k M).2 else (nI k, (F k M).2)).2 ∧ (if (F k M).1 = true then rnF F d (k + 1) (F k M).2 else (nI k, (F k M).2)).2 2 = N 2
        split
        · exact ih (k + 1) _ (by omega) g1 (g2.trans b) (g3.trans c)
        · exact ⟨g1, g2.trans b⟩
    have xrun : ∀ d k M (s : TI) m, k + d = nc → d < m → NB M → M 2 = N 2 → M 3 = N 3 → CS I s M → ∃ s', f11_played_c15 n O m s 1 (300 + 6 * t) (nI k) = some ((rnF F d k M).1, s') ∧ CS I s' (rnF F d k M).2 := by
      intro d
      induction d with
      | zero =>
        intro k M s m hk hm a b c hs
        obtain ⟨m', rfl⟩ : ∃ m', m = m' + 1 := ⟨m - 1, by omega⟩
        have fz : s (300 + 6 * t) 6 = nI nc := by rw [CS_f hs (by omega)]; exact c3
        refine ⟨s, ?_, hs⟩
        rw [f11_played_c15, fz, if_pos (by rw [nI_leI (by omega) (by omega)]; omega)]; rfl
      | succ d ih =>
        intro k M s m hk hm a b c hs
        obtain ⟨m', rfl⟩ : ∃ m', m = m' + 1 := ⟨m - 1, by omega⟩
        obtain ⟨g1, g2, g3, g4, -⟩ := hF k M (by omega) a b c
        obtain ⟨s1, x1, x2⟩ := g4 s hs
        have x1' := x1 m'
        show ∃ s', _ = some ((if (F k M).1 = true then rnF F d (k + 1) (F k M).2 else (nI k, (F k M).2)).1, s') ∧ CS I s' (if (F k M).1 = true then rnF F d (k + 1) (F k M).2 else (nI k, (F k M).2)).2
        cases hb : (F k M).1
        · rw [hb] at x1'
          exact ⟨s1, x1', x2⟩
        · rw [hb] at x1'
          obtain ⟨s2, y1, y2⟩ := ih (k + 1) _ s1 m' (by omega) (by omega) g1 (g2.trans b) (g3.trans c) x2
          exact ⟨s2, by rw [x1']; exact y1, y2⟩
    obtain ⟨I1, x1, x2⟩ := xrun nc 0 N I n (by omega) (by omega) hN rfl rfl (CS_r h)
    have hms := MS_r hM hN x2
    have hw0 : I1 331 23 = 1 := by rw [CS_f x2 (by omega)]; exact h.2.2.2.2.2.2.2.2.2.2.1
    have h40 : I1 334 = I 334 := CS_f x2 (by omega)
    have mrun : ∀ d k M (s : TI) (Ls : TL) m, k + d = nc → d < m → NB M → M 2 = N 2 → M 3 = N 3 → MS O I1 s M → ∃ s' L', f12_played_c21 n O m s Ls 331 (nI t) (nI k) = some ((rnF F d k M).1, s', L') ∧ MS O I1 s' (rnF F d k M).2 := by
      intro d
      induction d with
      | zero =>
        intro k M s Ls m hk hm a b c hs
        obtain ⟨m', rfl⟩ : ∃ m', m = m' + 1 := ⟨m - 1, by omega⟩
        have fz : s 334 (1065 * t) = nI nc := by rw [ms334 hs, h40]; exact c5
        have y : (1065 : Int32) * nI t = nI (1065 * t) := qmul 1065 t
        refine ⟨s, Ls, ?_, hs⟩
        rw [f12_played_c21, y, if_neg (nI_in (by omega) (by omega)), o_331_2 hO, qcl (by omega), fz, if_pos (by rw [nI_leI (by omega) (by omega)]; omega)]; rfl
      | succ d ih =>
        intro k M s Ls m hk hm a b c hs
        obtain ⟨m', rfl⟩ : ∃ m', m = m' + 1 := ⟨m - 1, by omega⟩
        have fz : s 334 (1065 * t) = nI nc := by rw [ms334 hs, h40]; exact c5
        have y : (1065 : Int32) * nI t = nI (1065 * t) := qmul 1065 t
        have y2 : nI (1065 * t) + 1 + 19 * nI k = nI (1065 * t + 1 + 19 * k) := by
          rw [show (19 : Int32) * nI k = nI (19 * k) from qmul 19 k, nI_1, qadd]
        obtain ⟨g1, g2, g3, -, g5⟩ := hF k M (by omega) a b c
        obtain ⟨s1, L1, q1, q2⟩ := g5 I1 s Ls h40 hw0 hs
        have st : f12_played_c21 n O (m' + 1) s Ls 331 (nI t) (nI k) = if bI (F k M).1 = 0 then some (nI k, s1, L1) else f12_played_c21 n O m' s1 L1 331 (nI t) (nI (k + 1)) := by
          rw [f12_played_c21, y, if_neg (nI_in (by omega) (by omega)), o_331_2 hO, qcl (by omega), fz, if_neg (by rw [nI_leI (by omega) (by omega)]; omega), y2, q1, qb, nI_1]
        show ∃ s' L', _ = some ((if (F k M).1 = true then rnF F d (k + 1) (F k M).2 else (nI k, (F k M).2)).1, s', L') ∧ MS O I1 s' (if (F k M).1 = true then rnF F d (k + 1) (F k M).2 else (nI k, (F k M).2)).2
        cases hb : (F k M).1
        · rw [hb] at st
          exact ⟨s1, L1, by rw [st, if_pos (show bI false = 0 from rfl)]; rfl, q2⟩
        · rw [hb] at st
          obtain ⟨s2, L2, y1, y2⟩ := ih (k + 1) _ s1 L1 m' (by omega) (by omega) g1 (g2.trans b) (g3.trans c) q2
          exact ⟨s2, L2, by rw [st, if_neg (show ¬ bI true = 0 by decide)]; exact y1, y2⟩
    obtain ⟨I2, L2, y1, y2⟩ := mrun nc 0 N I1 L n (by omega) (by omega) hN rfl rfl hms
    obtain ⟨g1, g2⟩ := rok nc 0 N (by omega) hN rfl rfl
    refine ⟨(rnF F nc 0 N).1, I1, I2, L2, ?_, ?_, R0_gen tXst h x2 y2 g2⟩
    · unfold f11_played
      rw [x_textOf hO hF0 hN ht, qb]
      exact x1
    · have e1 : f12_isIn (nI t) 0 (nI (N 2) - 1) = some 1 := by
        rw [m_isIn0 (by omega) (Classical.propDecidable _), if_pos h1]
      unfold f12_played
      rw [hM.1, hms.1.2 2 (by omega), e1, qb, if_neg (by decide)]
      exact y1
  · have e1 : f12_isIn p1 0 (nI (N 2) - 1) = some 0 := by rw [m_isIn0 (by omega) (Classical.propDecidable _), if_neg h1]
    have f2 := hF0.2.2.2.1
    refine ⟨-2, I, I, L, ?_, ?_, N, G, e, f, tp, h⟩
    · have et : f11_textOf I O 1 p1 = some none := by
        unfold f11_textOf
        by_cases q : p1 < 0
        · rw [if_pos q]
        · obtain ⟨j, hj, rfl⟩ := nI_of q
          have hj2 : N 2 ≤ j := Nat.le_of_not_lt (fun q => h1 (inR_nI q hj))
          rw [if_neg q, o_1_0 hO, f2, if_pos ((nI_leI (by omega) hj).mpr hj2)]
      unfold f11_played
      rw [et, qb]
    · unfold f12_played
      rw [hM.1, hM.2 2 (by omega), e1, qb, if_pos rfl]
end CR
