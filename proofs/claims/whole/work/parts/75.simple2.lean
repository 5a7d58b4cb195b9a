/-! more small methods -/
def FD (I : TI) (N : TN) : Prop := I 6 3 = nI (N 9) ∧ I 2 6 = nI (N 5) ∧ I 2 7 = nI (N 6) ∧ I 2 8 = nI (N 2) ∧ I 2 9 = nI (N 3) ∧ I 10 2 = nI (N 4) ∧ (∀ k, k < 30 → I 9 k = nI (N (4341 + k))) ∧ (∀ k, k < 8 → I 132 k = nI (N (199 + k))) ∧ (∀ k, k < 8 → I 133 k = nI (N (207 + 3 * k))) ∧ (∀ k, k < 8 → I 134 k = nI (N (208 + 3 * k))) ∧ (∀ k, k < 8 → I 135 k = nI (N (209 + 3 * k)))
theorem RW_fd {I : TI} {e : Nat} {N : TN} (h : RW I 2 e N) : FD I N := by
  obtain ⟨h, -⟩ := h
  refine ⟨h 9 (Or.inl (by omega)), h 5 (Or.inl (by omega)), h 6 (Or.inl (by omega)), h 2 (Or.inl (by omega)), h 3 (Or.inl (by omega)), h 4 (Or.inl (by omega)), fun k hk => ?_, fun k hk => ?_, fun k hk => ?_, fun k hk => ?_, fun k hk => ?_⟩
  · have q := h (4341 + k) (Or.inr (by omega))
    have e1 : la 2 (4341 + k) = 9 := by simp (disch := omega) only [la, qL, qb, qbl, qadd, qmul, qsubm, qdm, qsub, qdiv, qcl, qlt, qle, qeq, nltT, nltF, nleT, nleF, neqT, neqF, or_false, false_or, or_true, true_or, or_self, and_true, true_and, and_false, false_and, and_self, not_true_eq_false, not_false_eq_true, ↓reduceIte]
    have e2 : lk (4341 + k) = k := by simp (disch := omega) only [lk, qL, qb, qbl, qadd, qmul, qsubm, qdm, qsub, qdiv, qcl, qlt, qle, qeq, nltT, nltF, nleT, nleF, neqT, neqF, or_false, false_or, or_true, true_or, or_self, and_true, true_and, and_false, false_and, and_self, not_true_eq_false, not_false_eq_true, ↓reduceIte] <;> omega
    rw [e1, e2] at q; exact q
  · have q := h (199 + k) (Or.inl (by omega))
    have e1 : la 2 (199 + k) = 132 := by simp (disch := omega) only [la, qL, qb, qbl, qadd, qmul, qsubm, qdm, qsub, qdiv, qcl, qlt, qle, qeq, nltT, nltF, nleT, nleF, neqT, neqF, or_false, false_or, or_true, true_or, or_self, and_true, true_and, and_false, false_and, and_self, not_true_eq_false, not_false_eq_true, ↓reduceIte]
    have e2 : lk (199 + k) = k := by simp (disch := omega) only [lk, qL, qb, qbl, qadd, qmul, qsubm, qdm, qsub, qdiv, qcl, qlt, qle, qeq, nltT, nltF, nleT, nleF, neqT, neqF, or_false, false_or, or_true, true_or, or_self, and_true, true_and, and_false, false_and, and_self, not_true_eq_false, not_false_eq_true, ↓reduceIte] <;> omega
    rw [e1, e2] at q; exact q
  · have q := h (207 + 3 * k) (Or.inl (by omega))
    have e1 : la 2 (207 + 3 * k) = 133 := by simp (disch := omega) only [la, qL, qb, qbl, qadd, qmul, qsubm, qdm, qsub, qdiv, qcl, qlt, qle, qeq, nltT, nltF, nleT, nleF, neqT, neqF, or_false, false_or, or_true, true_or, or_self, and_true, true_and, and_false, false_and, and_self, not_true_eq_false, not_false_eq_true, ↓reduceIte] <;> omega
    have e2 : lk (207 + 3 * k) = k := by simp (disch := omega) only [lk, qL, qb, qbl, qadd, qmul, qsubm, qdm, qsub, qdiv, qcl, qlt, qle, qeq, nltT, nltF, nleT, nleF, neqT, neqF, or_false, false_or, or_true, true_or, or_self, and_true, true_and, and_false, false_and, and_self, not_true_eq_false, not_false_eq_true, ↓reduceIte] <;> omega
    rw [e1, e2] at q; exact q
  · have q := h (208 + 3 * k) (Or.inl (by omega))
    have e1 : la 2 (208 + 3 * k) = 134 := by simp (disch := omega) only [la, qL, qb, qbl, qadd, qmul, qsubm, qdm, qsub, qdiv, qcl, qlt, qle, qeq, nltT, nltF, nleT, nleF, neqT, neqF, or_false, false_or, or_true, true_or, or_self, and_true, true_and, and_false, false_and, and_self, not_true_eq_false, not_false_eq_true, ↓reduceIte] <;> omega
    have e2 : lk (208 + 3 * k) = k := by simp (disch := omega) only [lk, qL, qb, qbl, qadd, qmul, qsubm, qdm, qsub, qdiv, qcl, qlt, qle, qeq, nltT, nltF, nleT, nleF, neqT, neqF, or_false, false_or, or_true, true_or, or_self, and_true, true_and, and_false, false_and, and_self, not_true_eq_false, not_false_eq_true, ↓reduceIte] <;> omega
    rw [e1, e2] at q; exact q
  · have q := h (209 + 3 * k) (Or.inl (by omega))
    have e1 : la 2 (209 + 3 * k) = 135 := by simp (disch := omega) only [la, qL, qb, qbl, qadd, qmul, qsubm, qdm, qsub, qdiv, qcl, qlt, qle, qeq, nltT, nltF, nleT, nleF, neqT, neqF, or_false, false_or, or_true, true_or, or_self, and_true, true_and, and_false, false_and, and_self, not_true_eq_false, not_false_eq_true, ↓reduceIte] <;> omega
    have e2 : lk (209 + 3 * k) = k := by simp (disch := omega) only [lk, qL, qb, qbl, qadd, qmul, qsubm, qdm, qsub, qdiv, qcl, qlt, qle, qeq, nltT, nltF, nleT, nleF, neqT, neqF, or_false, false_or, or_true, true_or, or_self, and_true, true_and, and_false, false_and, and_self, not_true_eq_false, not_false_eq_true, ↓reduceIte] <;> omega
    rw [e1, e2] at q; exact q
theorem bk_lt {N : TN} (h : NB N) {k : Nat} (hk : k < 30) : N (4341 + k) < 3400000 := by
  have q := h.2.2.2.2.2.2.2.2.2.2.2.2.1.2.2.2.2.2.2 k hk
  have e1 : ts (107 + k) = 4341 + k := by unfold ts; rw [if_neg (by omega)]; omega
  simp only [e1] at q; exact q
theorem pg_le {N : TN} (h : NB N) : N 9 ≤ 30 := h.2.2.2.2.2.2.2.2.2.2.2.2.1.2.2.1
section Simple
variable {TX : TI → Nat → Prop} {I : TI} {L : TL} {O : TO} {N G : TN} {e f tp : Nat}
/-- a place of the row that the class holds at a, k -/
theorem R0_at (hT : TXst TX) (h : R0 TX I O N G e f tp) (t a k v : Nat) (ea : la 2 t = a) (ek : lk t = k) (ht : dm t) (h4 : t ≠ 4) (h2 : t ≠ 2) (hB : NB (upN N t v)) : R0 TX (sI (sI I a k (nI v)) 332 t (nI v)) O (upN N t v) G e f tp := by
  subst ea; subst ek
  exact R0_pt hT h ht h4 h2 hB (fun a k => rfl)
theorem s_about (h : RE TX I O) (p1 : Int32) : ∃ (v : Int32), f11_about I O 1 p1 = some v ∧ f12_about I O 331 p1 = some v ∧ RE TX I O := by
  have h0 := h
  obtain ⟨N, G, e, f, tp, h⟩ := h
  have hO := h.1
  have hV := RW_WV hO h.2.2.2.2.2.2.1
  have hN := h.2.2.2.1
  have hB := NB_WB hN
  have hM := h.2.1
  have hF := RW_fd h.2.2.2.2.2.2.1
  have b0 : N 0 ≤ 5 := hB.1
  have b1 : N 1 ≤ 4 := hB.2.1
  obtain ⟨-, v0, v1, -⟩ := hV
  obtain ⟨-, f5, f6, f2, f3, f4, -⟩ := hF
  have ht := h.2.2.2.2.2.2.2.2.1
  by_cases h1 : ((0 : Nat) : Int) ≤ p1.toInt ∧ p1.toInt ≤ ((7 : Nat) : Int)
  · obtain ⟨k, -, hk, rfl⟩ := inB h1
    have hk4 : k = 0 ∨ k = 1 ∨ k = 2 ∨ k = 3 ∨ k = 4 ∨ k = 5 ∨ k = 6 ∨ k = 7 := by omega
    rcases hk4 with rfl | rfl | rfl | rfl | rfl | rfl | rfl | rfl
    · exact ⟨nI (N 0), by simp (disch := omega) only [f11_about, o_1_0 hO, o_1_1 hO, o_1_2 hO, o_1_3 hO, o_1_4 hO, o_1_5 hO, o_1_6 hO, o_1_7 hO, o_1_8 hO, o_1_9 hO, o_2_0 hO, o_2_1 hO, o_2_2 hO, o_2_3 hO, o_2_4 hO, o_2_5 hO, o_3_0 hO, o_3_1 hO, o_3_2 hO, o_6_0 hO, o_6_1 hO, o_6_2 hO, o_10_0 hO, o_331_0 hO, v0, qL, qb, qbl, qadd, qmul, qsubm, qdm, qsub, qdiv, qcl, qlt, qle, qeq, nltT, nltF, nleT, nleF, neqT, neqF, or_false, false_or, or_true, true_or, or_self, and_true, true_and, and_false, false_and, and_self, not_true_eq_false, not_false_eq_true, ↓reduceIte], by simp (disch := omega) only [f12_about, f12_isIn, hM.1, hM.2, qL, qb, qbl, qadd, qmul, qsubm, qdm, qsub, qdiv, qcl, qlt, qle, qeq, nltT, nltF, nleT, nleF, neqT, neqF, or_false, false_or, or_true, true_or, or_self, and_true, true_and, and_false, false_and, and_self, not_true_eq_false, not_false_eq_true, ↓reduceIte], h0⟩
    · exact ⟨nI (N 1), by simp (disch := omega) only [f11_about, o_1_0 hO, o_1_1 hO, o_1_2 hO, o_1_3 hO, o_1_4 hO, o_1_5 hO, o_1_6 hO, o_1_7 hO, o_1_8 hO, o_1_9 hO, o_2_0 hO, o_2_1 hO, o_2_2 hO, o_2_3 hO, o_2_4 hO, o_2_5 hO, o_3_0 hO, o_3_1 hO, o_3_2 hO, o_6_0 hO, o_6_1 hO, o_6_2 hO, o_10_0 hO, o_331_0 hO, v1, qL, qb, qbl, qadd, qmul, qsubm, qdm, qsub, qdiv, qcl, qlt, qle, qeq, nltT, nltF, nleT, nleF, neqT, neqF, or_false, false_or, or_true, true_or, or_self, and_true, true_and, and_false, false_and, and_self, not_true_eq_false, not_false_eq_true, ↓reduceIte], by simp (disch := omega) only [f12_about, f12_isIn, hM.1, hM.2, qL, qb, qbl, qadd, qmul, qsubm, qdm, qsub, qdiv, qcl, qlt, qle, qeq, nltT, nltF, nleT, nleF, neqT, neqF, or_false, false_or, or_true, true_or, or_self, and_true, true_and, and_false, false_and, and_self, not_true_eq_false, not_false_eq_true, ↓reduceIte], h0⟩
    · exact ⟨nI (N 2), by simp (disch := omega) only [f11_about, o_1_0 hO, o_1_1 hO, o_1_2 hO, o_1_3 hO, o_1_4 hO, o_1_5 hO, o_1_6 hO, o_1_7 hO, o_1_8 hO, o_1_9 hO, o_2_0 hO, o_2_1 hO, o_2_2 hO, o_2_3 hO, o_2_4 hO, o_2_5 hO, o_3_0 hO, o_3_1 hO, o_3_2 hO, o_6_0 hO, o_6_1 hO, o_6_2 hO, o_10_0 hO, o_331_0 hO, f2, qL, qb, qbl, qadd, qmul, qsubm, qdm, qsub, qdiv, qcl, qlt, qle, qeq, nltT, nltF, nleT, nleF, neqT, neqF, or_false, false_or, or_true, true_or, or_self, and_true, true_and, and_false, false_and, and_self, not_true_eq_false, not_false_eq_true, ↓reduceIte], by simp (disch := omega) only [f12_about, f12_isIn, hM.1, hM.2, qL, qb, qbl, qadd, qmul, qsubm, qdm, qsub, qdiv, qcl, qlt, qle, qeq, nltT, nltF, nleT, nleF, neqT, neqF, or_false, false_or, or_true, true_or, or_self, and_true, true_and, and_false, false_and, and_self, not_true_eq_false, not_false_eq_true, ↓reduceIte], h0⟩
    · exact ⟨nI (N 3), by simp (disch := omega) only [f11_about, o_1_0 hO, o_1_1 hO, o_1_2 hO, o_1_3 hO, o_1_4 hO, o_1_5 hO, o_1_6 hO, o_1_7 hO, o_1_8 hO, o_1_9 hO, o_2_0 hO, o_2_1 hO, o_2_2 hO, o_2_3 hO, o_2_4 hO, o_2_5 hO, o_3_0 hO, o_3_1 hO, o_3_2 hO, o_6_0 hO, o_6_1 hO, o_6_2 hO, o_10_0 hO, o_331_0 hO, f3, qL, qb, qbl, qadd, qmul, qsubm, qdm, qsub, qdiv, qcl, qlt, qle, qeq, nltT, nltF, nleT, nleF, neqT, neqF, or_false, false_or, or_true, true_or, or_self, and_true, true_and, and_false, false_and, and_self, not_true_eq_false, not_false_eq_true, ↓reduceIte], by simp (disch := omega) only [f12_about, f12_isIn, hM.1, hM.2, qL, qb, qbl, qadd, qmul, qsubm, qdm, qsub, qdiv, qcl, qlt, qle, qeq, nltT, nltF, nleT, nleF, neqT, neqF, or_false, false_or, or_true, true_or, or_self, and_true, true_and, and_false, false_and, and_self, not_true_eq_false, not_false_eq_true, ↓reduceIte], h0⟩
    · exact ⟨nI (N 4), by simp (disch := omega) only [f11_about, o_1_0 hO, o_1_1 hO, o_1_2 hO, o_1_3 hO, o_1_4 hO, o_1_5 hO, o_1_6 hO, o_1_7 hO, o_1_8 hO, o_1_9 hO, o_2_0 hO, o_2_1 hO, o_2_2 hO, o_2_3 hO, o_2_4 hO, o_2_5 hO, o_3_0 hO, o_3_1 hO, o_3_2 hO, o_6_0 hO, o_6_1 hO, o_6_2 hO, o_10_0 hO, o_331_0 hO, f4, qL, qb, qbl, qadd, qmul, qsubm, qdm, qsub, qdiv, qcl, qlt, qle, qeq, nltT, nltF, nleT, nleF, neqT, neqF, or_false, false_or, or_true, true_or, or_self, and_true, true_and, and_false, false_and, and_self, not_true_eq_false, not_false_eq_true, ↓reduceIte], by simp (disch := omega) only [f12_about, f12_isIn, hM.1, hM.2, qL, qb, qbl, qadd, qmul, qsubm, qdm, qsub, qdiv, qcl, qlt, qle, qeq, nltT, nltF, nleT, nleF, neqT, neqF, or_false, false_or, or_true, true_or, or_self, and_true, true_and, and_false, false_and, and_self, not_true_eq_false, not_false_eq_true, ↓reduceIte], h0⟩
    · exact ⟨nI (N 5), by simp (disch := omega) only [f11_about, o_1_0 hO, o_1_1 hO, o_1_2 hO, o_1_3 hO, o_1_4 hO, o_1_5 hO, o_1_6 hO, o_1_7 hO, o_1_8 hO, o_1_9 hO, o_2_0 hO, o_2_1 hO, o_2_2 hO, o_2_3 hO, o_2_4 hO, o_2_5 hO, o_3_0 hO, o_3_1 hO, o_3_2 hO, o_6_0 hO, o_6_1 hO, o_6_2 hO, o_10_0 hO, o_331_0 hO, f5, qL, qb, qbl, qadd, qmul, qsubm, qdm, qsub, qdiv, qcl, qlt, qle, qeq, nltT, nltF, nleT, nleF, neqT, neqF, or_false, false_or, or_true, true_or, or_self, and_true, true_and, and_false, false_and, and_self, not_true_eq_false, not_false_eq_true, ↓reduceIte], by simp (disch := omega) only [f12_about, f12_isIn, hM.1, hM.2, qL, qb, qbl, qadd, qmul, qsubm, qdm, qsub, qdiv, qcl, qlt, qle, qeq, nltT, nltF, nleT, nleF, neqT, neqF, or_false, false_or, or_true, true_or, or_self, and_true, true_and, and_false, false_and, and_self, not_true_eq_false, not_false_eq_true, ↓reduceIte], h0⟩
    · exact ⟨nI (N 6), by simp (disch := omega) only [f11_about, o_1_0 hO, o_1_1 hO, o_1_2 hO, o_1_3 hO, o_1_4 hO, o_1_5 hO, o_1_6 hO, o_1_7 hO, o_1_8 hO, o_1_9 hO, o_2_0 hO, o_2_1 hO, o_2_2 hO, o_2_3 hO, o_2_4 hO, o_2_5 hO, o_3_0 hO, o_3_1 hO, o_3_2 hO, o_6_0 hO, o_6_1 hO, o_6_2 hO, o_10_0 hO, o_331_0 hO, f6, qL, qb, qbl, qadd, qmul, qsubm, qdm, qsub, qdiv, qcl, qlt, qle, qeq, nltT, nltF, nleT, nleF, neqT, neqF, or_false, false_or, or_true, true_or, or_self, and_true, true_and, and_false, false_and, and_self, not_true_eq_false, not_false_eq_true, ↓reduceIte], by simp (disch := omega) only [f12_about, f12_isIn, hM.1, hM.2, qL, qb, qbl, qadd, qmul, qsubm, qdm, qsub, qdiv, qcl, qlt, qle, qeq, nltT, nltF, nleT, nleF, neqT, neqF, or_false, false_or, or_true, true_or, or_self, and_true, true_and, and_false, false_and, and_self, not_true_eq_false, not_false_eq_true, ↓reduceIte], h0⟩
    · exact ⟨nI tp, by simp (disch := omega) only [f11_about, o_1_0 hO, o_1_1 hO, o_1_2 hO, o_1_3 hO, o_1_4 hO, o_1_5 hO, o_1_6 hO, o_1_7 hO, o_1_8 hO, o_1_9 hO, o_2_0 hO, o_2_1 hO, o_2_2 hO, o_2_3 hO, o_2_4 hO, o_2_5 hO, o_3_0 hO, o_3_1 hO, o_3_2 hO, o_6_0 hO, o_6_1 hO, o_6_2 hO, o_10_0 hO, o_331_0 hO, ht.2.1, qL, qb, qbl, qadd, qmul, qsubm, qdm, qsub, qdiv, qcl, qlt, qle, qeq, nltT, nltF, nleT, nleF, neqT, neqF, or_false, false_or, or_true, true_or, or_self, and_true, true_and, and_false, false_and, and_self, not_true_eq_false, not_false_eq_true, ↓reduceIte], by simp (disch := omega) only [f12_about, f12_isIn, ht.2.2.1, qL, qb, qbl, qadd, qmul, qsubm, qdm, qsub, qdiv, qcl, qlt, qle, qeq, nltT, nltF, nleT, nleF, neqT, neqF, or_false, false_or, or_true, true_or, or_self, and_true, true_and, and_false, false_and, and_self, not_true_eq_false, not_false_eq_true, ↓reduceIte], h0⟩
  · have a1 := m_inF (a := 0) (b := 6) (x := p1) (by omega) (by omega) (by omega)
    have a2 : ¬ p1 = nI 7 := fun q => by rw [q] at h1; revert h1; decide
    refine ⟨-2, ?_, by simp (disch := omega) only [f12_about, a1, a2, qL, qb, qbl, qadd, qmul, qsubm, qdm, qsub, qdiv, qcl, qlt, qle, qeq, nltT, nltF, nleT, nleF, neqT, neqF, or_false, false_or, or_true, true_or, or_self, and_true, true_and, and_false, false_and, and_self, not_true_eq_false, not_false_eq_true, ↓reduceIte], h0⟩
    unfold f11_about
    rw [if_neg, if_neg, if_neg, if_neg, if_neg, if_neg, if_neg, if_neg]
    all_goals (intro q; rw [q] at h1; revert h1; decide)
theorem s_fault (h : RE TX I O) (p1 : Int32) : ∃ (v : Int32), f11_fault I O 1 p1 = some v ∧ f12_fault I 331 p1 = some v ∧ RE TX I O := by
  have h0 := h
  obtain ⟨N, G, e, f, tp, h⟩ := h
  have hO := h.1
  have hV := RW_WV hO h.2.2.2.2.2.2.1
  have hN := h.2.2.2.1
  have hB := NB_WB hN
  have hM := h.2.1
  have hF := RW_fd h.2.2.2.2.2.2.1
  have b0 : N 0 ≤ 5 := hB.1
  have b1 : N 1 ≤ 4 := hB.2.1
  rcases h.2.2.2.2.2.2.2.2.2.1 with ⟨g1, g2, g3⟩ | ⟨g1, g2, g3⟩
  · refine ⟨-1, ?_, ?_, h0⟩
    · unfold f11_fault; rw [g1, if_pos rfl]
    · unfold f12_fault; rw [g2, g3]; split
      · rfl
      · split <;> rfl
  · refine ⟨if p1 = 0 then I 331 5 else if p1 = 1 then I 331 6 else -1, ?_, ?_, h0⟩
    · unfold f11_fault; rw [g1, if_neg (by decide), o_1_5 hO, g2, g3]; split
      · rfl
      · split <;> rfl
    · unfold f12_fault; split
      · rfl
      · split <;> rfl
theorem s_book (h : RE TX I O) (p1 p2 : Int32) : ∃ (v : Int32), f11_book I O 1 p1 p2 = some v ∧ f12_book I O 331 p1 p2 = some v ∧ RE TX I O := by
  have h0 := h
  obtain ⟨N, G, e, f, tp, h⟩ := h
  have hO := h.1
  have hV := RW_WV hO h.2.2.2.2.2.2.1
  have hN := h.2.2.2.1
  have hB := NB_WB hN
  have hM := h.2.1
  have hF := RW_fd h.2.2.2.2.2.2.1
  have b0 : N 0 ≤ 5 := hB.1
  have b1 : N 1 ≤ 4 := hB.2.1
  obtain ⟨f9, -, -, -, -, -, fb, -⟩ := hF
  have b9 := pg_le hN
  by_cases hm : p1 = -1
  · subst hm
    refine ⟨nI (N 9), ?_, ?_, h0⟩
    · unfold f11_book; rw [if_pos rfl, o_1_0 hO, o_2_0 hO, o_3_2 hO, f9]
    · unfold f12_book; rw [if_pos rfl, o_331_0 hO, hM.2 9 (by omega)]
  · have hm' : ¬ p1 = -nI 1 := hm
    by_cases h1 : inR p1 (N 9)
    · obtain ⟨k, hk, rfl⟩ := inR_of h1
      have bb := bk_lt hN (k := k) (by omega)
      have e1 : f12_isIn (nI k) (nI 0) (nI (N 9 - 1)) = some (nI 1) := m_inT (by omega) (by omega) (by omega)
      have em : I 332 (4341 + k) = nI (N (4341 + k)) := hM.2 _ (by omega)
      by_cases h2 : ((0 : Nat) : Int) ≤ p2.toInt ∧ p2.toInt ≤ ((3 : Nat) : Int)
      · obtain ⟨j, -, hj, rfl⟩ := inB h2
        have hj4 : j = 0 ∨ j = 1 ∨ j = 2 ∨ j = 3 := by omega
        rcases hj4 with rfl | rfl | rfl | rfl
        · exact ⟨nI (N (4341 + k) / 340), by simp (disch := omega) only [f11_book, f3_written, o_1_0 hO, o_1_1 hO, o_1_2 hO, o_1_3 hO, o_1_4 hO, o_1_5 hO, o_1_6 hO, o_1_7 hO, o_1_8 hO, o_1_9 hO, o_2_0 hO, o_2_1 hO, o_2_2 hO, o_2_3 hO, o_2_4 hO, o_2_5 hO, o_3_0 hO, o_3_1 hO, o_3_2 hO, o_6_0 hO, o_6_1 hO, o_6_2 hO, o_10_0 hO, o_331_0 hO, hm', f9, fb, Nat.div_div_eq_div_mul, Nat.reduceMul, qL, qb, qbl, qadd, qmul, qsubm, qdm, qsub, qdiv, qcl, qlt, qle, qeq, nltT, nltF, nleT, nleF, neqT, neqF, or_false, false_or, or_true, true_or, or_self, and_true, true_and, and_false, false_and, and_self, not_true_eq_false, not_false_eq_true, ↓reduceIte], by simp (disch := omega) only [f12_book, f12_entry, f12_isIn, hm', hM.1, hM.2 9, e1, em, qL, qb, qbl, qadd, qmul, qsubm, qdm, qsub, qdiv, qcl, qlt, qle, qeq, nltT, nltF, nleT, nleF, neqT, neqF, or_false, false_or, or_true, true_or, or_self, and_true, true_and, and_false, false_and, and_self, not_true_eq_false, not_false_eq_true, ↓reduceIte], h0⟩
        · exact ⟨nI (N (4341 + k) / 68 % 5), by simp (disch := omega) only [f11_book, f3_written, o_1_0 hO, o_1_1 hO, o_1_2 hO, o_1_3 hO, o_1_4 hO, o_1_5 hO, o_1_6 hO, o_1_7 hO, o_1_8 hO, o_1_9 hO, o_2_0 hO, o_2_1 hO, o_2_2 hO, o_2_3 hO, o_2_4 hO, o_2_5 hO, o_3_0 hO, o_3_1 hO, o_3_2 hO, o_6_0 hO, o_6_1 hO, o_6_2 hO, o_10_0 hO, o_331_0 hO, hm', f9, fb, qL, qb, qbl, qadd, qmul, qsubm, qdm, qsub, qdiv, qcl, qlt, qle, qeq, nltT, nltF, nleT, nleF, neqT, neqF, or_false, false_or, or_true, true_or, or_self, and_true, true_and, and_false, false_and, and_self, not_true_eq_false, not_false_eq_true, ↓reduceIte]; rw [Nat.div_div_eq_div_mul], by simp (disch := omega) only [f12_book, f12_entry, f12_isIn, hm', hM.1, hM.2 9, e1, em, qL, qb, qbl, qadd, qmul, qsubm, qdm, qsub, qdiv, qcl, qlt, qle, qeq, nltT, nltF, nleT, nleF, neqT, neqF, or_false, false_or, or_true, true_or, or_self, and_true, true_and, and_false, false_and, and_self, not_true_eq_false, not_false_eq_true, ↓reduceIte], h0⟩
        · exact ⟨nI (N (4341 + k) / 17 % 4), by simp (disch := omega) only [f11_book, f3_written, o_1_0 hO, o_1_1 hO, o_1_2 hO, o_1_3 hO, o_1_4 hO, o_1_5 hO, o_1_6 hO, o_1_7 hO, o_1_8 hO, o_1_9 hO, o_2_0 hO, o_2_1 hO, o_2_2 hO, o_2_3 hO, o_2_4 hO, o_2_5 hO, o_3_0 hO, o_3_1 hO, o_3_2 hO, o_6_0 hO, o_6_1 hO, o_6_2 hO, o_10_0 hO, o_331_0 hO, hm', f9, fb, qL, qb, qbl, qadd, qmul, qsubm, qdm, qsub, qdiv, qcl, qlt, qle, qeq, nltT, nltF, nleT, nleF, neqT, neqF, or_false, false_or, or_true, true_or, or_self, and_true, true_and, and_false, false_and, and_self, not_true_eq_false, not_false_eq_true, ↓reduceIte], by simp (disch := omega) only [f12_book, f12_entry, f12_isIn, hm', hM.1, hM.2 9, e1, em, qL, qb, qbl, qadd, qmul, qsubm, qdm, qsub, qdiv, qcl, qlt, qle, qeq, nltT, nltF, nleT, nleF, neqT, neqF, or_false, false_or, or_true, true_or, or_self, and_true, true_and, and_false, false_and, and_self, not_true_eq_false, not_false_eq_true, ↓reduceIte], h0⟩
        · exact ⟨nI (N (4341 + k) % 17), by simp (disch := omega) only [f11_book, f3_written, o_1_0 hO, o_1_1 hO, o_1_2 hO, o_1_3 hO, o_1_4 hO, o_1_5 hO, o_1_6 hO, o_1_7 hO, o_1_8 hO, o_1_9 hO, o_2_0 hO, o_2_1 hO, o_2_2 hO, o_2_3 hO, o_2_4 hO, o_2_5 hO, o_3_0 hO, o_3_1 hO, o_3_2 hO, o_6_0 hO, o_6_1 hO, o_6_2 hO, o_10_0 hO, o_331_0 hO, hm', f9, fb, Nat.div_div_eq_div_mul, Nat.reduceMul, qL, qb, qbl, qadd, qmul, qsubm, qdm, qsub, qdiv, qcl, qlt, qle, qeq, nltT, nltF, nleT, nleF, neqT, neqF, or_false, false_or, or_true, true_or, or_self, and_true, true_and, and_false, false_and, and_self, not_true_eq_false, not_false_eq_true, ↓reduceIte], by simp (disch := omega) only [f12_book, f12_entry, f12_isIn, hm', hM.1, hM.2 9, e1, em, qL, qb, qbl, qadd, qmul, qsubm, qdm, qsub, qdiv, qcl, qlt, qle, qeq, nltT, nltF, nleT, nleF, neqT, neqF, or_false, false_or, or_true, true_or, or_self, and_true, true_and, and_false, false_and, and_self, not_true_eq_false, not_false_eq_true, ↓reduceIte], h0⟩
      · have a1 := m_inF (a := 0) (b := 3) (x := p2) h2 (by omega) (by omega)
        have n0 : ¬ p2 = nI 0 := fun q => by rw [q] at h2; revert h2; decide
        have n1 : ¬ p2 = nI 1 := fun q => by rw [q] at h2; revert h2; decide
        have n2 : ¬ p2 = nI 2 := fun q => by rw [q] at h2; revert h2; decide
        have n3 : ¬ p2 = nI 3 := fun q => by rw [q] at h2; revert h2; decide
        exact ⟨-2, by simp (disch := omega) only [f11_book, f3_written, o_1_0 hO, o_1_1 hO, o_1_2 hO, o_1_3 hO, o_1_4 hO, o_1_5 hO, o_1_6 hO, o_1_7 hO, o_1_8 hO, o_1_9 hO, o_2_0 hO, o_2_1 hO, o_2_2 hO, o_2_3 hO, o_2_4 hO, o_2_5 hO, o_3_0 hO, o_3_1 hO, o_3_2 hO, o_6_0 hO, o_6_1 hO, o_6_2 hO, o_10_0 hO, o_331_0 hO, hm', f9, fb, n0, n1, n2, n3, qL, qb, qbl, qadd, qmul, qsubm, qdm, qsub, qdiv, qcl, qlt, qle, qeq, nltT, nltF, nleT, nleF, neqT, neqF, or_false, false_or, or_true, true_or, or_self, and_true, true_and, and_false, false_and, and_self, not_true_eq_false, not_false_eq_true, ↓reduceIte], by simp (disch := omega) only [f12_book, hm', hM.1, hM.2 9, e1, a1, qL, qb, qbl, qadd, qmul, qsubm, qdm, qsub, qdiv, qcl, qlt, qle, qeq, nltT, nltF, nleT, nleF, neqT, neqF, or_false, false_or, or_true, true_or, or_self, and_true, true_and, and_false, false_and, and_self, not_true_eq_false, not_false_eq_true, ↓reduceIte], h0⟩
    · have e1 : f12_isIn p1 0 (nI (N 9) - 1) = some 0 := by rw [m_isIn0 (by omega) (Classical.propDecidable _), if_neg h1]
      refine ⟨-2, ?_, ?_, h0⟩
      · by_cases q : p1 < 0
        · have q' : p1 < nI 0 := q
          simp (disch := omega) only [f11_book, f3_written, o_1_0 hO, o_1_1 hO, o_1_2 hO, o_1_3 hO, o_1_4 hO, o_1_5 hO, o_1_6 hO, o_1_7 hO, o_1_8 hO, o_1_9 hO, o_2_0 hO, o_2_1 hO, o_2_2 hO, o_2_3 hO, o_2_4 hO, o_2_5 hO, o_3_0 hO, o_3_1 hO, o_3_2 hO, o_6_0 hO, o_6_1 hO, o_6_2 hO, o_10_0 hO, o_331_0 hO, hm', q', qL, qb, qbl, qadd, qmul, qsubm, qdm, qsub, qdiv, qcl, qlt, qle, qeq, nltT, nltF, nleT, nleF, neqT, neqF, or_false, false_or, or_true, true_or, or_self, and_true, true_and, and_false, false_and, and_self, not_true_eq_false, not_false_eq_true, ↓reduceIte]
        · obtain ⟨j, hj, rfl⟩ := nI_of q
          have hj2 : N 9 ≤ j := Nat.le_of_not_lt (fun q => h1 (inR_nI q hj))
          simp (disch := omega) only [f11_book, f3_written, o_1_0 hO, o_1_1 hO, o_1_2 hO, o_1_3 hO, o_1_4 hO, o_1_5 hO, o_1_6 hO, o_1_7 hO, o_1_8 hO, o_1_9 hO, o_2_0 hO, o_2_1 hO, o_2_2 hO, o_2_3 hO, o_2_4 hO, o_2_5 hO, o_3_0 hO, o_3_1 hO, o_3_2 hO, o_6_0 hO, o_6_1 hO, o_6_2 hO, o_10_0 hO, o_331_0 hO, hm', f9, qL, qb, qbl, qadd, qmul, qsubm, qdm, qsub, qdiv, qcl, qlt, qle, qeq, nltT, nltF, nleT, nleF, neqT, neqF, or_false, false_or, or_true, true_or, or_self, and_true, true_and, and_false, false_and, and_self, not_true_eq_false, not_false_eq_true, ↓reduceIte]
      · unfold f12_book
        rw [if_neg hm, o_331_0 hO, hM.2 9 (by omega), e1]; rfl
theorem s_end (hT : TXst TX) (h : RE TX I O) (p1 : Int32) : ∃ (v : Int32) (I1 I2 : TI), f11_end I O 1 p1 = some (v, I1) ∧ f12_end I1 331 p1 = some (v, I2) ∧ RE TX I2 O := by
  obtain ⟨N, G, e, f, tp, h⟩ := h
  have hO := h.1
  have hV := RW_WV hO h.2.2.2.2.2.2.1
  have hN := h.2.2.2.1
  have hB := NB_WB hN
  have hM := h.2.1
  have hF := RW_fd h.2.2.2.2.2.2.1
  have b0 : N 0 ≤ 5 := hB.1
  have b1 : N 1 ≤ 4 := hB.2.1
  obtain ⟨t1, t2, t3, t4⟩ := h.2.2.2.2.2.2.2.2.1
  by_cases h1 : ((0 : Nat) : Int) ≤ p1.toInt ∧ p1.toInt ≤ (tp : Int)
  · obtain ⟨k, -, hk, rfl⟩ := inB h1
    refine ⟨nI k, sI I 278 4 (nI k), sI (sI I 278 4 (nI k)) 331 4 (nI k), ?_, ?_, N, G, e, f, k, ?_⟩
    · simp (disch := omega) only [f11_end, o_1_0 hO, o_1_1 hO, o_1_2 hO, o_1_3 hO, o_1_4 hO, o_1_5 hO, o_1_6 hO, o_1_7 hO, o_1_8 hO, o_1_9 hO, o_2_0 hO, o_2_1 hO, o_2_2 hO, o_2_3 hO, o_2_4 hO, o_2_5 hO, o_3_0 hO, o_3_1 hO, o_3_2 hO, o_6_0 hO, o_6_1 hO, o_6_2 hO, o_10_0 hO, o_331_0 hO, t2, qL, qb, qbl, qadd, qmul, qsubm, qdm, qsub, qdiv, qcl, qlt, qle, qeq, nltT, nltF, nleT, nleF, neqT, neqF, or_false, false_or, or_true, true_or, or_self, and_true, true_and, and_false, false_and, and_self, not_true_eq_false, not_false_eq_true, ↓reduceIte]
    · simp (disch := omega) only [f12_end, sI_o, t3, m_inT (Nat.zero_le k) hk, qL, qb, qbl, qadd, qmul, qsubm, qdm, qsub, qdiv, qcl, qlt, qle, qeq, nltT, nltF, nleT, nleF, neqT, neqF, or_false, false_or, or_true, true_or, or_self, and_true, true_and, and_false, false_and, and_self, not_true_eq_false, not_false_eq_true, ↓reduceIte]
    · obtain ⟨c1, c2, c3, c4, c5, c6, c7, c8, c9, c10, c11, c12⟩ := h
      have fr : ∀ a, a ≠ 278 → a ≠ 331 → sI (sI I 278 4 (nI k)) 331 4 (nI k) a = I a := fun a q1 q2 => by rw [sI_o _ _ q2, sI_o _ _ q1]
      have fr2 : ∀ j, j ≠ 4 → sI (sI I 278 4 (nI k)) 331 4 (nI k) 331 j = I 331 j := fun j q => by rw [sI_k _ _ q, sI_o _ _ (by omega)]
      refine ⟨c1, MV_fr c2 (fr 332 (by omega) (by omega)), fun t ht => by rw [fr 333 (by omega) (by omega)]; exact c3 t ht, c4, c5, c6, RW_fr c7 (fun a q1 q2 => fr a (by omega) (by omega)), RW_fr c8 (fun a q1 q2 => fr a (by omega) (by omega)), ⟨by omega, ?_, ?_, fun j hj => ?_⟩, ?_, by rw [fr2 23 (by omega)]; exact c11, fun t ht => hT I _ t (fun a q1 q2 => fr a (by omega) (by omega)) (fr 334 (by omega) (by omega)) (c12 t ht)⟩
      · rw [sI_o _ _ (by omega), sI_s]
      · rw [sI_s]
      · rw [fr 279 (by omega) (by omega), fr 335 (by omega) (by omega)]; exact t4 j (by omega)
      · unfold FV at *; rw [fr 1 (by omega) (by omega), fr2 5 (by omega), fr2 6 (by omega), fr 324 (by omega) (by omega)]; exact c10
  · have a1 := m_inF (a := 0) (b := tp) (x := p1) h1 (by omega) (by omega)
    refine ⟨-1, I, I, ?_, by simp (disch := omega) only [f12_end, t3, a1, qL, qb, qbl, qadd, qmul, qsubm, qdm, qsub, qdiv, qcl, qlt, qle, qeq, nltT, nltF, nleT, nleF, neqT, neqF, or_false, false_or, or_true, true_or, or_self, and_true, true_and, and_false, false_and, and_self, not_true_eq_false, not_false_eq_true, ↓reduceIte], N, G, e, f, tp, h⟩
    by_cases q : p1 < 0
    · have q' : p1 < nI 0 := q
      simp (disch := omega) only [f11_end, q', qL, qb, qbl, qadd, qmul, qsubm, qdm, qsub, qdiv, qcl, qlt, qle, qeq, nltT, nltF, nleT, nleF, neqT, neqF, or_false, false_or, or_true, true_or, or_self, and_true, true_and, and_false, false_and, and_self, not_true_eq_false, not_false_eq_true, ↓reduceIte]
    · obtain ⟨j, hj, rfl⟩ := nI_of q
      have hj2 : tp < j := by rw [qtoI hj] at h1; omega
      simp (disch := omega) only [f11_end, o_1_0 hO, o_1_1 hO, o_1_2 hO, o_1_3 hO, o_1_4 hO, o_1_5 hO, o_1_6 hO, o_1_7 hO, o_1_8 hO, o_1_9 hO, o_2_0 hO, o_2_1 hO, o_2_2 hO, o_2_3 hO, o_2_4 hO, o_2_5 hO, o_3_0 hO, o_3_1 hO, o_3_2 hO, o_6_0 hO, o_6_1 hO, o_6_2 hO, o_10_0 hO, o_331_0 hO, t2, qL, qb, qbl, qadd, qmul, qsubm, qdm, qsub, qdiv, qcl, qlt, qle, qeq, nltT, nltF, nleT, nleF, neqT, neqF, or_false, false_or, or_true, true_or, or_self, and_true, true_and, and_false, false_and, and_self, not_true_eq_false, not_false_eq_true, ↓reduceIte]
theorem s_by (hT : TXst TX) (h : RE TX I O) (p1 : Int32) : ∃ (v : Int32) (I1 I2 : TI), f11_by I O 1 p1 = some (v, I1) ∧ f12_by I1 O 331 p1 = some (v, I2) ∧ RE TX I2 O := by
  obtain ⟨N, G, e, f, tp, h⟩ := h
  have hO := h.1
  have hV := RW_WV hO h.2.2.2.2.2.2.1
  have hN := h.2.2.2.1
  have hB := NB_WB hN
  have hM := h.2.1
  have hF := RW_fd h.2.2.2.2.2.2.1
  have b0 : N 0 ≤ 5 := hB.1
  have b1 : N 1 ≤ 4 := hB.2.1
  obtain ⟨-, f5, f6, f2, f3, f4, -⟩ := hF
  have b2 : N 2 ≤ 4 := hN.2.2.1
  by_cases hm : p1 = -1
  · subst hm
    have e9 : (-1 : Int32) = nI 4294967295 := by decide
    have r1 := R0_at hT h 3 2 9 4294967295 (by decide) (by decide) (Or.inl (by omega)) (by omega) (by omega) (NB_up hN ⟨by omega, by omega, by omega, by omega, by omega, by omega, by omega⟩ ⟨by omega, by omega, by omega, by omega, by omega, by omega, by omega, by omega, by omega, by omega, by omega⟩)
    rw [← e9] at r1
    refine ⟨1, sI I 2 9 (-1), _, ?_, ?_, _, G, e, f, tp, r1⟩
    · unfold f11_by; rw [if_pos rfl, o_1_0 hO]; rfl
    · have q : f12_isIn (-1) (-1) (nI (N 2) - 1) = some 1 := by
        unfold f12_isIn; rw [if_neg (by decide), if_neg]
        rw [i_lt, qpred (by omega), lm1]; omega
      unfold f12_by; rw [o_331_0 hO, sI_o _ _ (by omega), hM.2 2 (by omega), q]; rfl
  · have hm' : ¬ p1 = -nI 1 := hm
    by_cases h1 : inR p1 (N 2)
    · obtain ⟨k, hk, rfl⟩ := inR_of h1
      have r1 := R0_at hT h 3 2 9 k (by decide) (by decide) (Or.inl (by omega)) (by omega) (by omega) (NB_up hN ⟨by omega, by omega, by omega, by omega, by omega, by omega, by omega⟩ ⟨by omega, by omega, by omega, by omega, by omega, by omega, by omega, by omega, by omega, by omega, by omega⟩)
      have o4 := (hO.2.2.2 k (by omega)).1
      refine ⟨1, sI I 2 9 (nI k), _, ?_, ?_, _, G, e, f, tp, r1⟩
      · simp (disch := omega) only [f11_by, f11_textOf, hm', o_1_0 hO, o_1_1 hO, o_1_2 hO, o_1_3 hO, o_1_4 hO, o_1_5 hO, o_1_6 hO, o_1_7 hO, o_1_8 hO, o_1_9 hO, o_2_0 hO, o_2_1 hO, o_2_2 hO, o_2_3 hO, o_2_4 hO, o_2_5 hO, o_3_0 hO, o_3_1 hO, o_3_2 hO, o_6_0 hO, o_6_1 hO, o_6_2 hO, o_10_0 hO, o_331_0 hO, f2, o4, qL, qb, qbl, qadd, qmul, qsubm, qdm, qsub, qdiv, qcl, qlt, qle, qeq, nltT, nltF, nleT, nleF, neqT, neqF, or_false, false_or, or_true, true_or, or_self, and_true, true_and, and_false, false_and, and_self, not_true_eq_false, not_false_eq_true, ↓reduceIte]
      · have q : f12_isIn (nI k) (-1) (nI (N 2) - 1) = some 1 := by
          unfold f12_isIn; rw [if_neg, if_neg]
          · rw [i_lt, qpred (by omega), qtoI (by omega)]; omega
          · rw [i_lt, lm1, qtoI (by omega)]; omega
        unfold f12_by; rw [o_331_0 hO, sI_o _ _ (by omega), hM.2 2 (by omega), q]; rfl
    · have q : f12_isIn p1 (-1) (nI (N 2) - 1) = some 0 := by
        unfold f12_isIn; split
        · rfl
        · next q1 =>
          rw [if_pos]
          rw [i_lt, qpred (by omega)]
          rw [i_lt, lm1] at q1
          have q2 : ¬ p1.toInt = -1 := fun q => hm (i_eq.mpr (by rw [q, lm1]))
          unfold inR at h1; omega
      refine ⟨0, I, I, ?_, ?_, N, G, e, f, tp, h⟩
      · by_cases q : p1 < 0
        · have q' : p1 < nI 0 := q
          simp (disch := omega) only [f11_by, f11_textOf, hm', q', qL, qb, qbl, qadd, qmul, qsubm, qdm, qsub, qdiv, qcl, qlt, qle, qeq, nltT, nltF, nleT, nleF, neqT, neqF, or_false, false_or, or_true, true_or, or_self, and_true, true_and, and_false, false_and, and_self, not_true_eq_false, not_false_eq_true, ↓reduceIte]
        · obtain ⟨j, hj, rfl⟩ := nI_of q
          have hj2 : N 2 ≤ j := Nat.le_of_not_lt (fun q => h1 (inR_nI q hj))
          simp (disch := omega) only [f11_by, f11_textOf, hm', o_1_0 hO, o_1_1 hO, o_1_2 hO, o_1_3 hO, o_1_4 hO, o_1_5 hO, o_1_6 hO, o_1_7 hO, o_1_8 hO, o_1_9 hO, o_2_0 hO, o_2_1 hO, o_2_2 hO, o_2_3 hO, o_2_4 hO, o_2_5 hO, o_3_0 hO, o_3_1 hO, o_3_2 hO, o_6_0 hO, o_6_1 hO, o_6_2 hO, o_10_0 hO, o_331_0 hO, f2, qL, qb, qbl, qadd, qmul, qsubm, qdm, qsub, qdiv, qcl, qlt, qle, qeq, nltT, nltF, nleT, nleF, neqT, neqF, or_false, false_or, or_true, true_or, or_self, and_true, true_and, and_false, false_and, and_self, not_true_eq_false, not_false_eq_true, ↓reduceIte]
      · unfold f12_by; rw [o_331_0 hO, hM.2 2 (by omega), q]; rfl
theorem s_phrase (hT : TXst TX) (h : RE TX I O) (p1 : Int32) : ∃ (v : Int32) (I1 I2 : TI), f11_phrase I O 1 p1 = some (v, I1) ∧ f12_phrase I1 O 331 p1 = some (v, I2) ∧ RE TX I2 O := by
  obtain ⟨N, G, e, f, tp, h⟩ := h
  have hO := h.1
  have hV := RW_WV hO h.2.2.2.2.2.2.1
  have hN := h.2.2.2.1
  have hB := NB_WB hN
  have hM := h.2.1
  have hF := RW_fd h.2.2.2.2.2.2.1
  have b0 : N 0 ≤ 5 := hB.1
  have b1 : N 1 ≤ 4 := hB.2.1
  obtain ⟨-, f5, -⟩ := hF
  have b5 : N 5 ≤ 8 := hN.2.2.2.2.2.1
  by_cases hm : p1 = -1
  · subst hm
    have r1 := R0_at hT h 5 2 6 0 (by decide) (by decide) (Or.inl (by omega)) (by omega) (by omega) (NB_up hN ⟨by omega, by omega, by omega, by omega, by omega, by omega, by omega⟩ ⟨by omega, by omega, by omega, by omega, by omega, by omega, by omega, by omega, by omega, by omega, by omega⟩)
    refine ⟨0, sI I 2 6 0, _, ?_, ?_, _, G, e, f, tp, r1⟩
    · unfold f11_phrase; rw [if_pos rfl, o_1_0 hO]; rfl
    · unfold f12_phrase; rw [if_pos rfl, o_331_0 hO]; rfl
  · have hm' : ¬ p1 = -nI 1 := hm
    by_cases h1 : ((0 : Nat) : Int) ≤ p1.toInt ∧ p1.toInt ≤ ((5 : Nat) : Int)
    · obtain ⟨k, -, hk, rfl⟩ := inB h1
      by_cases h8 : N 5 = 8
      · exact ⟨-2, I, I, by simp (disch := omega) only [f11_phrase, hm', o_1_0 hO, o_1_1 hO, o_1_2 hO, o_1_3 hO, o_1_4 hO, o_1_5 hO, o_1_6 hO, o_1_7 hO, o_1_8 hO, o_1_9 hO, o_2_0 hO, o_2_1 hO, o_2_2 hO, o_2_3 hO, o_2_4 hO, o_2_5 hO, o_3_0 hO, o_3_1 hO, o_3_2 hO, o_6_0 hO, o_6_1 hO, o_6_2 hO, o_10_0 hO, o_331_0 hO, f5, qL, qb, qbl, qadd, qmul, qsubm, qdm, qsub, qdiv, qcl, qlt, qle, qeq, nltT, nltF, nleT, nleF, neqT, neqF, or_false, false_or, or_true, true_or, or_self, and_true, true_and, and_false, false_and, and_self, not_true_eq_false, not_false_eq_true, ↓reduceIte], by simp (disch := omega) only [f12_phrase, hm', m_inT (Nat.zero_le k) hk, hM.1, hM.2, qL, qb, qbl, qadd, qmul, qsubm, qdm, qsub, qdiv, qcl, qlt, qle, qeq, nltT, nltF, nleT, nleF, neqT, neqF, or_false, false_or, or_true, true_or, or_self, and_true, true_and, and_false, false_and, and_self, not_true_eq_false, not_false_eq_true, ↓reduceIte], N, G, e, f, tp, h⟩
      · have e1 : la 2 (199 + N 5) = 132 := by simp (disch := omega) only [la, qL, qb, qbl, qadd, qmul, qsubm, qdm, qsub, qdiv, qcl, qlt, qle, qeq, nltT, nltF, nleT, nleF, neqT, neqF, or_false, false_or, or_true, true_or, or_self, and_true, true_and, and_false, false_and, and_self, not_true_eq_false, not_false_eq_true, ↓reduceIte]
        have e2 : lk (199 + N 5) = N 5 := by simp (disch := omega) only [lk, qL, qb, qbl, qadd, qmul, qsubm, qdm, qsub, qdiv, qcl, qlt, qle, qeq, nltT, nltF, nleT, nleF, neqT, neqF, or_false, false_or, or_true, true_or, or_self, and_true, true_and, and_false, false_and, and_self, not_true_eq_false, not_false_eq_true, ↓reduceIte] <;> omega
        have hB1 : NB (upN N (199 + N 5) k) := NB_up hN ⟨by omega, by omega, by omega, by omega, by omega, by omega, by omega⟩ ⟨by omega, by omega, by omega, by omega, by omega, by omega, by omega, by omega, by omega, by omega, by omega⟩
        have r1 := R0_at hT h (199 + N 5) 132 (N 5) k e1 e2 (Or.inl (by omega)) (by omega) (by omega) hB1
        have r2 := R0_at hT r1 5 2 6 (N 5 + 1) (by decide) (by decide) (Or.inl (by omega)) (by omega) (by omega) (NB_up hB1 ⟨by omega, by omega, by omega, by omega, by omega, by omega, by omega⟩ ⟨by omega, by omega, by omega, by omega, by omega, by omega, by omega, by omega, by omega, by omega, by omega⟩)
        rw [sI_comm (sI I 132 (N 5) (nI k)) (a := 332) (b := 2) _ _ (by omega)] at r2
        refine ⟨nI (N 5 + 1), sI (sI I 132 (N 5) (nI k)) 2 6 (nI (N 5 + 1)), _, ?_, ?_, _, G, e, f, tp, r2⟩
        · simp (disch := omega) only [f11_phrase, hm', o_1_0 hO, o_1_1 hO, o_1_2 hO, o_1_3 hO, o_1_4 hO, o_1_5 hO, o_1_6 hO, o_1_7 hO, o_1_8 hO, o_1_9 hO, o_2_0 hO, o_2_1 hO, o_2_2 hO, o_2_3 hO, o_2_4 hO, o_2_5 hO, o_3_0 hO, o_3_1 hO, o_3_2 hO, o_6_0 hO, o_6_1 hO, o_6_2 hO, o_10_0 hO, o_331_0 hO, f5, sI_s, sI_o, qL, qb, qbl, qadd, qmul, qsubm, qdm, qsub, qdiv, qcl, qlt, qle, qeq, nltT, nltF, nleT, nleF, neqT, neqF, or_false, false_or, or_true, true_or, or_self, and_true, true_and, and_false, false_and, and_self, not_true_eq_false, not_false_eq_true, ↓reduceIte]
        · simp (disch := omega) only [f12_phrase, hm', m_inT (Nat.zero_le k) hk, hM.1, sI_o, hM.2, sI_s, sI_k, qL, qb, qbl, qadd, qmul, qsubm, qdm, qsub, qdiv, qcl, qlt, qle, qeq, nltT, nltF, nleT, nleF, neqT, neqF, or_false, false_or, or_true, true_or, or_self, and_true, true_and, and_false, false_and, and_self, not_true_eq_false, not_false_eq_true, ↓reduceIte]
    · have a1 := m_inF (a := 0) (b := 5) (x := p1) h1 (by omega) (by omega)
      refine ⟨-2, I, I, ?_, by simp (disch := omega) only [f12_phrase, hm', a1, qL, qb, qbl, qadd, qmul, qsubm, qdm, qsub, qdiv, qcl, qlt, qle, qeq, nltT, nltF, nleT, nleF, neqT, neqF, or_false, false_or, or_true, true_or, or_self, and_true, true_and, and_false, false_and, and_self, not_true_eq_false, not_false_eq_true, ↓reduceIte], N, G, e, f, tp, h⟩
      by_cases q : p1 < 0
      · have q' : p1 < nI 0 := q
        simp (disch := omega) only [f11_phrase, hm', q', qL, qb, qbl, qadd, qmul, qsubm, qdm, qsub, qdiv, qcl, qlt, qle, qeq, nltT, nltF, nleT, nleF, neqT, neqF, or_false, false_or, or_true, true_or, or_self, and_true, true_and, and_false, false_and, and_self, not_true_eq_false, not_false_eq_true, ↓reduceIte]
      · obtain ⟨j, hj, rfl⟩ := nI_of q
        have hj2 : 5 < j := by rw [qtoI hj] at h1; omega
        simp (disch := omega) only [f11_phrase, hm', qL, qb, qbl, qadd, qmul, qsubm, qdm, qsub, qdiv, qcl, qlt, qle, qeq, nltT, nltF, nleT, nleF, neqT, neqF, or_false, false_or, or_true, true_or, or_self, and_true, true_and, and_false, false_and, and_self, not_true_eq_false, not_false_eq_true, ↓reduceIte]
end Simple
