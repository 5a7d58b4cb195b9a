/-! the small methods -/
theorem sI_comm (I : TI) {a b k j : Nat} (v w : Int32) (h : a ≠ b) : sI (sI I a k v) b j w = sI (sI I b j w) a k v := by
  funext c i
  by_cases hc : c = b
  · subst hc
    rw [sI_o (sI I c j w) v (Ne.symm h)]
    by_cases hi : i = j
    · subst hi; rw [sI_s, sI_s]
    · rw [sI_k _ _ hi, sI_k _ _ hi, sI_o I v (Ne.symm h)]
  · rw [sI_o _ w hc]
    by_cases h2 : c = a
    · subst h2
      by_cases hi : i = k
      · subst hi; rw [sI_s, sI_s]
      · rw [sI_k _ _ hi, sI_k _ _ hi, sI_o I w hc]
    · rw [sI_o _ v h2, sI_o _ v h2, sI_o _ w hc]
theorem inB {x : Int32} {a b : Nat} (h : (a : Int) ≤ x.toInt ∧ x.toInt ≤ b) : ∃ n, a ≤ n ∧ n ≤ b ∧ x = nI n := by
  have h3 := i_rng x
  exact ⟨x.toInt.toNat, by omega, by omega, qofI (by omega) (by omega)⟩
theorem outB {x : Int32} {a b : Nat} (ha : a < 2147483648) (hb : b < 2147483648) (h : ¬ ((a : Int) ≤ x.toInt ∧ x.toInt ≤ b)) : x < nI a ∨ (¬ x < nI a ∧ nI b < x) := by
  rw [i_lt, i_lt, qtoI ha, qtoI hb]; omega
theorem ifp {α : Type} {c : Prop} [Decidable c] {a b : α} (h : c) : (if c then a else b) = a := if_pos h
section Simple
variable {TX : TI → Nat → Prop} {I : TI} {L : TL} {O : TO}
theorem s_child (hT : TXst TX) (h : RE TX I O) : ∃ (v : Int32) (I1 I2 : TI), f11_child I O 1 = some (v, I1) ∧ f12_child I1 O 331 = some (v, I2) ∧ RE TX I2 O := by
  obtain ⟨N, G, e, f, tp, h⟩ := h
  have hO := h.1
  have hV := RW_WV hO h.2.2.2.2.2.2.1
  have hB := h.2.2.2.1
  have hM := h.2.1
  have v4 : I 3 4 = nI (N 1) := hV.2.2.1
  have b1 : N 1 ≤ 4 := hB.2.1
  by_cases hc : N 1 = 4
  · refine ⟨-1, I, I, ?_, ?_, N, G, e, f, tp, h⟩
    · simp (disch := omega) only [f11_child, f10_addChild, o_1_0 hO, o_2_0 hO, v4, qL, qb, qbl, qadd, qmul, qsubm, qdm, qsub, qdiv, qcl, qlt, qle, qeq, nltT, nltF, nleT, nleF, neqT, neqF, or_false, false_or, or_true, true_or, or_self, and_true, true_and, and_false, false_and, and_self, not_true_eq_false, not_false_eq_true, ↓reduceIte]
    · simp (disch := omega) only [f12_child, hM.1, hM.2, qL, qb, qbl, qadd, qmul, qsubm, qdm, qsub, qdiv, qcl, qlt, qle, qeq, nltT, nltF, nleT, nleF, neqT, neqF, or_false, false_or, or_true, true_or, or_self, and_true, true_and, and_false, false_and, and_self, not_true_eq_false, not_false_eq_true, ↓reduceIte]
  · refine ⟨nI (N 1), sI I 3 4 (nI (N 1 + 1)), sI (sI I 3 4 (nI (N 1 + 1))) 332 1 (nI (N 1 + 1)), ?_, ?_, upN N 1 (N 1 + 1), G, e, f, tp, R0_pt hT h (t := 1) (Or.inl (by omega)) (by omega) (by omega) (NB_up hB ⟨by omega, by omega, by omega, by omega, by omega, by omega, by omega⟩ ⟨by omega, by omega, by omega, by omega, by omega, by omega, by omega, by omega, by omega, by omega, by omega⟩) (fun a k => rfl)⟩
    · simp (disch := omega) only [f11_child, f10_addChild, o_1_0 hO, o_2_0 hO, v4, sI_s, Nat.add_sub_cancel, qL, qb, qbl, qadd, qmul, qsubm, qdm, qsub, qdiv, qcl, qlt, qle, qeq, nltT, nltF, nleT, nleF, neqT, neqF, or_false, false_or, or_true, true_or, or_self, and_true, true_and, and_false, false_and, and_self, not_true_eq_false, not_false_eq_true, ↓reduceIte]
    · simp (disch := omega) only [f12_child, hM.1, sI_o, hM.2, sI_s, Nat.add_sub_cancel, qL, qb, qbl, qadd, qmul, qsubm, qdm, qsub, qdiv, qcl, qlt, qle, qeq, nltT, nltF, nleT, nleF, neqT, neqF, or_false, false_or, or_true, true_or, or_self, and_true, true_and, and_false, false_and, and_self, not_true_eq_false, not_false_eq_true, ↓reduceIte]
theorem s_roll (hT : TXst TX) (h : RE TX I O) (p1 : Int32) : ∃ (v : Int32) (I1 I2 : TI), f11_roll I O 1 p1 = some (v, I1) ∧ f12_roll I1 O 331 p1 = some (v, I2) ∧ RE TX I2 O := by
  obtain ⟨N, G, e, f, tp, h⟩ := h
  have hO := h.1
  have hV := RW_WV hO h.2.2.2.2.2.2.1
  have hB := h.2.2.2.1
  have hM := h.2.1
  have v3 : I 3 3 = nI (N 0) := hV.2.1
  have b0 : N 0 ≤ 5 := hB.1
  by_cases hp : ((1 : Nat) : Int) ≤ p1.toInt ∧ p1.toInt ≤ ((16 : Nat) : Int)
  · obtain ⟨n, hn1, hn2, rfl⟩ := inB hp
    by_cases hc : N 0 = 5
    · refine ⟨-1, I, I, ?_, ?_, N, G, e, f, tp, h⟩
      · simp (disch := omega) only [f11_roll, f10_addRoll, o_1_0 hO, o_2_0 hO, v3, qL, qb, qbl, qadd, qmul, qsubm, qdm, qsub, qdiv, qcl, qlt, qle, qeq, nltT, nltF, nleT, nleF, neqT, neqF, or_false, false_or, or_true, true_or, or_self, and_true, true_and, and_false, false_and, and_self, not_true_eq_false, not_false_eq_true, ↓reduceIte]
      · simp (disch := omega) only [f12_roll, m_inT hn1 hn2 (by omega), hM.1, hM.2, qL, qb, qbl, qadd, qmul, qsubm, qdm, qsub, qdiv, qcl, qlt, qle, qeq, nltT, nltF, nleT, nleF, neqT, neqF, or_false, false_or, or_true, true_or, or_self, and_true, true_and, and_false, false_and, and_self, not_true_eq_false, not_false_eq_true, ↓reduceIte]
    · have hl : Ln (upN N (114 + N 0) n) = fun r => if r = N 0 then n else Ln N r := by
        funext r; unfold Ln upN; by_cases q : r = N 0
        · rw [if_pos q, if_pos (by omega)]
        · rw [if_neg q, if_neg (by omega)]
      have hB1 : NB (upN N (114 + N 0) n) := NB_up hB ⟨by omega, by omega, by omega, by omega, by omega, by omega, by omega⟩ ⟨by omega, by omega, by omega, by omega, by omega, by omega, by omega, by omega, by omega, by omega, by omega⟩
      have e0 : upN N (114 + N 0) n 0 = N 0 := upN_o N (by omega)
      have hl1 : ∀ r, r < N 0 + 1 → 1 ≤ Ln (upN N (114 + N 0) n) r := by
        intro r hr
        rw [hl]
        show 1 ≤ if r = N 0 then n else Ln N r
        split
        · exact hn1
        · exact hB.2.2.2.2.2.2.2.2.1 r (by omega)
      have hB2 : NB (upN (upN N (114 + N 0) n) 0 (N 0 + 1)) := NB_up hB1 ⟨fun _ => ⟨by omega, hl1⟩, by omega, by omega, by omega, by omega, by omega, by omega⟩ ⟨by omega, by omega, by omega, by omega, by omega, by omega, by omega, by omega, by omega, by omega, by omega⟩
      have r1 := R0_pt (I' := sI (sI I (la 2 (114 + N 0)) (lk (114 + N 0)) (nI n)) 332 (114 + N 0) (nI n)) hT h (t := 114 + N 0) (v := n) (Or.inl (by omega)) (by omega) (by omega) hB1 (fun a k => rfl)
      have ea : la 2 (114 + N 0) = 4 := by simp (disch := omega) only [la, qL, qb, qbl, qadd, qmul, qsubm, qdm, qsub, qdiv, qcl, qlt, qle, qeq, nltT, nltF, nleT, nleF, neqT, neqF, or_false, false_or, or_true, true_or, or_self, and_true, true_and, and_false, false_and, and_self, not_true_eq_false, not_false_eq_true, ↓reduceIte]
      have ek : lk (114 + N 0) = N 0 := by simp (disch := omega) only [lk, qL, qb, qbl, qadd, qmul, qsubm, qdm, qsub, qdiv, qcl, qlt, qle, qeq, nltT, nltF, nleT, nleF, neqT, neqF, or_false, false_or, or_true, true_or, or_self, and_true, true_and, and_false, false_and, and_self, not_true_eq_false, not_false_eq_true, ↓reduceIte] <;> omega
      rw [ea, ek] at r1
      have r2 := R0_pt (I' := sI (sI (sI (sI I 4 (N 0) (nI n)) 3 3 (nI (N 0 + 1))) 332 (114 + N 0) (nI n)) 332 0 (nI (N 0 + 1))) hT r1 (t := 0) (v := N 0 + 1) (Or.inl (by omega)) (by omega) (by omega) hB2 (fun a k => by
        rw [sI_comm (sI I 4 (N 0) (nI n)) (a := 3) (b := 332) _ _ (by omega)]; rfl)
      refine ⟨nI (N 0), sI (sI I 4 (N 0) (nI n)) 3 3 (nI (N 0 + 1)), _, ?_, ?_, _, G, e, f, tp, r2⟩
      · simp (disch := omega) only [f11_roll, f10_addRoll, o_1_0 hO, o_2_0 hO, o_3_0 hO, v3, sI_s, sI_o, Nat.add_sub_cancel, qL, qb, qbl, qadd, qmul, qsubm, qdm, qsub, qdiv, qcl, qlt, qle, qeq, nltT, nltF, nleT, nleF, neqT, neqF, or_false, false_or, or_true, true_or, or_self, and_true, true_and, and_false, false_and, and_self, not_true_eq_false, not_false_eq_true, ↓reduceIte]
      · simp (disch := omega) only [f12_roll, m_inT hn1 hn2 (by omega), hM.1, sI_o, hM.2, sI_s, sI_k, Nat.add_sub_cancel, qL, qb, qbl, qadd, qmul, qsubm, qdm, qsub, qdiv, qcl, qlt, qle, qeq, nltT, nltF, nleT, nleF, neqT, neqF, or_false, false_or, or_true, true_or, or_self, and_true, true_and, and_false, false_and, and_self, not_true_eq_false, not_false_eq_true, ↓reduceIte]
  · have e1 := outB (by omega) (by omega) hp
    refine ⟨-1, I, I, ?_, ?_, N, G, e, f, tp, h⟩
    · rcases e1 with e1 | ⟨e1, e2⟩
      · simp (disch := omega) only [f11_roll, f10_addRoll, e1, qL, qb, qbl, qadd, qmul, qsubm, qdm, qsub, qdiv, qcl, qlt, qle, qeq, nltT, nltF, nleT, nleF, neqT, neqF, or_false, false_or, or_true, true_or, or_self, and_true, true_and, and_false, false_and, and_self, not_true_eq_false, not_false_eq_true, ↓reduceIte]
      · simp (disch := omega) only [f11_roll, f10_addRoll, e1, e2, qL, qb, qbl, qadd, qmul, qsubm, qdm, qsub, qdiv, qcl, qlt, qle, qeq, nltT, nltF, nleT, nleF, neqT, neqF, or_false, false_or, or_true, true_or, or_self, and_true, true_and, and_false, false_and, and_self, not_true_eq_false, not_false_eq_true, ↓reduceIte]
    · have e2 := m_inF hp (by omega) (by omega)
      simp (disch := omega) only [f12_roll, e2, qL, qb, qbl, qadd, qmul, qsubm, qdm, qsub, qdiv, qcl, qlt, qle, qeq, nltT, nltF, nleT, nleF, neqT, neqF, or_false, false_or, or_true, true_or, or_self, and_true, true_and, and_false, false_and, and_self, not_true_eq_false, not_false_eq_true, ↓reduceIte]
theorem s_hole (hT : TXst TX) (h : RE TX I O) (p1 p2 p3 : Int32) : ∃ (v : Int32) (I1 I2 : TI), f11_hole I O 1 p1 p2 p3 = some (v, I1) ∧ f12_hole I1 O 331 p1 p2 p3 = some (v, I2) ∧ RE TX I2 O := by
  obtain ⟨N, G, e, f, tp, h⟩ := h
  have hO := h.1
  have hV := RW_WV hO h.2.2.2.2.2.2.1
  have hN := h.2.2.2.1
  have hB := NB_WB hN
  have hM := h.2.1
  have b0 : N 0 ≤ 5 := hB.1
  by_cases h1 : inR p1 (N 0)
  · obtain ⟨r, hr, rfl⟩ := inR_of h1
    by_cases h2 : inR p2 (Ln N r)
    · obtain ⟨p, hp, rfl⟩ := inR_of h2
      obtain ⟨b1, b2⟩ := place_lt hB hr hp
      have ex := x_hasPlace hV hB hr hp
      have em := m_isPlace hM hB hr hp
      by_cases h3 : ((0 : Nat) : Int) ≤ p3.toInt ∧ p3.toInt ≤ ((5 : Nat) : Int)
      · obtain ⟨k, -, hk, rfl⟩ := inB h3
        have ea : la 2 (119 + 16 * r + p) = 5 := by simp (disch := omega) only [la, qL, qb, qbl, qadd, qmul, qsubm, qdm, qsub, qdiv, qcl, qlt, qle, qeq, nltT, nltF, nleT, nleF, neqT, neqF, or_false, false_or, or_true, true_or, or_self, and_true, true_and, and_false, false_and, and_self, not_true_eq_false, not_false_eq_true, ↓reduceIte]
        have ek : lk (119 + 16 * r + p) = r * 16 + p := by simp (disch := omega) only [lk, qL, qb, qbl, qadd, qmul, qsubm, qdm, qsub, qdiv, qcl, qlt, qle, qeq, nltT, nltF, nleT, nleF, neqT, neqF, or_false, false_or, or_true, true_or, or_self, and_true, true_and, and_false, false_and, and_self, not_true_eq_false, not_false_eq_true, ↓reduceIte] <;> omega
        have r1 := R0_pt (I' := sI (sI I (la 2 (119 + 16 * r + p)) (lk (119 + 16 * r + p)) (nI k)) 332 (119 + 16 * r + p) (nI k)) hT h (t := 119 + 16 * r + p) (v := k) (Or.inl (by omega)) (by omega) (by omega) (NB_up hN ⟨by omega, by omega, by omega, by omega, by omega, by omega, by omega⟩ ⟨by omega, by omega, by omega, by omega, by omega, by omega, by omega, by omega, by omega, by omega, by omega⟩) (fun a k => rfl)
        rw [ea, ek] at r1
        refine ⟨1, sI I 5 (r * 16 + p) (nI k), _, ?_, ?_, _, G, e, f, tp, r1⟩
        · simp (disch := omega) only [f11_hole, o_1_0 hO, o_2_0 hO, o_3_1 hO, ex, qL, qb, qbl, qadd, qmul, qsubm, qdm, qsub, qdiv, qcl, qlt, qle, qeq, nltT, nltF, nleT, nleF, neqT, neqF, or_false, false_or, or_true, true_or, or_self, and_true, true_and, and_false, false_and, and_self, not_true_eq_false, not_false_eq_true, ↓reduceIte]
        · have em2 := m_isPlace (MV_fr (J' := sI I 5 (r * 16 + p) (nI k)) hM (sI_o _ _ (by omega))) hB hr hp
          simp (disch := omega) only [f12_hole, em2, m_inT (Nat.zero_le k) hk (by omega), hM.1, qL, qb, qbl, qadd, qmul, qsubm, qdm, qsub, qdiv, qcl, qlt, qle, qeq, nltT, nltF, nleT, nleF, neqT, neqF, or_false, false_or, or_true, true_or, or_self, and_true, true_and, and_false, false_and, and_self, not_true_eq_false, not_false_eq_true, ↓reduceIte]
      · have e1 := outB (by omega) (by omega) h3
        have e2 := m_inF h3 (by omega) (by omega)
        refine ⟨0, I, I, ?_, ?_, N, G, e, f, tp, h⟩
        · rcases e1 with e1 | ⟨e1, e3⟩
          · simp (disch := omega) only [f11_hole, o_1_0 hO, o_2_0 hO, ex, e1, qL, qb, qbl, qadd, qmul, qsubm, qdm, qsub, qdiv, qcl, qlt, qle, qeq, nltT, nltF, nleT, nleF, neqT, neqF, or_false, false_or, or_true, true_or, or_self, and_true, true_and, and_false, false_and, and_self, not_true_eq_false, not_false_eq_true, ↓reduceIte]
          · have e4 : ¬ p3 < nI 6 := fun q => by rw [i_lt, qtoI (by omega)] at q e3; omega
            simp (disch := omega) only [f11_hole, o_1_0 hO, o_2_0 hO, ex, e1, e4, qL, qb, qbl, qadd, qmul, qsubm, qdm, qsub, qdiv, qcl, qlt, qle, qeq, nltT, nltF, nleT, nleF, neqT, neqF, or_false, false_or, or_true, true_or, or_self, and_true, true_and, and_false, false_and, and_self, not_true_eq_false, not_false_eq_true, ↓reduceIte]
        · simp (disch := omega) only [f12_hole, em, e2, qL, qb, qbl, qadd, qmul, qsubm, qdm, qsub, qdiv, qcl, qlt, qle, qeq, nltT, nltF, nleT, nleF, neqT, neqF, or_false, false_or, or_true, true_or, or_self, and_true, true_and, and_false, false_and, and_self, not_true_eq_false, not_false_eq_true, ↓reduceIte]
    · refine ⟨0, I, I, ?_, ?_, N, G, e, f, tp, h⟩
      · simp (disch := omega) only [f11_hole, o_1_0 hO, o_2_0 hO, x_noPlace hV hB hr h2, qL, qb, qbl, qadd, qmul, qsubm, qdm, qsub, qdiv, qcl, qlt, qle, qeq, nltT, nltF, nleT, nleF, neqT, neqF, or_false, false_or, or_true, true_or, or_self, and_true, true_and, and_false, false_and, and_self, not_true_eq_false, not_false_eq_true, ↓reduceIte]
      · simp (disch := omega) only [f12_hole, m_noPlace hM hB hr h2, qL, qb, qbl, qadd, qmul, qsubm, qdm, qsub, qdiv, qcl, qlt, qle, qeq, nltT, nltF, nleT, nleF, neqT, neqF, or_false, false_or, or_true, true_or, or_self, and_true, true_and, and_false, false_and, and_self, not_true_eq_false, not_false_eq_true, ↓reduceIte]
  · refine ⟨0, I, I, ?_, ?_, N, G, e, f, tp, h⟩
    · simp (disch := omega) only [f11_hole, o_1_0 hO, o_2_0 hO, x_noPlaceR hV hB h1, qL, qb, qbl, qadd, qmul, qsubm, qdm, qsub, qdiv, qcl, qlt, qle, qeq, nltT, nltF, nleT, nleF, neqT, neqF, or_false, false_or, or_true, true_or, or_self, and_true, true_and, and_false, false_and, and_self, not_true_eq_false, not_false_eq_true, ↓reduceIte]
    · simp (disch := omega) only [f12_hole, m_noPlaceR hM hB h1, qL, qb, qbl, qadd, qmul, qsubm, qdm, qsub, qdiv, qcl, qlt, qle, qeq, nltT, nltF, nleT, nleF, neqT, neqF, or_false, false_or, or_true, true_or, or_self, and_true, true_and, and_false, false_and, and_self, not_true_eq_false, not_false_eq_true, ↓reduceIte]
theorem s_heard (h : RE TX I O) (p1 p2 : Int32) : ∃ (v : Int32), f11_heard I O 1 p1 p2 = some v ∧ f12_heard I O 331 p1 p2 = some v ∧ RE TX I O := by
  have h0 := h
  obtain ⟨N, G, e, f, tp, h⟩ := h
  have hO := h.1
  have hV := RW_WV hO h.2.2.2.2.2.2.1
  have hB := NB_WB h.2.2.2.1
  have hM := h.2.1
  have b1 : N 1 ≤ 4 := hB.2.1
  by_cases h1 : inR p1 (N 1)
  · obtain ⟨c, hc, rfl⟩ := inR_of h1
    by_cases h2 : ((1 : Nat) : Int) ≤ p2.toInt ∧ p2.toInt ≤ ((5 : Nat) : Int)
    · obtain ⟨k, hk1, hk, rfl⟩ := inB h2
      refine ⟨nI (Hd N c k), ?_, ?_, h0⟩
      · simp (disch := omega) only [f11_heard, o_1_0 hO, o_2_0 hO, x_heardBy hV hB hc hk1 (by omega), qL, qb, qbl, qadd, qmul, qsubm, qdm, qsub, qdiv, qcl, qlt, qle, qeq, nltT, nltF, nleT, nleF, neqT, neqF, or_false, false_or, or_true, true_or, or_self, and_true, true_and, and_false, false_and, and_self, not_true_eq_false, not_false_eq_true, ↓reduceIte]
      · simp (disch := omega) only [f12_heard, m_isChild hM hB hc, m_inT hk1 hk (by omega), m_heardBy hM (c := c) (k := k) (by omega) (by omega), qL, qb, qbl, qadd, qmul, qsubm, qdm, qsub, qdiv, qcl, qlt, qle, qeq, nltT, nltF, nleT, nleF, neqT, neqF, or_false, false_or, or_true, true_or, or_self, and_true, true_and, and_false, false_and, and_self, not_true_eq_false, not_false_eq_true, ↓reduceIte]
    · refine ⟨-1, ?_, ?_, h0⟩
      · simp (disch := omega) only [f11_heard, o_1_0 hO, o_2_0 hO, x_noHeard hV hB hc h2, qL, qb, qbl, qadd, qmul, qsubm, qdm, qsub, qdiv, qcl, qlt, qle, qeq, nltT, nltF, nleT, nleF, neqT, neqF, or_false, false_or, or_true, true_or, or_self, and_true, true_and, and_false, false_and, and_self, not_true_eq_false, not_false_eq_true, ↓reduceIte]
      · simp (disch := omega) only [f12_heard, m_isChild hM hB hc, m_inF h2 (by omega) (by omega), qL, qb, qbl, qadd, qmul, qsubm, qdm, qsub, qdiv, qcl, qlt, qle, qeq, nltT, nltF, nleT, nleF, neqT, neqF, or_false, false_or, or_true, true_or, or_self, and_true, true_and, and_false, false_and, and_self, not_true_eq_false, not_false_eq_true, ↓reduceIte]
  · refine ⟨-1, ?_, ?_, h0⟩
    · simp (disch := omega) only [f11_heard, o_1_0 hO, o_2_0 hO, x_noHeardC hV hB h1, qL, qb, qbl, qadd, qmul, qsubm, qdm, qsub, qdiv, qcl, qlt, qle, qeq, nltT, nltF, nleT, nleF, neqT, neqF, or_false, false_or, or_true, true_or, or_self, and_true, true_and, and_false, false_and, and_self, not_true_eq_false, not_false_eq_true, ↓reduceIte]
    · simp (disch := omega) only [f12_heard, m_noChild hM hB h1, qL, qb, qbl, qadd, qmul, qsubm, qdm, qsub, qdiv, qcl, qlt, qle, qeq, nltT, nltF, nleT, nleF, neqT, neqF, or_false, false_or, or_true, true_or, or_self, and_true, true_and, and_false, false_and, and_self, not_true_eq_false, not_false_eq_true, ↓reduceIte]
theorem s_is (h : RE TX I O) (p1 : Int32) : ∃ (v : Int32), f11_is I O 1 p1 = some v ∧ f12_is I O 331 p1 = some v ∧ RE TX I O := by
  have h0 := h
  obtain ⟨N, G, e, f, tp, h⟩ := h
  have hO := h.1
  have hV := RW_WV hO h.2.2.2.2.2.2.1
  have hM := h.2.1
  obtain ⟨-, v0, v1, -, -, -, -, v7, v8⟩ := hV
  by_cases h1 : ((0 : Nat) : Int) ≤ p1.toInt ∧ p1.toInt ≤ ((3 : Nat) : Int)
  · obtain ⟨k, -, hk, rfl⟩ := inB h1
    have hk4 : k = 0 ∨ k = 1 ∨ k = 2 ∨ k = 3 := by omega
    rcases hk4 with rfl | rfl | rfl | rfl
    · exact ⟨nI (N 7), by simp (disch := omega) only [f11_is, o_1_0 hO, o_2_0 hO, o_3_2 hO, v7, qL, qb, qbl, qadd, qmul, qsubm, qdm, qsub, qdiv, qcl, qlt, qle, qeq, nltT, nltF, nleT, nleF, neqT, neqF, or_false, false_or, or_true, true_or, or_self, and_true, true_and, and_false, false_and, and_self, not_true_eq_false, not_false_eq_true, ↓reduceIte], by simp (disch := omega) only [f12_is, f12_isIn, hM.1, hM.2, qL, qb, qbl, qadd, qmul, qsubm, qdm, qsub, qdiv, qcl, qlt, qle, qeq, nltT, nltF, nleT, nleF, neqT, neqF, or_false, false_or, or_true, true_or, or_self, and_true, true_and, and_false, false_and, and_self, not_true_eq_false, not_false_eq_true, ↓reduceIte], h0⟩
    · exact ⟨nI (N 8), by simp (disch := omega) only [f11_is, o_1_0 hO, o_2_0 hO, o_3_2 hO, v8, qL, qb, qbl, qadd, qmul, qsubm, qdm, qsub, qdiv, qcl, qlt, qle, qeq, nltT, nltF, nleT, nleF, neqT, neqF, or_false, false_or, or_true, true_or, or_self, and_true, true_and, and_false, false_and, and_self, not_true_eq_false, not_false_eq_true, ↓reduceIte], by simp (disch := omega) only [f12_is, f12_isIn, hM.1, hM.2, qL, qb, qbl, qadd, qmul, qsubm, qdm, qsub, qdiv, qcl, qlt, qle, qeq, nltT, nltF, nleT, nleF, neqT, neqF, or_false, false_or, or_true, true_or, or_self, and_true, true_and, and_false, false_and, and_self, not_true_eq_false, not_false_eq_true, ↓reduceIte], h0⟩
    · exact ⟨nI (N 0), by simp (disch := omega) only [f11_is, o_1_0 hO, o_2_0 hO, o_3_2 hO, v0, qL, qb, qbl, qadd, qmul, qsubm, qdm, qsub, qdiv, qcl, qlt, qle, qeq, nltT, nltF, nleT, nleF, neqT, neqF, or_false, false_or, or_true, true_or, or_self, and_true, true_and, and_false, false_and, and_self, not_true_eq_false, not_false_eq_true, ↓reduceIte], by simp (disch := omega) only [f12_is, f12_isIn, hM.1, hM.2, qL, qb, qbl, qadd, qmul, qsubm, qdm, qsub, qdiv, qcl, qlt, qle, qeq, nltT, nltF, nleT, nleF, neqT, neqF, or_false, false_or, or_true, true_or, or_self, and_true, true_and, and_false, false_and, and_self, not_true_eq_false, not_false_eq_true, ↓reduceIte], h0⟩
    · exact ⟨nI (N 1), by simp (disch := omega) only [f11_is, o_1_0 hO, o_2_0 hO, o_3_2 hO, v1, qL, qb, qbl, qadd, qmul, qsubm, qdm, qsub, qdiv, qcl, qlt, qle, qeq, nltT, nltF, nleT, nleF, neqT, neqF, or_false, false_or, or_true, true_or, or_self, and_true, true_and, and_false, false_and, and_self, not_true_eq_false, not_false_eq_true, ↓reduceIte], by simp (disch := omega) only [f12_is, f12_isIn, hM.1, hM.2, qL, qb, qbl, qadd, qmul, qsubm, qdm, qsub, qdiv, qcl, qlt, qle, qeq, nltT, nltF, nleT, nleF, neqT, neqF, or_false, false_or, or_true, true_or, or_self, and_true, true_and, and_false, false_and, and_self, not_true_eq_false, not_false_eq_true, ↓reduceIte], h0⟩
  · have a1 := m_inF (a := 0) (b := 1) (x := p1) (by omega) (by omega) (by omega)
    have a2 := m_inF (a := 2) (b := 3) (x := p1) (by omega) (by omega) (by omega)
    refine ⟨-2, ?_, by simp (disch := omega) only [f12_is, a1, a2, qL, qb, qbl, qadd, qmul, qsubm, qdm, qsub, qdiv, qcl, qlt, qle, qeq, nltT, nltF, nleT, nleF, neqT, neqF, or_false, false_or, or_true, true_or, or_self, and_true, true_and, and_false, false_and, and_self, not_true_eq_false, not_false_eq_true, ↓reduceIte], h0⟩
    unfold f11_is
    rw [if_neg, if_neg, if_neg, if_neg]
    all_goals (intro q; rw [q] at h1; revert h1; decide)
end Simple
