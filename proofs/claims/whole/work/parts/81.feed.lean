/-! the tape fed -/
theorem qaddn {a b : Nat} (h : b ≤ a) : nI a + -nI b = nI (a - b) := by
  rw [← Int32.sub_eq_add_neg, qsub h]
def put4 (I : TI) (o a tp : Nat) (b0 b1 b2 b3 : Nat) : TI := sI (sI (sI (sI (sI (sI (sI (sI I a tp (nI b0)) o 4 (nI (tp + 1))) a (tp + 1) (nI b1)) o 4 (nI (tp + 2))) a (tp + 2) (nI b2)) o 4 (nI (tp + 3))) a (tp + 3) (nI b3)) o 4 (nI (tp + 4))
theorem put4_ok {I : TI} {o a tp b0 b1 b2 b3 : Nat} (h : o ≠ a) : put4 I o a tp b0 b1 b2 b3 o 4 = nI (tp + 4) ∧ (∀ k, k < tp → put4 I o a tp b0 b1 b2 b3 a k = I a k) ∧ (put4 I o a tp b0 b1 b2 b3 a tp = nI b0 ∧ put4 I o a tp b0 b1 b2 b3 a (tp + 1) = nI b1 ∧ put4 I o a tp b0 b1 b2 b3 a (tp + 2) = nI b2 ∧ put4 I o a tp b0 b1 b2 b3 a (tp + 3) = nI b3) ∧ (∀ c, c ≠ o → c ≠ a → put4 I o a tp b0 b1 b2 b3 c = I c) ∧ ∀ k, k ≠ 4 → put4 I o a tp b0 b1 b2 b3 o k = I o k := by
  refine ⟨?_, fun k hk => ?_, ⟨?_, ?_, ?_, ?_⟩, fun c h1 h2 => ?_, fun k hk => ?_⟩
  · unfold put4; rw [sI_s]
  · simp (disch := omega) only [put4, sI_o, sI_k, qL, qb, qbl, qadd, qmul, qsubm, qdm, qsub, qdiv, qcl, qlt, qle, qeq, nltT, nltF, nleT, nleF, neqT, neqF, or_false, false_or, or_true, true_or, or_self, and_true, true_and, and_false, false_and, and_self, not_true_eq_false, not_false_eq_true, ↓reduceIte]
  · simp (disch := omega) only [put4, sI_o, sI_k, sI_s, qL, qb, qbl, qadd, qmul, qsubm, qdm, qsub, qdiv, qcl, qlt, qle, qeq, nltT, nltF, nleT, nleF, neqT, neqF, or_false, false_or, or_true, true_or, or_self, and_true, true_and, and_false, false_and, and_self, not_true_eq_false, not_false_eq_true, ↓reduceIte]
  · simp (disch := omega) only [put4, sI_o, sI_k, sI_s, qL, qb, qbl, qadd, qmul, qsubm, qdm, qsub, qdiv, qcl, qlt, qle, qeq, nltT, nltF, nleT, nleF, neqT, neqF, or_false, false_or, or_true, true_or, or_self, and_true, true_and, and_false, false_and, and_self, not_true_eq_false, not_false_eq_true, ↓reduceIte]
  · simp (disch := omega) only [put4, sI_o, sI_k, sI_s, qL, qb, qbl, qadd, qmul, qsubm, qdm, qsub, qdiv, qcl, qlt, qle, qeq, nltT, nltF, nleT, nleF, neqT, neqF, or_false, false_or, or_true, true_or, or_self, and_true, true_and, and_false, false_and, and_self, not_true_eq_false, not_false_eq_true, ↓reduceIte]
  · simp (disch := omega) only [put4, sI_o, sI_k, sI_s, qL, qb, qbl, qadd, qmul, qsubm, qdm, qsub, qdiv, qcl, qlt, qle, qeq, nltT, nltF, nleT, nleF, neqT, neqF, or_false, false_or, or_true, true_or, or_self, and_true, true_and, and_false, false_and, and_self, not_true_eq_false, not_false_eq_true, ↓reduceIte]
  · simp (disch := omega) only [put4, sI_o, qL, qb, qbl, qadd, qmul, qsubm, qdm, qsub, qdiv, qcl, qlt, qle, qeq, nltT, nltF, nleT, nleF, neqT, neqF, or_false, false_or, or_true, true_or, or_self, and_true, true_and, and_false, false_and, and_self, not_true_eq_false, not_false_eq_true, ↓reduceIte]
  · simp (disch := omega) only [put4, sI_o, sI_k, qL, qb, qbl, qadd, qmul, qsubm, qdm, qsub, qdiv, qcl, qlt, qle, qeq, nltT, nltF, nleT, nleF, neqT, neqF, or_false, false_or, or_true, true_or, or_self, and_true, true_and, and_false, false_and, and_self, not_true_eq_false, not_false_eq_true, ↓reduceIte]
theorem x_add1 {n m tp a b : Nat} {I : TI} {O : TO} {x : Int32} (hO : OF O) (ht : I 278 4 = nI tp) (hl : tp < 300) (ha : a < 100) (e : x >>> (nI a &&& nI 31) &&& nI 255 = nI b) : f8_add_c3 n O (m + 1) I 278 x (nI a) = f8_add_c3 n O m (sI (sI I 279 tp (nI b)) 278 4 (nI (tp + 1))) 278 x (nI a + -nI 8) := by
  simp (disch := omega) only [f8_add_c3, ht, e, o_278_0 hO, sI_o, qL, qb, qbl, qadd, qmul, qsubm, qdm, qsub, qdiv, qcl, qlt, qle, qeq, nltT, nltF, nleT, nleF, neqT, neqF, or_false, false_or, or_true, true_or, or_self, and_true, true_and, and_false, false_and, and_self, not_true_eq_false, not_false_eq_true, ↓reduceIte]
theorem m_add1 {n m tp a b : Nat} {I : TI} {O : TO} {x : Int32} (hO : OF O) (ht : I 331 4 = nI tp) (hl : tp < 300) (ha : a < 100) (e : x >>> (nI a &&& nI 31) &&& nI 255 = nI b) : f12_four_c3 n O (m + 1) I 331 x (nI a) = f12_four_c3 n O m (sI (sI I 335 tp (nI b)) 331 4 (nI (tp + 1))) 331 x (nI a + -nI 8) := by
  simp (disch := omega) only [f12_four_c3, ht, e, o_331_3 hO, sI_o, qL, qb, qbl, qadd, qmul, qsubm, qdm, qsub, qdiv, qcl, qlt, qle, qeq, nltT, nltF, nleT, nleF, neqT, neqF, or_false, false_or, or_true, true_or, or_self, and_true, true_and, and_false, false_and, and_self, not_true_eq_false, not_false_eq_true, ↓reduceIte]
theorem four_ok {n : Nat} {O : TO} (hn : 100000 ≤ n) (hO : OF O) (x : Int32) : ∃ b0 b1 b2 b3, b0 < 256 ∧ b1 < 256 ∧ b2 < 256 ∧ b3 < 256 ∧ (∀ (I : TI) tp, I 278 4 = nI tp → tp + 4 ≤ 300 → f8_add n I O 278 x = some (put4 I 278 279 tp b0 b1 b2 b3)) ∧ ∀ (J : TI) tp, J 331 4 = nI tp → tp + 4 ≤ 300 → f12_four n J O 331 x = some (put4 J 331 335 tp b0 b1 b2 b3) := by
  obtain ⟨m, rfl⟩ : ∃ m, n = m + 5 := ⟨n - 5, by omega⟩
  obtain ⟨b0, h0, e0⟩ := pk_andE (x >>> (nI 24 &&& nI 31)) (m := nI 255) 8 (by decide)
  obtain ⟨b1, h1, e1⟩ := pk_andE (x >>> (nI 16 &&& nI 31)) (m := nI 255) 8 (by decide)
  obtain ⟨b2, h2, e2⟩ := pk_andE (x >>> (nI 8 &&& nI 31)) (m := nI 255) 8 (by decide)
  obtain ⟨b3, h3, e3⟩ := pk_andE (x >>> (nI 0 &&& nI 31)) (m := nI 255) 8 (by decide)
  have hneg : nI 0 + -nI 8 < nI 0 := by decide
  refine ⟨b0, b1, b2, b3, h0, h1, h2, h3, fun I tp ht hl => ?_, fun J tp ht hl => ?_⟩
  · show f8_add_c3 (m + 5) O (m + 4 + 1) I 278 x (nI 24) = _
    rw [x_add1 hO ht (by omega) (by omega) e0, qaddn (by omega)]
    show f8_add_c3 (m + 5) O (m + 3 + 1) _ 278 x (nI 16) = _
    rw [x_add1 hO (sI_s _ _ _ _) (by omega) (by omega) e1, qaddn (by omega)]
    show f8_add_c3 (m + 5) O (m + 2 + 1) _ 278 x (nI 8) = _
    rw [x_add1 hO (sI_s _ _ _ _) (by omega) (by omega) e2, qaddn (by omega)]
    show f8_add_c3 (m + 5) O (m + 1 + 1) _ 278 x (nI 0) = _
    rw [x_add1 hO (sI_s _ _ _ _) (by omega) (by omega) e3]
    show (if nI 0 + -nI 8 < nI 0 then _ else _) = _
    rw [if_pos hneg]; rfl
  · show f12_four_c3 (m + 5) O (m + 4 + 1) J 331 x (nI 24) = _
    rw [m_add1 hO ht (by omega) (by omega) e0, qaddn (by omega)]
    show f12_four_c3 (m + 5) O (m + 3 + 1) _ 331 x (nI 16) = _
    rw [m_add1 hO (sI_s _ _ _ _) (by omega) (by omega) e1, qaddn (by omega)]
    show f12_four_c3 (m + 5) O (m + 2 + 1) _ 331 x (nI 8) = _
    rw [m_add1 hO (sI_s _ _ _ _) (by omega) (by omega) e2, qaddn (by omega)]
    show f12_four_c3 (m + 5) O (m + 1 + 1) _ 331 x (nI 0) = _
    rw [m_add1 hO (sI_s _ _ _ _) (by omega) (by omega) e3]
    show (if nI 0 + -nI 8 < nI 0 then _ else _) = _
    rw [if_pos hneg]; rfl
/-- the two tapes alike, in two memories -/
def TPP (I J : TI) (tp : Nat) : Prop := tp ≤ 300 ∧ I 278 4 = nI tp ∧ J 331 4 = nI tp ∧ ∀ k, k < tp → ∃ b, b < 256 ∧ I 279 k = nI b ∧ J 335 k = nI b
section FE
variable {TX : TI → Nat → Prop} {I : TI} {O : TO} {n : Nat} {N : TN}
theorem feed1 (hn : 100000 ≤ n) (hO : OF O) (x : Int32) {I J : TI} {tp : Nat} (h : TPP I J tp) (hl : tp + 4 ≤ 300) : ∃ I' J', f8_add n I O 278 x = some I' ∧ f12_four n J O 331 x = some J' ∧ TPP I' J' (tp + 4) ∧ ((∀ a, a ≠ 278 → a ≠ 279 → I' a = I a) ∧ ∀ k, k ≠ 4 → I' 278 k = I 278 k) ∧ (∀ a, a ≠ 331 → a ≠ 335 → J' a = J a) ∧ ∀ k, k ≠ 4 → J' 331 k = J 331 k := by
  obtain ⟨b0, b1, b2, b3, h0, h1, h2, h3, hx, hm⟩ := four_ok hn hO x
  obtain ⟨t1, t2, t3, t4⟩ := h
  obtain ⟨p1, p2, p3, p4, p5⟩ := put4_ok (I := I) (o := 278) (a := 279) (tp := tp) (b0 := b0) (b1 := b1) (b2 := b2) (b3 := b3) (by omega)
  obtain ⟨q1, q2, q3, q4, q5⟩ := put4_ok (I := J) (o := 331) (a := 335) (tp := tp) (b0 := b0) (b1 := b1) (b2 := b2) (b3 := b3) (by omega)
  refine ⟨_, _, hx I tp t2 hl, hm J tp t3 hl, ⟨hl, p1, q1, fun k hk => ?_⟩, ⟨p4, p5⟩, q4, q5⟩
  by_cases z : k < tp
  · rw [p2 k z, q2 k z]; exact t4 k z
  · have z2 : k = tp ∨ k = tp + 1 ∨ k = tp + 2 ∨ k = tp + 3 := by omega
    rcases z2 with rfl | rfl | rfl | rfl
    · exact ⟨b0, h0, p3.1, q3.1⟩
    · exact ⟨b1, h1, p3.2.1, q3.2.1⟩
    · exact ⟨b2, h2, p3.2.2.1, q3.2.2.1⟩
    · exact ⟨b3, h3, p3.2.2.2, q3.2.2.2⟩
theorem s_feed (hn : 100000 ≤ n) (hT : TXst TX) (h : RE TX I O) (p1 p2 p3 p4 p5 : Int32) : ∃ (v : Int32) (I1 I2 : TI), f11_feed n I O 1 p1 p2 p3 p4 p5 = some (v, I1) ∧ f12_feed n I1 O 331 p1 p2 p3 p4 p5 = some (v, I2) ∧ RE TX I2 O := by
  obtain ⟨N, G, e, f, tp, h⟩ := h
  have hO := h.1
  have hV := RW_WV hO h.2.2.2.2.2.2.1
  have hN := h.2.2.2.1
  have hB := NB_WB hN
  have hM := h.2.1
  have hF := RW_fd h.2.2.2.2.2.2.1
  have b0 : N 0 ≤ 5 := hB.1
  have b1 : N 1 ≤ 4 := hB.2.1
  have ht := h.2.2.2.2.2.2.2.2.1
  have ht0 := ht.1
  by_cases hl : tp + 20 ≤ 300
  · obtain ⟨X1, M1, a1, -, k1, ⟨g1, g1'⟩, -⟩ := feed1 hn hO p1 (I := I) (J := I) (tp := tp) ht (by omega)
    obtain ⟨X2, M2, a2, -, k2, ⟨g2, g2'⟩, -⟩ := feed1 hn hO p2 k1 (by omega)
    obtain ⟨X3, M3, a3, -, k3, ⟨g3, g3'⟩, -⟩ := feed1 hn hO p3 k2 (by omega)
    obtain ⟨X4, M4, a4, -, k4, ⟨g4, g4'⟩, -⟩ := feed1 hn hO p4 k3 (by omega)
    obtain ⟨X5, M5, a5, -, k5, ⟨g5, g5'⟩, -⟩ := feed1 hn hO p5 k4 (by omega)
    have fX : ∀ a, a ≠ 278 → a ≠ 279 → X5 a = I a := fun a q1 q2 => by rw [g5 a q1 q2, g4 a q1 q2, g3 a q1 q2, g2 a q1 q2, g1 a q1 q2]
    have h0 : TPP I X5 tp := ⟨ht.1, ht.2.1, by rw [fX 331 (by omega) (by omega)]; exact ht.2.2.1, fun k hk => by rw [fX 335 (by omega) (by omega)]; exact ht.2.2.2 k hk⟩
    obtain ⟨Y1, L1, b1, c1, r1, -, s1, s1'⟩ := feed1 hn hO p1 h0 (by omega)
    obtain ⟨Y2, L2, b2, c2, r2, -, s2, s2'⟩ := feed1 hn hO p2 r1 (by omega)
    obtain ⟨Y3, L3, b3, c3, r3, -, s3, s3'⟩ := feed1 hn hO p3 r2 (by omega)
    obtain ⟨Y4, L4, b4, c4, r4, -, s4, s4'⟩ := feed1 hn hO p4 r3 (by omega)
    obtain ⟨Y5, L5, b5, c5, r5, -, s5, s5'⟩ := feed1 hn hO p5 r4 (by omega)
    have e1 : X1 = Y1 := Option.some.inj (a1.symm.trans b1)
    subst e1
    have e2 : X2 = Y2 := Option.some.inj (a2.symm.trans b2)
    subst e2
    have e3 : X3 = Y3 := Option.some.inj (a3.symm.trans b3)
    subst e3
    have e4 : X4 = Y4 := Option.some.inj (a4.symm.trans b4)
    subst e4
    have e5 : X5 = Y5 := Option.some.inj (a5.symm.trans b5)
    subst e5
    have fM : ∀ a, a ≠ 331 → a ≠ 335 → L5 a = X5 a := fun a q1 q2 => by rw [s5 a q1 q2, s4 a q1 q2, s3 a q1 q2, s2 a q1 q2, s1 a q1 q2]
    have fM' : ∀ k, k ≠ 4 → L5 331 k = X5 331 k := fun k q => by rw [s5' k q, s4' k q, s3' k q, s2' k q, s1' k q]
    have e20 : tp + 4 + 4 + 4 + 4 + 4 = tp + 20 := by omega
    rw [e20] at r5
    refine ⟨nI (tp + 20), X5, L5, ?_, ?_, N, G, e, f, tp + 20, ?_⟩
    · simp (disch := omega) only [f11_feed, o_1_0 hO, o_1_1 hO, o_1_2 hO, o_1_3 hO, o_1_4 hO, o_1_5 hO, o_1_6 hO, o_1_7 hO, o_1_8 hO, o_1_9 hO, o_2_0 hO, o_2_1 hO, o_2_2 hO, o_2_3 hO, o_2_4 hO, o_2_5 hO, o_3_0 hO, o_3_1 hO, o_3_2 hO, o_6_0 hO, o_6_1 hO, o_6_2 hO, o_10_0 hO, o_331_0 hO, ht.2.1, a1, a2, a3, a4, a5, r5.2.1, qL, qb, qbl, qadd, qmul, qsubm, qdm, qsub, qdiv, qcl, qlt, qle, qeq, nltT, nltF, nleT, nleF, neqT, neqF, or_false, false_or, or_true, true_or, or_self, and_true, true_and, and_false, false_and, and_self, not_true_eq_false, not_false_eq_true, ↓reduceIte]
    · have z : X5 331 4 = nI tp := by rw [fX 331 (by omega) (by omega)]; exact ht.2.2.1
      simp (disch := omega) only [f12_feed, z, c1, c2, c3, c4, c5, r5.2.2.1, qL, qb, qbl, qadd, qmul, qsubm, qdm, qsub, qdiv, qcl, qlt, qle, qeq, nltT, nltF, nleT, nleF, neqT, neqF, or_false, false_or, or_true, true_or, or_self, and_true, true_and, and_false, false_and, and_self, not_true_eq_false, not_false_eq_true, ↓reduceIte]
    · obtain ⟨c1, c2, c3, c4, c5, c6, c7, c8, c9, c10, c11, c12⟩ := h
      have fr : ∀ a, a ≠ 278 → a ≠ 279 → a ≠ 331 → a ≠ 335 → L5 a = I a := fun a q1 q2 q3 q4 => by rw [fM a q3 q4, fX a q1 q2]
      have fr2 : ∀ k, k ≠ 4 → L5 331 k = I 331 k := fun k q => by rw [fM' k q, fX 331 (by omega) (by omega)]
      refine ⟨c1, MV_fr c2 (fr 332 (by omega) (by omega) (by omega) (by omega)), fun t ht => by rw [fr 333 (by omega) (by omega) (by omega) (by omega)]; exact c3 t ht, c4, c5, c6, RW_fr c7 (fun a q1 q2 => fr a (by omega) (by omega) (by omega) (by omega)), RW_fr c8 (fun a q1 q2 => fr a (by omega) (by omega) (by omega) (by omega)), ?_, ?_, by rw [fr2 23 (by omega)]; exact c11, fun t ht => hT I _ t (fun a q1 q2 => fr a (by omega) (by omega) (by omega) (by omega)) (fr 334 (by omega) (by omega) (by omega) (by omega)) (c12 t ht)⟩
      · exact ⟨r5.1, by rw [fM 278 (by omega) (by omega)]; exact r5.2.1, r5.2.2.1, fun k hk => by rw [fM 279 (by omega) (by omega)]; exact r5.2.2.2 k hk⟩
      · unfold FV at *; rw [fr 1 (by omega) (by omega) (by omega) (by omega), fr2 5 (by omega), fr2 6 (by omega), fr 324 (by omega) (by omega) (by omega) (by omega)]; exact c10
  · refine ⟨-1, I, I, ?_, ?_, N, G, e, f, tp, h⟩
    · simp (disch := omega) only [f11_feed, o_1_0 hO, o_1_1 hO, o_1_2 hO, o_1_3 hO, o_1_4 hO, o_1_5 hO, o_1_6 hO, o_1_7 hO, o_1_8 hO, o_1_9 hO, o_2_0 hO, o_2_1 hO, o_2_2 hO, o_2_3 hO, o_2_4 hO, o_2_5 hO, o_3_0 hO, o_3_1 hO, o_3_2 hO, o_6_0 hO, o_6_1 hO, o_6_2 hO, o_10_0 hO, o_331_0 hO, ht.2.1, qL, qb, qbl, qadd, qmul, qsubm, qdm, qsub, qdiv, qcl, qlt, qle, qeq, nltT, nltF, nleT, nleF, neqT, neqF, or_false, false_or, or_true, true_or, or_self, and_true, true_and, and_false, false_and, and_self, not_true_eq_false, not_false_eq_true, ↓reduceIte]
    · simp (disch := omega) only [f12_feed, ht.2.2.1, qL, qb, qbl, qadd, qmul, qsubm, qdm, qsub, qdiv, qcl, qlt, qle, qeq, nltT, nltF, nleT, nleF, neqT, neqF, or_false, false_or, or_true, true_or, or_self, and_true, true_and, and_false, false_and, and_self, not_true_eq_false, not_false_eq_true, ↓reduceIte]
end FE
