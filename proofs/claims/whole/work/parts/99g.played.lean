/-! played by a text -/
section CL
variable {n : Nat} {I I0 J J0 : TI} {L : TL} {O : TO} {N : TN} {lw : Lws}
theorem CS_u (h : CS I0 I N) {t v a k : Nat} (ea : la 2 t = a) (ek : lk t = k) (ht : t < 231) (h4 : t ≠ 4) (hB : NB (upN N t v)) : CS I0 (sI I a k (nI v)) (upN N t v) := by
  obtain ⟨e, ⟨h1, h2, h3⟩, hN⟩ := h
  have r := la_rng (wh := 2) (t := t) (Or.inl ht)
  refine ⟨e, ⟨RW_up h1 h2 (Or.inl ht) h4 a k ea ek, by rw [upN_o _ (Ne.symm h4)]; exact h2, fun b q1 q2 q3 q4 => by rw [sI_o _ _ (by omega)]; exact h3 b q1 q2 q3 q4⟩, hB⟩
theorem CS_V (hO : OF O) (h : CS I0 I N) : WV I O 3 4 5 6 7 8 N := by
  obtain ⟨e, hP, hN⟩ := h
  exact (PWm_ok hO e I0).1 _ _ hP
theorem CS_N (h : CS I0 I N) : NB N := by
  obtain ⟨e, hP, hN⟩ := h
  exact hN
/-- the class's step, of one clause -/
def XSt1 (n : Nat) (O : TO) (t k : Nat) (b : Bool) (I I' : TI) : Prop := ∀ m, f11_played_c15 n O (m + 1) I 1 (300 + 6 * t) (nI k) = if b then f11_played_c15 n O m I' 1 (300 + 6 * t) (nI (k + 1)) else some (nI k, I')
def ClP (n : Nat) (O : TO) (I0 : TI) (t k : Nat) (N : TN) (b : Bool) (N' : TN) : Prop := NB N' ∧ N' 2 = N 2 ∧ N' 3 = N 3 ∧ (∀ I, CS I0 I N → ∃ I', XSt1 n O t k b I I' ∧ CS I0 I' N') ∧ ∀ J0 J L, J0 334 = I0 334 → J0 331 23 = 1 → MS O J0 J N → ∃ J' L', f12_isPlayed n J L O 331 (nI (1065 * t + 1 + 19 * k)) = some (bI b, J', L') ∧ MS O J0 J' N'
/-- a clause of the class -/
def XCl (I0 : TI) (t k nc kd a b : Nat) : Prop := I0 (300 + 6 * t) 6 = nI nc ∧ k < nc ∧ nc ≤ 24 ∧ t < 4 ∧ I0 (300 + 6 * t + 2) k = nI kd ∧ kd ≤ 8 ∧ I0 (300 + 6 * t + 3) k = nI a ∧ I0 (300 + 6 * t + 4) k = nI b
theorem x_cl (hO : OF O) {t k nc kd a b : Nat} (hc : XCl I0 t k nc kd a b) (h : CS I0 I N) : f7_first I O (300 + 6 * t) (nI k) = some (nI a) ∧ f7_second I O (300 + 6 * t) (nI k) = some (nI b) ∧ f7_kind I O (300 + 6 * t) (nI k) = some (nI kd) ∧ I (300 + 6 * t) 6 = nI nc := by
  obtain ⟨c1, c2, c3, c4, c5, c6, c7, c8⟩ := hc
  obtain ⟨o0, o1, o2, o3, o4⟩ := sc_o hO c4
  have f0 := CS_f h (a := 300 + 6 * t) (by omega)
  have f2 := CS_f h (a := 300 + 6 * t + 2) (by omega)
  have f3 := CS_f h (a := 300 + 6 * t + 3) (by omega)
  have f4 := CS_f h (a := 300 + 6 * t + 4) (by omega)
  refine ⟨?_, ?_, ?_, by rw [f0]; exact c1⟩
  · simp (disch := omega) only [f7_first, f0, c1, o2, f3, c7, qL, qb, qbl, qadd, qmul, qsubm, qdm, qsub, qdiv, qcl, qlt, qle, qeq, nltT, nltF, nleT, nleF, neqT, neqF, or_false, false_or, or_true, true_or, or_self, and_true, true_and, and_false, false_and, and_self, not_true_eq_false, not_false_eq_true, ↓reduceIte]
  · simp (disch := omega) only [f7_second, f0, c1, o3, f4, c8, qL, qb, qbl, qadd, qmul, qsubm, qdm, qsub, qdiv, qcl, qlt, qle, qeq, nltT, nltF, nleT, nleF, neqT, neqF, or_false, false_or, or_true, true_or, or_self, and_true, true_and, and_false, false_and, and_self, not_true_eq_false, not_false_eq_true, ↓reduceIte]
  · simp (disch := omega) only [f7_kind, f0, c1, o1, f2, c5, qL, qb, qbl, qadd, qmul, qsubm, qdm, qsub, qdiv, qcl, qlt, qle, qeq, nltT, nltF, nleT, nleF, neqT, neqF, or_false, false_or, or_true, true_or, or_self, and_true, true_and, and_false, false_and, and_self, not_true_eq_false, not_false_eq_true, ↓reduceIte]
theorem x_carry (hO : OF O) {t k nc kd a b : Nat} (hc : XCl I0 t k nc kd a b) (h : CS I0 I N) (hk : kd ≠ 8) {I' : TI} {v : Bool} (hs : f11_carryOut n I O 1 (300 + 6 * t) (nI k) = some (bI v, I')) : XSt1 n O t k v I I' := by
  intro m
  obtain ⟨e1, e2, e3, e4⟩ := x_cl hO hc h
  obtain ⟨c1, c2, c3, c4, c5, c6, c7, c8⟩ := hc
  have hlt : ¬ nI nc ≤ nI k := fun q => by rw [nI_leI (by omega) (by omega)] at q; omega
  have h8 : ¬ nI kd = (8 : Int32) := fun q => hk ((nI_eq (b := 8) (by omega) (by omega)).mp q)
  rw [f11_played_c15, e4, if_neg hlt, e1, qb, e3, qb, if_neg h8, hs, qb]
  cases v
  · rw [if_pos (show bI false = 0 from rfl)]; rfl
  · rw [if_neg (show ¬ bI true = 0 by decide), nI_1]; rfl
theorem ms334 {J0 J : TI} (h : MS O J0 J N) : J 334 = J0 334 := h.2.2.1 334 (by omega) (by omega) (by omega) (by omega)
/-- the reference's clause -/
def MCl (I0 : TI) (t k s a b : Nat) : Prop := t < 4 ∧ k < 24 ∧ s ≤ 8 ∧ I0 334 (1065 * t + 1 + 19 * k) = nI s ∧ I0 334 (1065 * t + 1 + 19 * k + 1) = nI a ∧ I0 334 (1065 * t + 1 + 19 * k + 2) = nI b
theorem cl_law {t k nc s : Nat} {a b a' b' : Nat} (hO : OF O) (hN : NB N) (hx : XCl I0 t k nc s a b) (hm : MCl I0 t k s a' b') (hs : s < 3) : ClP n O I0 t k N true N := by
  refine ⟨hN, rfl, rfl, fun I h => ⟨I, x_carry hO hx h (by omega) ?_, h⟩, fun J0 J L h4 hw h => ⟨J, L, ?_, h⟩⟩
  · obtain ⟨e1, e2, e3, e4⟩ := x_cl hO hx h
    show _ = some (nI 1, I)
    have hk : s = 0 ∨ s = 1 ∨ s = 2 := by omega
    rcases hk with rfl | rfl | rfl
    · simp (disch := omega) only [f11_carryOut, e1, e2, e3, qL, qb, qbl, qadd, qmul, qsubm, qdm, qsub, qdiv, qcl, qlt, qle, qeq, nltT, nltF, nleT, nleF, neqT, neqF, or_false, false_or, or_true, true_or, or_self, and_true, true_and, and_false, false_and, and_self, not_true_eq_false, not_false_eq_true, ↓reduceIte]
    · simp (disch := omega) only [f11_carryOut, e1, e2, e3, qL, qb, qbl, qadd, qmul, qsubm, qdm, qsub, qdiv, qcl, qlt, qle, qeq, nltT, nltF, nleT, nleF, neqT, neqF, or_false, false_or, or_true, true_or, or_self, and_true, true_and, and_false, false_and, and_self, not_true_eq_false, not_false_eq_true, ↓reduceIte]
    · simp (disch := omega) only [f11_carryOut, e1, e2, e3, qL, qb, qbl, qadd, qmul, qsubm, qdm, qsub, qdiv, qcl, qlt, qle, qeq, nltT, nltF, nleT, nleF, neqT, neqF, or_false, false_or, or_true, true_or, or_self, and_true, true_and, and_false, false_and, and_self, not_true_eq_false, not_false_eq_true, ↓reduceIte]
  · obtain ⟨m1, m2, m3, m4, m5, m6⟩ := hm
    have f4 : J 334 = I0 334 := by rw [ms334 h, h4]
    show _ = some (nI 1, J, L)
    simp (disch := omega) only [f12_isPlayed, o_331_2 hO, f4, m4, m5, m6, qL, qb, qbl, qadd, qmul, qsubm, qdm, qsub, qdiv, qcl, qlt, qle, qeq, nltT, nltF, nleT, nleF, neqT, neqF, or_false, false_or, or_true, true_or, or_self, and_true, true_and, and_false, false_and, and_self, not_true_eq_false, not_false_eq_true, ↓reduceIte]
theorem cl_child {t k nc : Nat} {a b a' b' : Nat} (hO : OF O) (hN : NB N) (hx : XCl I0 t k nc 3 a b) (hm : MCl I0 t k 4 a' b') : ∃ v N', ClP n O I0 t k N v N' := by
  have b1 : N 1 ≤ 4 := hN.2.1
  obtain ⟨m1, m2, m3, m4, m5, m6⟩ := hm
  by_cases z : N 1 = 4
  · refine ⟨false, N, hN, rfl, rfl, fun I h => ⟨I, x_carry hO hx h (by omega) ?_, h⟩, fun J0 J L h4 hw h => ⟨J, L, ?_, h⟩⟩
    · obtain ⟨e1, e2, e3, e4⟩ := x_cl hO hx h
      have v4 : I 3 4 = nI (N 1) := (CS_V hO h).2.2.1
      show _ = some (nI 0, I)
      simp (disch := omega) only [f11_carryOut, e1, e2, e3, f11_child, f10_addChild, o_1_0 hO, o_1_1 hO, o_1_2 hO, o_1_3 hO, o_1_4 hO, o_1_5 hO, o_1_6 hO, o_1_7 hO, o_1_8 hO, o_1_9 hO, o_2_0 hO, o_2_1 hO, o_2_2 hO, o_2_3 hO, o_2_4 hO, o_2_5 hO, o_3_0 hO, o_3_1 hO, o_3_2 hO, o_6_0 hO, o_6_1 hO, o_6_2 hO, o_10_0 hO, o_331_0 hO, v4, z, qL, qb, qbl, qadd, qmul, qsubm, qdm, qsub, qdiv, qcl, qlt, qle, qeq, nltT, nltF, nleT, nleF, neqT, neqF, or_false, false_or, or_true, true_or, or_self, and_true, true_and, and_false, false_and, and_self, not_true_eq_false, not_false_eq_true, ↓reduceIte]
    · have f4 : J 334 = I0 334 := by rw [ms334 h, h4]
      have v1 := h.1.2 1 (by omega)
      have lz : -nI 1 < nI 0 := by decide
      show _ = some (nI 0, J, L)
      simp (disch := omega) only [f12_isPlayed, o_331_2 hO, f4, m4, m5, m6, f12_child, h.1.1, v1, z, lz, qL, qb, qbl, qadd, qmul, qsubm, qdm, qsub, qdiv, qcl, qlt, qle, qeq, nltT, nltF, nleT, nleF, neqT, neqF, or_false, false_or, or_true, true_or, or_self, and_true, true_and, and_false, false_and, and_self, not_true_eq_false, not_false_eq_true, ↓reduceIte]
  · have hB : NB (upN N 1 (N 1 + 1)) := NB_up hN ⟨by omega, by omega, by omega, by omega, by omega, by omega, by omega⟩ ⟨by omega, by omega, by omega, by omega, by omega, by omega, by omega, by omega, by omega, by omega, by omega⟩
    have ne := neg_ne (j := N 1) (by omega)
    refine ⟨true, upN N 1 (N 1 + 1), hB, upN_o _ (by omega), upN_o _ (by omega), fun I h => ⟨sI I 3 4 (nI (N 1 + 1)), x_carry hO hx h (by omega) ?_, CS_u h (by decide) (by decide) (by omega) (by omega) hB⟩, fun J0 J L h4 hw h => ⟨sI J 332 1 (nI (N 1 + 1)), L, ?_, MS_u h hB⟩⟩
    · obtain ⟨e1, e2, e3, e4⟩ := x_cl hO hx h
      have v4 : I 3 4 = nI (N 1) := (CS_V hO h).2.2.1
      show _ = some (nI 1, _)
      simp (disch := omega) only [f11_carryOut, e1, e2, e3, f11_child, f10_addChild, o_1_0 hO, o_1_1 hO, o_1_2 hO, o_1_3 hO, o_1_4 hO, o_1_5 hO, o_1_6 hO, o_1_7 hO, o_1_8 hO, o_1_9 hO, o_2_0 hO, o_2_1 hO, o_2_2 hO, o_2_3 hO, o_2_4 hO, o_2_5 hO, o_3_0 hO, o_3_1 hO, o_3_2 hO, o_6_0 hO, o_6_1 hO, o_6_2 hO, o_10_0 hO, o_331_0 hO, v4, sI_s, Nat.add_sub_cancel, ne, qL, qb, qbl, qadd, qmul, qsubm, qdm, qsub, qdiv, qcl, qlt, qle, qeq, nltT, nltF, nleT, nleF, neqT, neqF, or_false, false_or, or_true, true_or, or_self, and_true, true_and, and_false, false_and, and_self, not_true_eq_false, not_false_eq_true, ↓reduceIte]
    · have f4 : J 334 = I0 334 := by rw [ms334 h, h4]
      have v1 := h.1.2 1 (by omega)
      show _ = some (nI 1, _, L)
      simp (disch := omega) only [f12_isPlayed, o_331_2 hO, f4, m4, m5, m6, f12_child, h.1.1, v1, sI_s, Nat.add_sub_cancel, qL, qb, qbl, qadd, qmul, qsubm, qdm, qsub, qdiv, qcl, qlt, qle, qeq, nltT, nltF, nleT, nleF, neqT, neqF, or_false, false_or, or_true, true_or, or_self, and_true, true_and, and_false, false_and, and_self, not_true_eq_false, not_false_eq_true, ↓reduceIte]
theorem cl_play {t k nc : Nat} {a b : Nat} (hn : 100000 ≤ n) (hO : OF O) (hN : NB N) (hL : LX0 I0 (rlX N) lw) (hM : LM0 I0 (N 3) lw) (hx : XCl I0 t k nc 4 a b) (hm : MCl I0 t k 5 a b) (ha : a < 100) (hb : b < 100) : ∃ v N', ClP n O I0 t k N v N' := by
  have hB := NB_WB hN
  have b0 := hB.1
  have b1 := hB.2.1
  obtain ⟨m1, m2, m3, m4, m5, m6⟩ := hm
  by_cases z : a < N 0 ∧ b < N 1
  · obtain ⟨g1, g2, g3⟩ := qpN_ok (lw := lw) hN z.1 z.2
    have ne := neg_ne (j := qpK lw a b N) (by omega)
    refine ⟨true, qpN lw a b N, g1, PJ_2 g2, PJ_3 g2, fun I h => ?_, fun J0 J L h4 hw h => ?_⟩
    · obtain ⟨I', p1, p2⟩ := xc_hand hn hO h hL z.1 z.2
      refine ⟨I', x_carry hO hx h (by omega) ?_, p2⟩
      obtain ⟨e1, e2, e3, e4⟩ := x_cl hO hx h
      show _ = some (nI 1, I')
      simp (disch := omega) only [f11_carryOut, e1, e2, e3, p1, ne, qL, qb, qbl, qadd, qmul, qsubm, qdm, qsub, qdiv, qcl, qlt, qle, qeq, nltT, nltF, nleT, nleF, neqT, neqF, or_false, false_or, or_true, true_or, or_self, and_true, true_and, and_false, false_and, and_self, not_true_eq_false, not_false_eq_true, ↓reduceIte]
    · have f4 : J 334 = I0 334 := by rw [ms334 h, h4]
      obtain ⟨J', L', p1, p2⟩ := mc_hand (L := L) hn hO hw (LM_fr hM h4) h z.1 z.2
      refine ⟨J', L', ?_, p2⟩
      show _ = some (nI 1, J', L')
      simp (disch := omega) only [f12_isPlayed, o_331_2 hO, f4, m4, m5, m6, p1, qL, qb, qbl, qadd, qmul, qsubm, qdm, qsub, qdiv, qcl, qlt, qle, qeq, nltT, nltF, nleT, nleF, neqT, neqF, or_false, false_or, or_true, true_or, or_self, and_true, true_and, and_false, false_and, and_self, not_true_eq_false, not_false_eq_true, ↓reduceIte]
  · have q1 : a < N 0 → ¬ inR (nI b) (N 1) := fun ha' => by unfold inR; rw [qtoI (by omega)]; omega
    have q0 : ¬ a < N 0 → ¬ inR (nI a) (N 0) := fun ha' => by unfold inR; rw [qtoI (by omega)]; omega
    have lz : -nI 1 < nI 0 := by decide
    refine ⟨false, N, hN, rfl, rfl, fun I h => ⟨I, x_carry hO hx h (by omega) ?_, h⟩, fun J0 J L h4 hw h => ⟨J, L, ?_, h⟩⟩
    · obtain ⟨e1, e2, e3, e4⟩ := x_cl hO hx h
      have hV := CS_V hO h
      have ep : f11_play n I O 1 (nI a) (nI b) = some (-nI 1, I) := by
        by_cases w : a < N 0
        · simp (disch := omega) only [f11_play, o_1_0 hO, o_1_1 hO, o_1_2 hO, o_1_3 hO, o_1_4 hO, o_1_5 hO, o_1_6 hO, o_1_7 hO, o_1_8 hO, o_1_9 hO, o_2_0 hO, o_2_1 hO, o_2_2 hO, o_2_3 hO, o_2_4 hO, o_2_5 hO, o_3_0 hO, o_3_1 hO, o_3_2 hO, o_6_0 hO, o_6_1 hO, o_6_2 hO, o_10_0 hO, o_331_0 hO, x_hasRoll hV hB w, x_noChild hV hB (q1 w), qL, qb, qbl, qadd, qmul, qsubm, qdm, qsub, qdiv, qcl, qlt, qle, qeq, nltT, nltF, nleT, nleF, neqT, neqF, or_false, false_or, or_true, true_or, or_self, and_true, true_and, and_false, false_and, and_self, not_true_eq_false, not_false_eq_true, ↓reduceIte]
        · simp (disch := omega) only [f11_play, o_1_0 hO, o_1_1 hO, o_1_2 hO, o_1_3 hO, o_1_4 hO, o_1_5 hO, o_1_6 hO, o_1_7 hO, o_1_8 hO, o_1_9 hO, o_2_0 hO, o_2_1 hO, o_2_2 hO, o_2_3 hO, o_2_4 hO, o_2_5 hO, o_3_0 hO, o_3_1 hO, o_3_2 hO, o_6_0 hO, o_6_1 hO, o_6_2 hO, o_10_0 hO, o_331_0 hO, x_noRoll hV hB (q0 w), qL, qb, qbl, qadd, qmul, qsubm, qdm, qsub, qdiv, qcl, qlt, qle, qeq, nltT, nltF, nleT, nleF, neqT, neqF, or_false, false_or, or_true, true_or, or_self, and_true, true_and, and_false, false_and, and_self, not_true_eq_false, not_false_eq_true, ↓reduceIte]
      show _ = some (nI 0, I)
      simp (disch := omega) only [f11_carryOut, e1, e2, e3, ep, qL, qb, qbl, qadd, qmul, qsubm, qdm, qsub, qdiv, qcl, qlt, qle, qeq, nltT, nltF, nleT, nleF, neqT, neqF, or_false, false_or, or_true, true_or, or_self, and_true, true_and, and_false, false_and, and_self, not_true_eq_false, not_false_eq_true, ↓reduceIte]
    · have f4 : J 334 = I0 334 := by rw [ms334 h, h4]
      have ep : f12_play n J L O 331 (nI a) (nI b) = some (-nI 1, J, L) := by
        by_cases w : a < N 0
        · simp (disch := omega) only [f12_play, m_isRoll h.1 hB w, m_noChild h.1 hB (q1 w), qL, qb, qbl, qadd, qmul, qsubm, qdm, qsub, qdiv, qcl, qlt, qle, qeq, nltT, nltF, nleT, nleF, neqT, neqF, or_false, false_or, or_true, true_or, or_self, and_true, true_and, and_false, false_and, and_self, not_true_eq_false, not_false_eq_true, ↓reduceIte]
        · simp (disch := omega) only [f12_play, m_noRoll h.1 hB (q0 w), qL, qb, qbl, qadd, qmul, qsubm, qdm, qsub, qdiv, qcl, qlt, qle, qeq, nltT, nltF, nleT, nleF, neqT, neqF, or_false, false_or, or_true, true_or, or_self, and_true, true_and, and_false, false_and, and_self, not_true_eq_false, not_false_eq_true, ↓reduceIte]
      show _ = some (nI 0, J, L)
      simp (disch := omega) only [f12_isPlayed, o_331_2 hO, f4, m4, m5, m6, ep, lz, qL, qb, qbl, qadd, qmul, qsubm, qdm, qsub, qdiv, qcl, qlt, qle, qeq, nltT, nltF, nleT, nleF, neqT, neqF, or_false, false_or, or_true, true_or, or_self, and_true, true_and, and_false, false_and, and_self, not_true_eq_false, not_false_eq_true, ↓reduceIte]
theorem cl_sunday {t k nc : Nat} {a b b' : Nat} (hn : 100000 ≤ n) (hO : OF O) (hN : NB N) (hL : LX0 I0 (rlX N) lw) (hM : LM0 I0 (N 3) lw) (hx : XCl I0 t k nc 8 a b) (hm : MCl I0 t k 8 a b') (ha : a ≤ 60) : ∃ v N', ClP n O I0 t k N v N' := by
  have s7 : N 7 ≤ 9999 := (NB_WB hN).2.2.2.2.2.2.2.2.1
  obtain ⟨m1, m2, m3, m4, m5, m6⟩ := hm
  obtain ⟨g1, g2, g3, g4⟩ := sdN_ok (lw := lw) hN (min a (9999 - N 7)) (by omega)
  refine ⟨decide (a ≤ 9999 - N 7), (sdN lw (min a (9999 - N 7)) N).1, g1, PJ_2 g2, PJ_3 g2, fun I h => ?_, fun J0 J L h4 hw h => ?_⟩
  · obtain ⟨I', p1, p2⟩ := xc_passes (lw := lw) hn hO h hL ha
    refine ⟨I', fun m => ?_, p2⟩
    obtain ⟨e1, e2, e3, e4⟩ := x_cl hO hx h
    obtain ⟨c1, c2, c3, c4, c5, c6, c7, c8⟩ := hx
    have hlt : ¬ nI nc ≤ nI k := fun q => by rw [nI_leI (by omega) (by omega)] at q; omega
    rw [f11_played_c15, e4, if_neg hlt, e1, qb, e3, qb, if_pos (show nI 8 = 8 from rfl), p1, qb]
    by_cases z : a ≤ 9999 - N 7
    · rw [decide_eq_true z, show min a (9999 - N 7) = a by omega, if_pos rfl, if_neg (by decide), nI_1]; rfl
    · rw [decide_eq_false z, if_neg (show ¬ (nI (min a (9999 - N 7)), I').fst = nI a from fun q => by
        have q' := (nI_eq (by omega) (by omega)).mp (show nI (min a (9999 - N 7)) = nI a from q)
        omega), if_pos rfl]; rfl
  · have f4 : J 334 = I0 334 := by rw [ms334 h, h4]
    obtain ⟨J', L', p1, p2, p3⟩ := mc_passed (L := L) (lw := lw) hn hO hw (LM_fr hM h4) h ha
    refine ⟨J', L', ?_, p2⟩
    by_cases z : a ≤ 9999 - N 7
    · rw [if_pos z] at p1
      rw [decide_eq_true z]
      show _ = some (nI 1, J', L')
      simp (disch := omega) only [f12_isPlayed, o_331_2 hO, f4, m4, m5, m6, p1, qL, qb, qbl, qadd, qmul, qsubm, qdm, qsub, qdiv, qcl, qlt, qle, qeq, nltT, nltF, nleT, nleF, neqT, neqF, or_false, false_or, or_true, true_or, or_self, and_true, true_and, and_false, false_and, and_self, not_true_eq_false, not_false_eq_true, ↓reduceIte]
    · rw [if_neg z] at p1
      rw [decide_eq_false z]
      show _ = some (nI 0, J', L')
      simp (disch := omega) only [f12_isPlayed, o_331_2 hO, f4, m4, m5, m6, p1, qL, qb, qbl, qadd, qmul, qsubm, qdm, qsub, qdiv, qcl, qlt, qle, qeq, nltT, nltF, nleT, nleF, neqT, neqF, or_false, false_or, or_true, true_or, or_self, and_true, true_and, and_false, false_and, and_self, not_true_eq_false, not_false_eq_true, ↓reduceIte]
theorem cl_patch {t k nc : Nat} {a b : Nat} (hn : 100000 ≤ n) (hO : OF O) (hN : NB N) (hx : XCl I0 t k nc 5 a b) (hm : MCl I0 t k 6 a b) (ha : a < 100) (hb : b < 100) : ∃ v N', ClP n O I0 t k N v N' := by
  have hB := NB_WB hN
  have b0 := hB.1
  have b4 : N 4 ≤ 30 := hN.2.2.2.2.1
  obtain ⟨m1, m2, m3, m4, m5, m6⟩ := hm
  by_cases z : b < N 0 ∧ a < Ln N b ∧ 0 < Wr N b a
  · obtain ⟨z1, z2, z3⟩ := z
    obtain ⟨p5, p16⟩ := place_lt hB z1 z2
    have wb := hB.2.2.2.2.2.1 b a p5 p16
    have hN' := keepNB hN
    have hB' := NB_WB hN'
    have hNB : NB (upN (keepN N) (10 + 16 * b + a) 0) := NB_up hN' ⟨by omega, by omega, by omega, by omega, by omega, by omega, by omega⟩ ⟨by omega, by omega, by omega, by omega, by omega, by omega, by omega, by omega, by omega, by omega, by omega⟩
    refine ⟨true, upN (keepN N) (10 + 16 * b + a) 0, hNB, by rw [upN_o _ (by omega)]; exact keepN_o (by omega) (by omega) b4, by rw [upN_o _ (by omega)]; exact keepN_o (by omega) (by omega) b4, fun I h => ?_, fun J0 J L h4 hw h => ?_⟩
    · obtain ⟨I1, k1, k2⟩ := xc_keep hO h
      have hV := CS_V hO h
      have hV1 := CS_V hO k2
      have ep := x_hasPlace hV1 hB' (r := b) (p := a) (by rw [keepN_0 b4]; exact z1) (by rw [keepN_Ln b4 p5]; exact z2)
      have ew := x_wearAt hV hB z1 z2
      refine ⟨sI I1 7 (b * 16 + a) (nI 0), x_carry hO hx h (by omega) ?_, CS_w hO k2 p5 p16 (by omega)⟩
      obtain ⟨e1, e2, e3, e4⟩ := x_cl hO hx h
      show _ = some (nI 1, _)
      simp (disch := omega) only [f11_carryOut, e1, e2, e3, f11_patch, o_1_0 hO, o_1_1 hO, o_1_2 hO, o_1_3 hO, o_1_4 hO, o_1_5 hO, o_1_6 hO, o_1_7 hO, o_1_8 hO, o_1_9 hO, o_2_0 hO, o_2_1 hO, o_2_2 hO, o_2_3 hO, o_2_4 hO, o_2_5 hO, o_3_0 hO, o_3_1 hO, o_3_2 hO, o_6_0 hO, o_6_1 hO, o_6_2 hO, o_10_0 hO, o_331_0 hO, ew, k1, f10_mend, ep, qL, qb, qbl, qadd, qmul, qsubm, qdm, qsub, qdiv, qcl, qlt, qle, qeq, nltT, nltF, nleT, nleF, neqT, neqF, or_false, false_or, or_true, true_or, or_self, and_true, true_and, and_false, false_and, and_self, not_true_eq_false, not_false_eq_true, ↓reduceIte]
    · have f4 : J 334 = I0 334 := by rw [ms334 h, h4]
      obtain ⟨J1, k1, k2, k3⟩ := mc_keep hn h
      refine ⟨sI J1 332 (10 + 16 * b + a) (nI 0), L, ?_, MS_u k2 hNB⟩
      have ep := m_isPlace h.1 hB z1 z2
      have ew := m_wearOf h.1 p5 p16
      show _ = some (nI 1, _, L)
      simp (disch := omega) only [f12_isPlayed, o_331_2 hO, f4, m4, m5, m6, f12_patch, f12_canPatch, ep, ew, k1, h.1.1, qL, qb, qbl, qadd, qmul, qsubm, qdm, qsub, qdiv, qcl, qlt, qle, qeq, nltT, nltF, nleT, nleF, neqT, neqF, or_false, false_or, or_true, true_or, or_self, and_true, true_and, and_false, false_and, and_self, not_true_eq_false, not_false_eq_true, ↓reduceIte]
  · refine ⟨false, N, hN, rfl, rfl, fun I h => ⟨I, x_carry hO hx h (by omega) ?_, h⟩, fun J0 J L h4 hw h => ⟨J, L, ?_, h⟩⟩
    · obtain ⟨e1, e2, e3, e4⟩ := x_cl hO hx h
      have hV := CS_V hO h
      have ep : f11_patch I O 1 (nI b) (nI a) = some (nI 0, I) := by
        by_cases w : b < N 0
        · by_cases w2 : a < Ln N b
          · have ew := x_wearAt hV hB w w2
            have wz : Wr N b a = 0 := by omega
            simp (disch := omega) only [f11_patch, o_1_0 hO, o_1_1 hO, o_1_2 hO, o_1_3 hO, o_1_4 hO, o_1_5 hO, o_1_6 hO, o_1_7 hO, o_1_8 hO, o_1_9 hO, o_2_0 hO, o_2_1 hO, o_2_2 hO, o_2_3 hO, o_2_4 hO, o_2_5 hO, o_3_0 hO, o_3_1 hO, o_3_2 hO, o_6_0 hO, o_6_1 hO, o_6_2 hO, o_10_0 hO, o_331_0 hO, ew, wz, qL, qb, qbl, qadd, qmul, qsubm, qdm, qsub, qdiv, qcl, qlt, qle, qeq, nltT, nltF, nleT, nleF, neqT, neqF, or_false, false_or, or_true, true_or, or_self, and_true, true_and, and_false, false_and, and_self, not_true_eq_false, not_false_eq_true, ↓reduceIte]
          · have ew := x_noWear hV hB (r := b) (y := nI a) w (by unfold inR; rw [qtoI (by omega)]; omega)
            simp (disch := omega) only [f11_patch, o_1_0 hO, o_1_1 hO, o_1_2 hO, o_1_3 hO, o_1_4 hO, o_1_5 hO, o_1_6 hO, o_1_7 hO, o_1_8 hO, o_1_9 hO, o_2_0 hO, o_2_1 hO, o_2_2 hO, o_2_3 hO, o_2_4 hO, o_2_5 hO, o_3_0 hO, o_3_1 hO, o_3_2 hO, o_6_0 hO, o_6_1 hO, o_6_2 hO, o_10_0 hO, o_331_0 hO, ew, qL, qb, qbl, qadd, qmul, qsubm, qdm, qsub, qdiv, qcl, qlt, qle, qeq, nltT, nltF, nleT, nleF, neqT, neqF, or_false, false_or, or_true, true_or, or_self, and_true, true_and, and_false, false_and, and_self, not_true_eq_false, not_false_eq_true, ↓reduceIte]
        · have ew := x_noWearR hV hB (x := nI b) (y := nI a) (by unfold inR; rw [qtoI (by omega)]; omega)
          simp (disch := omega) only [f11_patch, o_1_0 hO, o_1_1 hO, o_1_2 hO, o_1_3 hO, o_1_4 hO, o_1_5 hO, o_1_6 hO, o_1_7 hO, o_1_8 hO, o_1_9 hO, o_2_0 hO, o_2_1 hO, o_2_2 hO, o_2_3 hO, o_2_4 hO, o_2_5 hO, o_3_0 hO, o_3_1 hO, o_3_2 hO, o_6_0 hO, o_6_1 hO, o_6_2 hO, o_10_0 hO, o_331_0 hO, ew, qL, qb, qbl, qadd, qmul, qsubm, qdm, qsub, qdiv, qcl, qlt, qle, qeq, nltT, nltF, nleT, nleF, neqT, neqF, or_false, false_or, or_true, true_or, or_self, and_true, true_and, and_false, false_and, and_self, not_true_eq_false, not_false_eq_true, ↓reduceIte]
      show _ = some (nI 0, I)
      simp (disch := omega) only [f11_carryOut, e1, e2, e3, ep, qL, qb, qbl, qadd, qmul, qsubm, qdm, qsub, qdiv, qcl, qlt, qle, qeq, nltT, nltF, nleT, nleF, neqT, neqF, or_false, false_or, or_true, true_or, or_self, and_true, true_and, and_false, false_and, and_self, not_true_eq_false, not_false_eq_true, ↓reduceIte]
    · have f4 : J 334 = I0 334 := by rw [ms334 h, h4]
      have ep : f12_patch n J O 331 (nI b) (nI a) = some (nI 0, J) := by
        by_cases w : b < N 0
        · by_cases w2 : a < Ln N b
          · obtain ⟨p5, p16⟩ := place_lt hB w w2
            have wz : Wr N b a = 0 := by omega
            simp (disch := omega) only [f12_patch, f12_canPatch, m_isPlace h.1 hB w w2, m_wearOf h.1 p5 p16, wz, qL, qb, qbl, qadd, qmul, qsubm, qdm, qsub, qdiv, qcl, qlt, qle, qeq, nltT, nltF, nleT, nleF, neqT, neqF, or_false, false_or, or_true, true_or, or_self, and_true, true_and, and_false, false_and, and_self, not_true_eq_false, not_false_eq_true, ↓reduceIte]
          · have ew := m_noPlace h.1 hB (r := b) (y := nI a) w (by unfold inR; rw [qtoI (by omega)]; omega)
            simp (disch := omega) only [f12_patch, f12_canPatch, ew, qL, qb, qbl, qadd, qmul, qsubm, qdm, qsub, qdiv, qcl, qlt, qle, qeq, nltT, nltF, nleT, nleF, neqT, neqF, or_false, false_or, or_true, true_or, or_self, and_true, true_and, and_false, false_and, and_self, not_true_eq_false, not_false_eq_true, ↓reduceIte]
        · have ew := m_noPlaceR h.1 hB (x := nI b) (y := nI a) (by unfold inR; rw [qtoI (by omega)]; omega)
          simp (disch := omega) only [f12_patch, f12_canPatch, ew, qL, qb, qbl, qadd, qmul, qsubm, qdm, qsub, qdiv, qcl, qlt, qle, qeq, nltT, nltF, nleT, nleF, neqT, neqF, or_false, false_or, or_true, true_or, or_self, and_true, true_and, and_false, false_and, and_self, not_true_eq_false, not_false_eq_true, ↓reduceIte]
      show _ = some (nI 0, J, L)
      simp (disch := omega) only [f12_isPlayed, o_331_2 hO, f4, m4, m5, m6, ep, qL, qb, qbl, qadd, qmul, qsubm, qdm, qsub, qdiv, qcl, qlt, qle, qeq, nltT, nltF, nleT, nleF, neqT, neqF, or_false, false_or, or_true, true_or, or_self, and_true, true_and, and_false, false_and, and_self, not_true_eq_false, not_false_eq_true, ↓reduceIte]
theorem cl_forget {t k nc : Nat} {a b : Nat} (hn : 100000 ≤ n) (hO : OF O) (hN : NB N) (hx : XCl I0 t k nc 6 a b) (hm : MCl I0 t k 7 a b) (ha : a < 100) (hb : b < 100) : ∃ v N', ClP n O I0 t k N v N' := by
  have hB := NB_WB hN
  have b0 := hB.2.1
  have b4 : N 4 ≤ 30 := hN.2.2.2.2.1
  have nm : ¬ nI 0 < -nI 1 := by decide
  obtain ⟨m1, m2, m3, m4, m5, m6⟩ := hm
  by_cases z : b < N 1 ∧ (1 ≤ a ∧ a ≤ 5) ∧ 0 < Hd N b a
  · obtain ⟨z1, ⟨z2, z2'⟩, z3⟩ := z
    have wb := hB.2.2.2.2.2.2.1 b a (by omega) (by omega)
    have hN' := keepNB hN
    have hB' := NB_WB hN'
    have hNB : NB (upN (keepN N) (90 + 6 * b + a) 0) := NB_up hN' ⟨by omega, by omega, by omega, by omega, by omega, by omega, by omega⟩ ⟨by omega, by omega, by omega, by omega, by omega, by omega, by omega, by omega, by omega, by omega, by omega⟩
    refine ⟨true, upN (keepN N) (90 + 6 * b + a) 0, hNB, by rw [upN_o _ (by omega)]; exact keepN_o (by omega) (by omega) b4, by rw [upN_o _ (by omega)]; exact keepN_o (by omega) (by omega) b4, fun I h => ?_, fun J0 J L h4 hw h => ?_⟩
    · obtain ⟨I1, k1, k2⟩ := xc_keep hO h
      have hV := CS_V hO h
      have hV1 := CS_V hO k2
      have ep := x_hasChild hV1 hB' (r := b) (by rw [keepN_1 b4]; exact z1)
      have ew := x_heardBy hV hB z1 z2 (show a < 6 by omega)
      refine ⟨sI I1 8 (b * 6 + a) (nI 0), x_carry hO hx h (by omega) ?_, CS_h hO k2 (by omega) z2 (by omega) (by omega)⟩
      obtain ⟨e1, e2, e3, e4⟩ := x_cl hO hx h
      show _ = some (nI 1, _)
      simp (disch := omega) only [f11_carryOut, e1, e2, e3, f11_forget, o_1_0 hO, o_1_1 hO, o_1_2 hO, o_1_3 hO, o_1_4 hO, o_1_5 hO, o_1_6 hO, o_1_7 hO, o_1_8 hO, o_1_9 hO, o_2_0 hO, o_2_1 hO, o_2_2 hO, o_2_3 hO, o_2_4 hO, o_2_5 hO, o_3_0 hO, o_3_1 hO, o_3_2 hO, o_6_0 hO, o_6_1 hO, o_6_2 hO, o_10_0 hO, o_331_0 hO, ew, k1, f10_unhear, ep, qL, qb, qbl, qadd, qmul, qsubm, qdm, qsub, qdiv, qcl, qlt, qle, qeq, nltT, nltF, nleT, nleF, neqT, neqF, or_false, false_or, or_true, true_or, or_self, and_true, true_and, and_false, false_and, and_self, not_true_eq_false, not_false_eq_true, ↓reduceIte]
    · have f4 : J 334 = I0 334 := by rw [ms334 h, h4]
      obtain ⟨J1, k1, k2, k3⟩ := mc_keep hn h
      refine ⟨sI J1 332 (90 + 6 * b + a) (nI 0), L, ?_, MS_u k2 hNB⟩
      have ep := m_isChild h.1 hB z1
      have ew := m_heardBy h.1 (c := b) (k := a) (by omega) (by omega)
      have ei := m_inT z2 z2' (by omega)
      show _ = some (nI 1, _, L)
      simp (disch := omega) only [f12_isPlayed, o_331_2 hO, f4, m4, m5, m6, f12_forget, f12_canForget, ep, ei, ew, k1, h.1.1, qL, qb, qbl, qadd, qmul, qsubm, qdm, qsub, qdiv, qcl, qlt, qle, qeq, nltT, nltF, nleT, nleF, neqT, neqF, or_false, false_or, or_true, true_or, or_self, and_true, true_and, and_false, false_and, and_self, not_true_eq_false, not_false_eq_true, ↓reduceIte]
  · refine ⟨false, N, hN, rfl, rfl, fun I h => ⟨I, x_carry hO hx h (by omega) ?_, h⟩, fun J0 J L h4 hw h => ⟨J, L, ?_, h⟩⟩
    · obtain ⟨e1, e2, e3, e4⟩ := x_cl hO hx h
      have hV := CS_V hO h
      have ep : f11_forget I O 1 (nI b) (nI a) = some (nI 0, I) := by
        by_cases w : b < N 1
        · by_cases w2 : 1 ≤ a ∧ a ≤ 5
          · have ew := x_heardBy hV hB w w2.1 (show a < 6 by omega)
            have wz : Hd N b a = 0 := by omega
            simp (disch := omega) only [f11_forget, o_1_0 hO, o_1_1 hO, o_1_2 hO, o_1_3 hO, o_1_4 hO, o_1_5 hO, o_1_6 hO, o_1_7 hO, o_1_8 hO, o_1_9 hO, o_2_0 hO, o_2_1 hO, o_2_2 hO, o_2_3 hO, o_2_4 hO, o_2_5 hO, o_3_0 hO, o_3_1 hO, o_3_2 hO, o_6_0 hO, o_6_1 hO, o_6_2 hO, o_10_0 hO, o_331_0 hO, ew, wz, qL, qb, qbl, qadd, qmul, qsubm, qdm, qsub, qdiv, qcl, qlt, qle, qeq, nltT, nltF, nleT, nleF, neqT, neqF, or_false, false_or, or_true, true_or, or_self, and_true, true_and, and_false, false_and, and_self, not_true_eq_false, not_false_eq_true, ↓reduceIte]
          · have ew := x_noHeard hV hB (c := b) (y := nI a) w (by rw [qtoI (by omega)]; omega)
            simp (disch := omega) only [f11_forget, o_1_0 hO, o_1_1 hO, o_1_2 hO, o_1_3 hO, o_1_4 hO, o_1_5 hO, o_1_6 hO, o_1_7 hO, o_1_8 hO, o_1_9 hO, o_2_0 hO, o_2_1 hO, o_2_2 hO, o_2_3 hO, o_2_4 hO, o_2_5 hO, o_3_0 hO, o_3_1 hO, o_3_2 hO, o_6_0 hO, o_6_1 hO, o_6_2 hO, o_10_0 hO, o_331_0 hO, ew, nm, qL, qb, qbl, qadd, qmul, qsubm, qdm, qsub, qdiv, qcl, qlt, qle, qeq, nltT, nltF, nleT, nleF, neqT, neqF, or_false, false_or, or_true, true_or, or_self, and_true, true_and, and_false, false_and, and_self, not_true_eq_false, not_false_eq_true, ↓reduceIte]
        · have ew := x_noHeardC hV hB (x := nI b) (y := nI a) (by unfold inR; rw [qtoI (by omega)]; omega)
          simp (disch := omega) only [f11_forget, o_1_0 hO, o_1_1 hO, o_1_2 hO, o_1_3 hO, o_1_4 hO, o_1_5 hO, o_1_6 hO, o_1_7 hO, o_1_8 hO, o_1_9 hO, o_2_0 hO, o_2_1 hO, o_2_2 hO, o_2_3 hO, o_2_4 hO, o_2_5 hO, o_3_0 hO, o_3_1 hO, o_3_2 hO, o_6_0 hO, o_6_1 hO, o_6_2 hO, o_10_0 hO, o_331_0 hO, ew, nm, qL, qb, qbl, qadd, qmul, qsubm, qdm, qsub, qdiv, qcl, qlt, qle, qeq, nltT, nltF, nleT, nleF, neqT, neqF, or_false, false_or, or_true, true_or, or_self, and_true, true_and, and_false, false_and, and_self, not_true_eq_false, not_false_eq_true, ↓reduceIte]
      show _ = some (nI 0, I)
      simp (disch := omega) only [f11_carryOut, e1, e2, e3, ep, qL, qb, qbl, qadd, qmul, qsubm, qdm, qsub, qdiv, qcl, qlt, qle, qeq, nltT, nltF, nleT, nleF, neqT, neqF, or_false, false_or, or_true, true_or, or_self, and_true, true_and, and_false, false_and, and_self, not_true_eq_false, not_false_eq_true, ↓reduceIte]
    · have f4 : J 334 = I0 334 := by rw [ms334 h, h4]
      have ep : f12_forget n J O 331 (nI b) (nI a) = some (nI 0, J) := by
        by_cases w : b < N 1
        · by_cases w2 : 1 ≤ a ∧ a ≤ 5
          · have ei := m_inT w2.1 w2.2 (by omega)
            have wz : Hd N b a = 0 := by omega
            simp (disch := omega) only [f12_forget, f12_canForget, m_isChild h.1 hB w, ei, m_heardBy h.1 (c := b) (k := a) (by omega) (by omega), wz, qL, qb, qbl, qadd, qmul, qsubm, qdm, qsub, qdiv, qcl, qlt, qle, qeq, nltT, nltF, nleT, nleF, neqT, neqF, or_false, false_or, or_true, true_or, or_self, and_true, true_and, and_false, false_and, and_self, not_true_eq_false, not_false_eq_true, ↓reduceIte]
          · have ei := m_inF (a := 1) (b := 5) (x := nI a) (by rw [qtoI (by omega)]; omega) (by omega) (by omega)
            simp (disch := omega) only [f12_forget, f12_canForget, m_isChild h.1 hB w, ei, qL, qb, qbl, qadd, qmul, qsubm, qdm, qsub, qdiv, qcl, qlt, qle, qeq, nltT, nltF, nleT, nleF, neqT, neqF, or_false, false_or, or_true, true_or, or_self, and_true, true_and, and_false, false_and, and_self, not_true_eq_false, not_false_eq_true, ↓reduceIte]
        · have ew := m_noChild h.1 hB (x := nI b) (by unfold inR; rw [qtoI (by omega)]; omega)
          simp (disch := omega) only [f12_forget, f12_canForget, ew, qL, qb, qbl, qadd, qmul, qsubm, qdm, qsub, qdiv, qcl, qlt, qle, qeq, nltT, nltF, nleT, nleF, neqT, neqF, or_false, false_or, or_true, true_or, or_self, and_true, true_and, and_false, false_and, and_self, not_true_eq_false, not_false_eq_true, ↓reduceIte]
      show _ = some (nI 0, J, L)
      simp (disch := omega) only [f12_isPlayed, o_331_2 hO, f4, m4, m5, m6, ep, qL, qb, qbl, qadd, qmul, qsubm, qdm, qsub, qdiv, qcl, qlt, qle, qeq, nltT, nltF, nleT, nleF, neqT, neqF, or_false, false_or, or_true, true_or, or_self, and_true, true_and, and_false, false_and, and_self, not_true_eq_false, not_false_eq_true, ↓reduceIte]
end CL
