/-! wear told, patches, what is forgotten, said -/
section MU
variable {TX : TI → Nat → Prop} {I : TI} {O : TO} {n : Nat}
theorem la_W {r p : Nat} (hr : r < 5) (hp : p < 16) : la 2 (10 + 16 * r + p) = 7 ∧ lk (10 + 16 * r + p) = r * 16 + p := by
  constructor
  · simp (disch := omega) only [la, qL, qb, qbl, qadd, qmul, qsubm, qdm, qsub, qdiv, qcl, qlt, qle, qeq, nltT, nltF, nleT, nleF, neqT, neqF, or_false, false_or, or_true, true_or, or_self, and_true, true_and, and_false, false_and, and_self, not_true_eq_false, not_false_eq_true, ↓reduceIte]
  · simp (disch := omega) only [lk, qL, qb, qbl, qadd, qmul, qsubm, qdm, qsub, qdiv, qcl, qlt, qle, qeq, nltT, nltF, nleT, nleF, neqT, neqF, or_false, false_or, or_true, true_or, or_self, and_true, true_and, and_false, false_and, and_self, not_true_eq_false, not_false_eq_true, ↓reduceIte] <;> omega
theorem la_H {c k : Nat} (hr : c < 4) (hp : k < 6) : la 2 (90 + 6 * c + k) = 8 ∧ lk (90 + 6 * c + k) = c * 6 + k := by
  constructor
  · simp (disch := omega) only [la, qL, qb, qbl, qadd, qmul, qsubm, qdm, qsub, qdiv, qcl, qlt, qle, qeq, nltT, nltF, nleT, nleF, neqT, neqF, or_false, false_or, or_true, true_or, or_self, and_true, true_and, and_false, false_and, and_self, not_true_eq_false, not_false_eq_true, ↓reduceIte]
  · simp (disch := omega) only [lk, qL, qb, qbl, qadd, qmul, qsubm, qdm, qsub, qdiv, qcl, qlt, qle, qeq, nltT, nltF, nleT, nleF, neqT, neqF, or_false, false_or, or_true, true_or, or_self, and_true, true_and, and_false, false_and, and_self, not_true_eq_false, not_false_eq_true, ↓reduceIte] <;> omega
theorem RW_up {e t v : Nat} {N : TN} (h : RW I 2 e N) (h30 : N 4 ≤ 30) (ht : dm t) (h4 : t ≠ 4) (a k : Nat) (ea : la 2 t = a) (ek : lk t = k) : RW (sI I a k (nI v)) 2 e (upN N t v) := by
  subst ea; subst ek
  exact ⟨RWn_up h.1 ht, RWs_up h.2 h30 ht h4⟩
theorem keepN_WB {N : TN} (h : NB N) : WB (keepN N) := NB_WB (keepNB h)
theorem keepN_0 {N : TN} (h30 : N 4 ≤ 30) : keepN N 0 = N 0 := keepN_o (by omega) (by omega) h30
theorem keepN_1 {N : TN} (h30 : N 4 ≤ 30) : keepN N 1 = N 1 := keepN_o (by omega) (by omega) h30
theorem keepN_Ln {N : TN} (h30 : N 4 ≤ 30) {r : Nat} (hr : r < 5) : Ln (keepN N) r = Ln N r := keepN_o (by omega) (by omega) h30
theorem s_patch (hn : 100000 ≤ n) (hT : TXst TX) (h : RE TX I O) (p1 p2 : Int32) : ∃ (v : Int32) (I1 I2 : TI), f11_patch I O 1 p1 p2 = some (v, I1) ∧ f12_patch n I1 O 331 p1 p2 = some (v, I2) ∧ RE TX I2 O := by
  obtain ⟨N, G, e, f, tp, h⟩ := h
  have hO := h.1
  have hV := RW_WV hO h.2.2.2.2.2.2.1
  have hN := h.2.2.2.1
  have hB := NB_WB hN
  have hM := h.2.1
  have hF := RW_fd h.2.2.2.2.2.2.1
  have b0 : N 0 ≤ 5 := hB.1
  have b1 : N 1 ≤ 4 := hB.2.1
  have b4 : N 4 ≤ 30 := hN.2.2.2.2.1
  by_cases h1 : inR p1 (N 0)
  · obtain ⟨r, hr, rfl⟩ := inR_of h1
    by_cases h2 : inR p2 (Ln N r)
    · obtain ⟨p, hp, rfl⟩ := inR_of h2
      obtain ⟨b5, b6⟩ := place_lt hB hr hp
      have ew := x_wearAt hV hB hr hp
      have bw := hB.2.2.2.2.2.1 r p b5 b6
      by_cases hw : Wr N r p = 0
      · refine ⟨0, I, I, ?_, ?_, N, G, e, f, tp, h⟩
        · simp (disch := omega) only [f11_patch, o_1_0 hO, o_1_1 hO, o_1_2 hO, o_1_3 hO, o_1_4 hO, o_1_5 hO, o_1_6 hO, o_1_7 hO, o_1_8 hO, o_1_9 hO, o_2_0 hO, o_2_1 hO, o_2_2 hO, o_2_3 hO, o_2_4 hO, o_2_5 hO, o_3_0 hO, o_3_1 hO, o_3_2 hO, o_6_0 hO, o_6_1 hO, o_6_2 hO, o_10_0 hO, o_331_0 hO, ew, hw, qL, qb, qbl, qadd, qmul, qsubm, qdm, qsub, qdiv, qcl, qlt, qle, qeq, nltT, nltF, nleT, nleF, neqT, neqF, or_false, false_or, or_true, true_or, or_self, and_true, true_and, and_false, false_and, and_self, not_true_eq_false, not_false_eq_true, ↓reduceIte]
        · simp (disch := omega) only [f12_patch, f12_canPatch, m_isPlace hM hB hr hp, m_wearOf hM b5 b6, hw, qL, qb, qbl, qadd, qmul, qsubm, qdm, qsub, qdiv, qcl, qlt, qle, qeq, nltT, nltF, nleT, nleF, neqT, neqF, or_false, false_or, or_true, true_or, or_self, and_true, true_and, and_false, false_and, and_self, not_true_eq_false, not_false_eq_true, ↓reduceIte]
      · obtain ⟨I1, e', k1, k2, k3⟩ := keepX hO h.2.2.2.2.2.2.1 b4
        have hN' := keepNB hN
        have hB' := NB_WB hN'
        have hV' := RW_WV hO k2
        have hp' := x_hasPlace hV' hB' (r := r) (p := p) (by rw [keepN_0 b4]; exact hr) (by rw [keepN_Ln b4 b5]; exact hp)
        have hl := la_W b5 b6
        have b4' : keepN N 4 ≤ 30 := hN'.2.2.2.2.1
        have hX := RW_up k2 b4' (t := 10 + 16 * r + p) (v := 0) (Or.inl (by omega)) (by omega) 7 (r * 16 + p) hl.1 hl.2
        have fX : ∀ a, a < 2 ∨ 136 ≤ a → sI I1 7 (r * 16 + p) (nI 0) a = I a := fun a ha => by rw [sI_o _ _ (by omega)]; exact k3 a ha
        have hM1 : MV (sI I1 7 (r * 16 + p) (nI 0)) O N := MV_fr hM (fX 332 (by omega))
        obtain ⟨J', j1, j2, j3⟩ := keepM hn hM1 b4
        refine ⟨1, sI I1 7 (r * 16 + p) (nI 0), sI J' 332 (10 + 16 * r + p) (nI 0), ?_, ?_, upN (keepN N) (10 + 16 * r + p) 0, G, e', f, tp, R0_mut hT h (fun a q1 q2 => by rw [sI_o _ _ q2, j1 a q2, fX a q1]) (RW_fr hX (fun a q1 q2 => by rw [sI_o _ _ (by omega), j1 a (by omega)])) (MV_up j2) (NB_up hN' ⟨by omega, by omega, by omega, by omega, by omega, by omega, by omega⟩ ⟨by omega, by omega, by omega, by omega, by omega, by omega, by omega, by omega, by omega, by omega, by omega⟩) ?_⟩
        · simp (disch := omega) only [f11_patch, o_1_0 hO, o_1_1 hO, o_1_2 hO, o_1_3 hO, o_1_4 hO, o_1_5 hO, o_1_6 hO, o_1_7 hO, o_1_8 hO, o_1_9 hO, o_2_0 hO, o_2_1 hO, o_2_2 hO, o_2_3 hO, o_2_4 hO, o_2_5 hO, o_3_0 hO, o_3_1 hO, o_3_2 hO, o_6_0 hO, o_6_1 hO, o_6_2 hO, o_10_0 hO, o_331_0 hO, ew, k1, f10_mend, hp', qL, qb, qbl, qadd, qmul, qsubm, qdm, qsub, qdiv, qcl, qlt, qle, qeq, nltT, nltF, nleT, nleF, neqT, neqF, or_false, false_or, or_true, true_or, or_self, and_true, true_and, and_false, false_and, and_self, not_true_eq_false, not_false_eq_true, ↓reduceIte]
        · simp (disch := omega) only [f12_patch, f12_canPatch, m_isPlace hM1 hB hr hp, m_wearOf hM1 b5 b6, j3, hM.1, qL, qb, qbl, qadd, qmul, qsubm, qdm, qsub, qdiv, qcl, qlt, qle, qeq, nltT, nltF, nleT, nleF, neqT, neqF, or_false, false_or, or_true, true_or, or_self, and_true, true_and, and_false, false_and, and_self, not_true_eq_false, not_false_eq_true, ↓reduceIte]
        · rw [upN_o _ (by omega)]; exact keepN_o (by omega) (by omega) b4
    · refine ⟨0, I, I, ?_, ?_, N, G, e, f, tp, h⟩
      · simp (disch := omega) only [f11_patch, o_1_0 hO, o_1_1 hO, o_1_2 hO, o_1_3 hO, o_1_4 hO, o_1_5 hO, o_1_6 hO, o_1_7 hO, o_1_8 hO, o_1_9 hO, o_2_0 hO, o_2_1 hO, o_2_2 hO, o_2_3 hO, o_2_4 hO, o_2_5 hO, o_3_0 hO, o_3_1 hO, o_3_2 hO, o_6_0 hO, o_6_1 hO, o_6_2 hO, o_10_0 hO, o_331_0 hO, x_noWear hV hB hr h2, qL, qb, qbl, qadd, qmul, qsubm, qdm, qsub, qdiv, qcl, qlt, qle, qeq, nltT, nltF, nleT, nleF, neqT, neqF, or_false, false_or, or_true, true_or, or_self, and_true, true_and, and_false, false_and, and_self, not_true_eq_false, not_false_eq_true, ↓reduceIte]
      · simp (disch := omega) only [f12_patch, f12_canPatch, m_noPlace hM hB hr h2, qL, qb, qbl, qadd, qmul, qsubm, qdm, qsub, qdiv, qcl, qlt, qle, qeq, nltT, nltF, nleT, nleF, neqT, neqF, or_false, false_or, or_true, true_or, or_self, and_true, true_and, and_false, false_and, and_self, not_true_eq_false, not_false_eq_true, ↓reduceIte]
  · refine ⟨0, I, I, ?_, ?_, N, G, e, f, tp, h⟩
    · simp (disch := omega) only [f11_patch, o_1_0 hO, o_1_1 hO, o_1_2 hO, o_1_3 hO, o_1_4 hO, o_1_5 hO, o_1_6 hO, o_1_7 hO, o_1_8 hO, o_1_9 hO, o_2_0 hO, o_2_1 hO, o_2_2 hO, o_2_3 hO, o_2_4 hO, o_2_5 hO, o_3_0 hO, o_3_1 hO, o_3_2 hO, o_6_0 hO, o_6_1 hO, o_6_2 hO, o_10_0 hO, o_331_0 hO, x_noWearR hV hB h1, qL, qb, qbl, qadd, qmul, qsubm, qdm, qsub, qdiv, qcl, qlt, qle, qeq, nltT, nltF, nleT, nleF, neqT, neqF, or_false, false_or, or_true, true_or, or_self, and_true, true_and, and_false, false_and, and_self, not_true_eq_false, not_false_eq_true, ↓reduceIte]
    · simp (disch := omega) only [f12_patch, f12_canPatch, m_noPlaceR hM hB h1, qL, qb, qbl, qadd, qmul, qsubm, qdm, qsub, qdiv, qcl, qlt, qle, qeq, nltT, nltF, nleT, nleF, neqT, neqF, or_false, false_or, or_true, true_or, or_self, and_true, true_and, and_false, false_and, and_self, not_true_eq_false, not_false_eq_true, ↓reduceIte]
theorem s_forget (hn : 100000 ≤ n) (hT : TXst TX) (h : RE TX I O) (p1 p2 : Int32) : ∃ (v : Int32) (I1 I2 : TI), f11_forget I O 1 p1 p2 = some (v, I1) ∧ f12_forget n I1 O 331 p1 p2 = some (v, I2) ∧ RE TX I2 O := by
  obtain ⟨N, G, e, f, tp, h⟩ := h
  have hO := h.1
  have hV := RW_WV hO h.2.2.2.2.2.2.1
  have hN := h.2.2.2.1
  have hB := NB_WB hN
  have hM := h.2.1
  have hF := RW_fd h.2.2.2.2.2.2.1
  have b0 : N 0 ≤ 5 := hB.1
  have b1 : N 1 ≤ 4 := hB.2.1
  have b4 : N 4 ≤ 30 := hN.2.2.2.2.1
  have nm : ¬ nI 0 < -nI 1 := by decide
  by_cases h1 : inR p1 (N 1)
  · obtain ⟨c, hc, rfl⟩ := inR_of h1
    by_cases h2 : ((1 : Nat) : Int) ≤ p2.toInt ∧ p2.toInt ≤ ((5 : Nat) : Int)
    · obtain ⟨k, hk1, hk, rfl⟩ := inB h2
      have ew := x_heardBy hV hB hc hk1 (by omega)
      have bw := hB.2.2.2.2.2.2.1 c k (by omega) (by omega)
      by_cases hw : Hd N c k = 0
      · refine ⟨0, I, I, ?_, ?_, N, G, e, f, tp, h⟩
        · simp (disch := omega) only [f11_forget, o_1_0 hO, o_1_1 hO, o_1_2 hO, o_1_3 hO, o_1_4 hO, o_1_5 hO, o_1_6 hO, o_1_7 hO, o_1_8 hO, o_1_9 hO, o_2_0 hO, o_2_1 hO, o_2_2 hO, o_2_3 hO, o_2_4 hO, o_2_5 hO, o_3_0 hO, o_3_1 hO, o_3_2 hO, o_6_0 hO, o_6_1 hO, o_6_2 hO, o_10_0 hO, o_331_0 hO, ew, hw, qL, qb, qbl, qadd, qmul, qsubm, qdm, qsub, qdiv, qcl, qlt, qle, qeq, nltT, nltF, nleT, nleF, neqT, neqF, or_false, false_or, or_true, true_or, or_self, and_true, true_and, and_false, false_and, and_self, not_true_eq_false, not_false_eq_true, ↓reduceIte]
        · simp (disch := omega) only [f12_forget, f12_canForget, m_isChild hM hB hc, m_inT hk1 hk, m_heardBy hM (c := c) (k := k), hw, qL, qb, qbl, qadd, qmul, qsubm, qdm, qsub, qdiv, qcl, qlt, qle, qeq, nltT, nltF, nleT, nleF, neqT, neqF, or_false, false_or, or_true, true_or, or_self, and_true, true_and, and_false, false_and, and_self, not_true_eq_false, not_false_eq_true, ↓reduceIte]
      · obtain ⟨I1, e', k1, k2, k3⟩ := keepX hO h.2.2.2.2.2.2.1 b4
        have hN' := keepNB hN
        have hB' := NB_WB hN'
        have hV' := RW_WV hO k2
        have hp' := x_hasChild hV' hB' (r := c) (by rw [keepN_1 b4]; exact hc)
        have hl := la_H (c := c) (k := k) (by omega) (by omega)
        have b4' : keepN N 4 ≤ 30 := hN'.2.2.2.2.1
        have hX := RW_up k2 b4' (t := 90 + 6 * c + k) (v := 0) (Or.inl (by omega)) (by omega) 8 (c * 6 + k) hl.1 hl.2
        have fX : ∀ a, a < 2 ∨ 136 ≤ a → sI I1 8 (c * 6 + k) (nI 0) a = I a := fun a ha => by rw [sI_o _ _ (by omega)]; exact k3 a ha
        have hM1 : MV (sI I1 8 (c * 6 + k) (nI 0)) O N := MV_fr hM (fX 332 (by omega))
        obtain ⟨J', j1, j2, j3⟩ := keepM hn hM1 b4
        refine ⟨1, sI I1 8 (c * 6 + k) (nI 0), sI J' 332 (90 + 6 * c + k) (nI 0), ?_, ?_, upN (keepN N) (90 + 6 * c + k) 0, G, e', f, tp, R0_mut hT h (fun a q1 q2 => by rw [sI_o _ _ q2, j1 a q2, fX a q1]) (RW_fr hX (fun a q1 q2 => by rw [sI_o _ _ (by omega), j1 a (by omega)])) (MV_up j2) (NB_up hN' ⟨by omega, by omega, by omega, by omega, by omega, by omega, by omega⟩ ⟨by omega, by omega, by omega, by omega, by omega, by omega, by omega, by omega, by omega, by omega, by omega⟩) ?_⟩
        · simp (disch := omega) only [f11_forget, o_1_0 hO, o_1_1 hO, o_1_2 hO, o_1_3 hO, o_1_4 hO, o_1_5 hO, o_1_6 hO, o_1_7 hO, o_1_8 hO, o_1_9 hO, o_2_0 hO, o_2_1 hO, o_2_2 hO, o_2_3 hO, o_2_4 hO, o_2_5 hO, o_3_0 hO, o_3_1 hO, o_3_2 hO, o_6_0 hO, o_6_1 hO, o_6_2 hO, o_10_0 hO, o_331_0 hO, ew, k1, f10_unhear, hp', qL, qb, qbl, qadd, qmul, qsubm, qdm, qsub, qdiv, qcl, qlt, qle, qeq, nltT, nltF, nleT, nleF, neqT, neqF, or_false, false_or, or_true, true_or, or_self, and_true, true_and, and_false, false_and, and_self, not_true_eq_false, not_false_eq_true, ↓reduceIte]
        · simp (disch := omega) only [f12_forget, f12_canForget, m_isChild hM1 hB hc, m_inT hk1 hk, m_heardBy hM1 (c := c) (k := k), j3, hM.1, qL, qb, qbl, qadd, qmul, qsubm, qdm, qsub, qdiv, qcl, qlt, qle, qeq, nltT, nltF, nleT, nleF, neqT, neqF, or_false, false_or, or_true, true_or, or_self, and_true, true_and, and_false, false_and, and_self, not_true_eq_false, not_false_eq_true, ↓reduceIte]
        · rw [upN_o _ (by omega)]; exact keepN_o (by omega) (by omega) b4
    · refine ⟨0, I, I, ?_, ?_, N, G, e, f, tp, h⟩
      · simp (disch := omega) only [f11_forget, o_1_0 hO, o_1_1 hO, o_1_2 hO, o_1_3 hO, o_1_4 hO, o_1_5 hO, o_1_6 hO, o_1_7 hO, o_1_8 hO, o_1_9 hO, o_2_0 hO, o_2_1 hO, o_2_2 hO, o_2_3 hO, o_2_4 hO, o_2_5 hO, o_3_0 hO, o_3_1 hO, o_3_2 hO, o_6_0 hO, o_6_1 hO, o_6_2 hO, o_10_0 hO, o_331_0 hO, x_noHeard hV hB hc h2, nm, qL, qb, qbl, qadd, qmul, qsubm, qdm, qsub, qdiv, qcl, qlt, qle, qeq, nltT, nltF, nleT, nleF, neqT, neqF, or_false, false_or, or_true, true_or, or_self, and_true, true_and, and_false, false_and, and_self, not_true_eq_false, not_false_eq_true, ↓reduceIte]
      · simp (disch := omega) only [f12_forget, f12_canForget, m_isChild hM hB hc, m_inF h2, qL, qb, qbl, qadd, qmul, qsubm, qdm, qsub, qdiv, qcl, qlt, qle, qeq, nltT, nltF, nleT, nleF, neqT, neqF, or_false, false_or, or_true, true_or, or_self, and_true, true_and, and_false, false_and, and_self, not_true_eq_false, not_false_eq_true, ↓reduceIte]
  · refine ⟨0, I, I, ?_, ?_, N, G, e, f, tp, h⟩
    · simp (disch := omega) only [f11_forget, o_1_0 hO, o_1_1 hO, o_1_2 hO, o_1_3 hO, o_1_4 hO, o_1_5 hO, o_1_6 hO, o_1_7 hO, o_1_8 hO, o_1_9 hO, o_2_0 hO, o_2_1 hO, o_2_2 hO, o_2_3 hO, o_2_4 hO, o_2_5 hO, o_3_0 hO, o_3_1 hO, o_3_2 hO, o_6_0 hO, o_6_1 hO, o_6_2 hO, o_10_0 hO, o_331_0 hO, x_noHeardC hV hB h1, nm, qL, qb, qbl, qadd, qmul, qsubm, qdm, qsub, qdiv, qcl, qlt, qle, qeq, nltT, nltF, nleT, nleF, neqT, neqF, or_false, false_or, or_true, true_or, or_self, and_true, true_and, and_false, false_and, and_self, not_true_eq_false, not_false_eq_true, ↓reduceIte]
    · simp (disch := omega) only [f12_forget, f12_canForget, m_noChild hM hB h1, qL, qb, qbl, qadd, qmul, qsubm, qdm, qsub, qdiv, qcl, qlt, qle, qeq, nltT, nltF, nleT, nleF, neqT, neqF, or_false, false_or, or_true, true_or, or_self, and_true, true_and, and_false, false_and, and_self, not_true_eq_false, not_false_eq_true, ↓reduceIte]
theorem s_said (hT : TXst TX) (h : RE TX I O) (p1 p2 p3 : Int32) : ∃ (v : Int32) (I1 I2 : TI), f11_said I O 1 p1 p2 p3 = some (v, I1) ∧ f12_said I1 O 331 p1 p2 p3 = some (v, I2) ∧ RE TX I2 O := by
  obtain ⟨N, G, e, f, tp, h⟩ := h
  have hO := h.1
  have hV := RW_WV hO h.2.2.2.2.2.2.1
  have hN := h.2.2.2.1
  have hB := NB_WB hN
  have hM := h.2.1
  have hF := RW_fd h.2.2.2.2.2.2.1
  have b0 : N 0 ≤ 5 := hB.1
  have b1 : N 1 ≤ 4 := hB.2.1
  obtain ⟨-, -, f6, -⟩ := hF
  have b6 : N 6 ≤ 8 := hN.2.2.2.2.2.2.1
  have b4 : N 4 ≤ 30 := hN.2.2.2.2.1
  by_cases hm : p1 = -1
  · subst hm
    have r1 := R0_at hT h 6 2 7 0 (by decide) (by decide) (Or.inl (by omega)) (by omega) (by omega) (NB_up hN ⟨by omega, by omega, by omega, by omega, by omega, by omega, by omega⟩ ⟨by omega, by omega, by omega, by omega, by omega, by omega, by omega, by omega, by omega, by omega, by omega⟩)
    refine ⟨0, sI I 2 7 0, _, ?_, ?_, _, G, e, f, tp, r1⟩
    · unfold f11_said; rw [if_pos rfl, o_1_0 hO]; rfl
    · unfold f12_said; rw [if_pos rfl, o_331_0 hO]; rfl
  · have hm' : ¬ p1 = -nI 1 := hm
    by_cases h1 : inR p1 (N 1)
    · obtain ⟨c, hc, rfl⟩ := inR_of h1
      by_cases h2 : ((1 : Nat) : Int) ≤ p2.toInt ∧ p2.toInt ≤ ((5 : Nat) : Int)
      · obtain ⟨k, hk1, hk, rfl⟩ := inB h2
        have ew := x_heardBy hV hB hc hk1 (by omega)
        have bw := hB.2.2.2.2.2.2.1 c k (by omega) (by omega)
        have ne : ¬ nI (Hd N c k) = -nI 1 := fun q => by
          have q2 := congrArg Int32.toInt q
          rw [qtoI (by omega)] at q2
          have : (-nI 1).toInt = -1 := by decide
          omega
        by_cases h3 : ((0 : Nat) : Int) ≤ p3.toInt ∧ p3.toInt ≤ ((99 : Nat) : Int)
        · obtain ⟨l, -, hl, rfl⟩ := inB h3
          by_cases h8 : N 6 = 8
          · refine ⟨-2, I, I, ?_, ?_, N, G, e, f, tp, h⟩
            · simp (disch := omega) only [f11_said, hm', o_1_0 hO, o_1_1 hO, o_1_2 hO, o_1_3 hO, o_1_4 hO, o_1_5 hO, o_1_6 hO, o_1_7 hO, o_1_8 hO, o_1_9 hO, o_2_0 hO, o_2_1 hO, o_2_2 hO, o_2_3 hO, o_2_4 hO, o_2_5 hO, o_3_0 hO, o_3_1 hO, o_3_2 hO, o_6_0 hO, o_6_1 hO, o_6_2 hO, o_10_0 hO, o_331_0 hO, ew, ne, f6, qL, qb, qbl, qadd, qmul, qsubm, qdm, qsub, qdiv, qcl, qlt, qle, qeq, nltT, nltF, nleT, nleF, neqT, neqF, or_false, false_or, or_true, true_or, or_self, and_true, true_and, and_false, false_and, and_self, not_true_eq_false, not_false_eq_true, ↓reduceIte]
            · simp (disch := omega) only [f12_said, hm', m_isChild hM hB hc, m_inT hk1 hk, m_inT (Nat.zero_le l) hl, hM.1, hM.2, qL, qb, qbl, qadd, qmul, qsubm, qdm, qsub, qdiv, qcl, qlt, qle, qeq, nltT, nltF, nleT, nleF, neqT, neqF, or_false, false_or, or_true, true_or, or_self, and_true, true_and, and_false, false_and, and_self, not_true_eq_false, not_false_eq_true, ↓reduceIte]
          · have a1 : la 2 (207 + 3 * N 6) = 133 ∧ lk (207 + 3 * N 6) = N 6 := by
              constructor
              · simp (disch := omega) only [la, qL, qb, qbl, qadd, qmul, qsubm, qdm, qsub, qdiv, qcl, qlt, qle, qeq, nltT, nltF, nleT, nleF, neqT, neqF, or_false, false_or, or_true, true_or, or_self, and_true, true_and, and_false, false_and, and_self, not_true_eq_false, not_false_eq_true, ↓reduceIte] <;> omega
              · simp (disch := omega) only [lk, qL, qb, qbl, qadd, qmul, qsubm, qdm, qsub, qdiv, qcl, qlt, qle, qeq, nltT, nltF, nleT, nleF, neqT, neqF, or_false, false_or, or_true, true_or, or_self, and_true, true_and, and_false, false_and, and_self, not_true_eq_false, not_false_eq_true, ↓reduceIte] <;> omega
            have a2 : la 2 (207 + 3 * N 6 + 1) = 134 ∧ lk (207 + 3 * N 6 + 1) = N 6 := by
              constructor
              · simp (disch := omega) only [la, qL, qb, qbl, qadd, qmul, qsubm, qdm, qsub, qdiv, qcl, qlt, qle, qeq, nltT, nltF, nleT, nleF, neqT, neqF, or_false, false_or, or_true, true_or, or_self, and_true, true_and, and_false, false_and, and_self, not_true_eq_false, not_false_eq_true, ↓reduceIte] <;> omega
              · simp (disch := omega) only [lk, qL, qb, qbl, qadd, qmul, qsubm, qdm, qsub, qdiv, qcl, qlt, qle, qeq, nltT, nltF, nleT, nleF, neqT, neqF, or_false, false_or, or_true, true_or, or_self, and_true, true_and, and_false, false_and, and_self, not_true_eq_false, not_false_eq_true, ↓reduceIte] <;> omega
            have a3 : la 2 (207 + 3 * N 6 + 2) = 135 ∧ lk (207 + 3 * N 6 + 2) = N 6 := by
              constructor
              · simp (disch := omega) only [la, qL, qb, qbl, qadd, qmul, qsubm, qdm, qsub, qdiv, qcl, qlt, qle, qeq, nltT, nltF, nleT, nleF, neqT, neqF, or_false, false_or, or_true, true_or, or_self, and_true, true_and, and_false, false_and, and_self, not_true_eq_false, not_false_eq_true, ↓reduceIte] <;> omega
              · simp (disch := omega) only [lk, qL, qb, qbl, qadd, qmul, qsubm, qdm, qsub, qdiv, qcl, qlt, qle, qeq, nltT, nltF, nleT, nleF, neqT, neqF, or_false, false_or, or_true, true_or, or_self, and_true, true_and, and_false, false_and, and_self, not_true_eq_false, not_false_eq_true, ↓reduceIte] <;> omega
            have n1 : NB (upN N (207 + 3 * N 6) c) := NB_up hN ⟨by omega, by omega, by omega, by omega, by omega, by omega, by omega⟩ ⟨by omega, by omega, by omega, by omega, by omega, by omega, by omega, by omega, by omega, by omega, by omega⟩
            have q1 : upN N (207 + 3 * N 6) c 6 = N 6 := upN_o _ (by omega)
            have n2 : NB (upN (upN N (207 + 3 * N 6) c) (207 + 3 * N 6 + 1) k) := NB_up n1 ⟨by omega, by omega, by omega, by omega, by omega, by omega, by omega⟩ ⟨by omega, by omega, by omega, by omega, by omega, by omega, by omega, by omega, by omega, by omega, by omega⟩
            have q2 : upN (upN N (207 + 3 * N 6) c) (207 + 3 * N 6 + 1) k 6 = N 6 := by rw [upN_o _ (by omega), q1]
            have n3 : NB (upN (upN (upN N (207 + 3 * N 6) c) (207 + 3 * N 6 + 1) k) (207 + 3 * N 6 + 2) l) := NB_up n2 ⟨by omega, by omega, by omega, by omega, by omega, by omega, by omega⟩ ⟨by omega, by omega, by omega, by omega, by omega, by omega, by omega, by omega, by omega, by omega, by omega⟩
            have g1 : ∀ t, t ≠ 207 + 3 * N 6 → t ≠ 207 + 3 * N 6 + 1 → t ≠ 207 + 3 * N 6 + 2 → upN (upN (upN N (207 + 3 * N 6) c) (207 + 3 * N 6 + 1) k) (207 + 3 * N 6 + 2) l t = N t := fun t u1 u2 u3 => by rw [upN_o _ u3, upN_o _ u2, upN_o _ u1]
            have n4 : NB (upN (upN (upN (upN N (207 + 3 * N 6) c) (207 + 3 * N 6 + 1) k) (207 + 3 * N 6 + 2) l) 6 (N 6 + 1)) := NB_up n3 ⟨by omega, by omega, by omega, by omega, by omega, by omega, fun _ => Or.inr ⟨by omega, fun j hj => by
              rw [g1 1 (by omega) (by omega) (by omega)]
              by_cases qj : j = N 6
              · subst qj
                rw [show 208 + 3 * N 6 = 207 + 3 * N 6 + 1 by omega, show 209 + 3 * N 6 = 207 + 3 * N 6 + 2 by omega, upN_s, upN_o _ (j := 207 + 3 * N 6) (by omega), upN_o _ (j := 207 + 3 * N 6) (by omega), upN_s, upN_o _ (j := 207 + 3 * N 6 + 1) (by omega), upN_s]
                omega
              · rw [g1 _ (by omega) (by omega) (by omega), g1 _ (by omega) (by omega) (by omega), g1 _ (by omega) (by omega) (by omega)]
                exact hN.2.2.2.2.2.2.2.2.2.2.2.1 j (by omega)⟩⟩ ⟨by omega, by omega, by omega, by omega, by omega, by omega, by omega, by omega, by omega, by omega, by omega⟩
            have x1 := RW_up h.2.2.2.2.2.2.1 b4 (t := 207 + 3 * N 6) (v := c) (Or.inl (by omega)) (by omega) 133 (N 6) a1.1 a1.2
            have x2 := RW_up x1 n1.2.2.2.2.1 (t := 207 + 3 * N 6 + 1) (v := k) (Or.inl (by omega)) (by omega) 134 (N 6) a2.1 a2.2
            have x3 := RW_up x2 n2.2.2.2.2.1 (t := 207 + 3 * N 6 + 2) (v := l) (Or.inl (by omega)) (by omega) 135 (N 6) a3.1 a3.2
            have x4 := RW_up x3 n3.2.2.2.2.1 (t := 6) (v := N 6 + 1) (Or.inl (by omega)) (by omega) 2 7 (by decide) (by decide)
            have fX : ∀ a, a < 2 ∨ 136 ≤ a → sI (sI (sI (sI I 133 (N 6) (nI c)) 134 (N 6) (nI k)) 135 (N 6) (nI l)) 2 7 (nI (N 6 + 1)) a = I a := fun a ha => by rw [sI_o _ _ (by omega), sI_o _ _ (by omega), sI_o _ _ (by omega), sI_o _ _ (by omega)]
            have m4 := MV_up (t := 6) (v := N 6 + 1) (MV_up (t := 207 + 3 * N 6 + 2) (v := l) (MV_up (t := 207 + 3 * N 6 + 1) (v := k) (MV_up (t := 207 + 3 * N 6) (v := c) (MV_fr hM (fX 332 (by omega))))))
            refine ⟨nI (N 6 + 1), sI (sI (sI (sI I 133 (N 6) (nI c)) 134 (N 6) (nI k)) 135 (N 6) (nI l)) 2 7 (nI (N 6 + 1)), _, ?_, ?_, _, G, e, f, tp, R0_mut hT h (fun a q1 q2 => ?_) (RW_fr x4 (fun a q1 q2 => ?_)) m4 n4 ?_⟩
            · simp (disch := omega) only [f11_said, hm', o_1_0 hO, o_1_1 hO, o_1_2 hO, o_1_3 hO, o_1_4 hO, o_1_5 hO, o_1_6 hO, o_1_7 hO, o_1_8 hO, o_1_9 hO, o_2_0 hO, o_2_1 hO, o_2_2 hO, o_2_3 hO, o_2_4 hO, o_2_5 hO, o_3_0 hO, o_3_1 hO, o_3_2 hO, o_6_0 hO, o_6_1 hO, o_6_2 hO, o_10_0 hO, o_331_0 hO, ew, ne, f6, sI_s, sI_o, qL, qb, qbl, qadd, qmul, qsubm, qdm, qsub, qdiv, qcl, qlt, qle, qeq, nltT, nltF, nleT, nleF, neqT, neqF, or_false, false_or, or_true, true_or, or_self, and_true, true_and, and_false, false_and, and_self, not_true_eq_false, not_false_eq_true, ↓reduceIte]
            · have f332 := fX 332 (by omega)
              simp (disch := omega) only [f12_said, hm', m_isChild (MV_fr hM f332) hB hc, m_inT hk1 hk, m_inT (Nat.zero_le l) hl, hM.1, f332, hM.2, sI_s, sI_k, qL, qb, qbl, qadd, qmul, qsubm, qdm, qsub, qdiv, qcl, qlt, qle, qeq, nltT, nltF, nleT, nleF, neqT, neqF, or_false, false_or, or_true, true_or, or_self, and_true, true_and, and_false, false_and, and_self, not_true_eq_false, not_false_eq_true, ↓reduceIte]
            · rw [sI_o _ _ q2, sI_o _ _ q2, sI_o _ _ q2, sI_o _ _ q2]; exact fX a q1
            · rw [sI_o _ _ (by omega), sI_o _ _ (by omega), sI_o _ _ (by omega), sI_o _ _ (by omega)]
            · rw [upN_o _ (by omega)]; exact g1 2 (by omega) (by omega) (by omega)
        · refine ⟨-2, I, I, ?_, ?_, N, G, e, f, tp, h⟩
          · rcases outB (by omega) (by omega) h3 with q | ⟨q, q'⟩
            · simp (disch := omega) only [f11_said, hm', o_1_0 hO, o_1_1 hO, o_1_2 hO, o_1_3 hO, o_1_4 hO, o_1_5 hO, o_1_6 hO, o_1_7 hO, o_1_8 hO, o_1_9 hO, o_2_0 hO, o_2_1 hO, o_2_2 hO, o_2_3 hO, o_2_4 hO, o_2_5 hO, o_3_0 hO, o_3_1 hO, o_3_2 hO, o_6_0 hO, o_6_1 hO, o_6_2 hO, o_10_0 hO, o_331_0 hO, ew, ne, q, qL, qb, qbl, qadd, qmul, qsubm, qdm, qsub, qdiv, qcl, qlt, qle, qeq, nltT, nltF, nleT, nleF, neqT, neqF, or_false, false_or, or_true, true_or, or_self, and_true, true_and, and_false, false_and, and_self, not_true_eq_false, not_false_eq_true, ↓reduceIte]
            · simp (disch := omega) only [f11_said, hm', o_1_0 hO, o_1_1 hO, o_1_2 hO, o_1_3 hO, o_1_4 hO, o_1_5 hO, o_1_6 hO, o_1_7 hO, o_1_8 hO, o_1_9 hO, o_2_0 hO, o_2_1 hO, o_2_2 hO, o_2_3 hO, o_2_4 hO, o_2_5 hO, o_3_0 hO, o_3_1 hO, o_3_2 hO, o_6_0 hO, o_6_1 hO, o_6_2 hO, o_10_0 hO, o_331_0 hO, ew, ne, q, q', qL, qb, qbl, qadd, qmul, qsubm, qdm, qsub, qdiv, qcl, qlt, qle, qeq, nltT, nltF, nleT, nleF, neqT, neqF, or_false, false_or, or_true, true_or, or_self, and_true, true_and, and_false, false_and, and_self, not_true_eq_false, not_false_eq_true, ↓reduceIte]
          · simp (disch := omega) only [f12_said, hm', m_isChild hM hB hc, m_inT hk1 hk, m_inF h3, qL, qb, qbl, qadd, qmul, qsubm, qdm, qsub, qdiv, qcl, qlt, qle, qeq, nltT, nltF, nleT, nleF, neqT, neqF, or_false, false_or, or_true, true_or, or_self, and_true, true_and, and_false, false_and, and_self, not_true_eq_false, not_false_eq_true, ↓reduceIte]
      · refine ⟨-2, I, I, ?_, ?_, N, G, e, f, tp, h⟩
        · simp (disch := omega) only [f11_said, hm', o_1_0 hO, o_1_1 hO, o_1_2 hO, o_1_3 hO, o_1_4 hO, o_1_5 hO, o_1_6 hO, o_1_7 hO, o_1_8 hO, o_1_9 hO, o_2_0 hO, o_2_1 hO, o_2_2 hO, o_2_3 hO, o_2_4 hO, o_2_5 hO, o_3_0 hO, o_3_1 hO, o_3_2 hO, o_6_0 hO, o_6_1 hO, o_6_2 hO, o_10_0 hO, o_331_0 hO, x_noHeard hV hB hc h2, qL, qb, qbl, qadd, qmul, qsubm, qdm, qsub, qdiv, qcl, qlt, qle, qeq, nltT, nltF, nleT, nleF, neqT, neqF, or_false, false_or, or_true, true_or, or_self, and_true, true_and, and_false, false_and, and_self, not_true_eq_false, not_false_eq_true, ↓reduceIte]
        · simp (disch := omega) only [f12_said, hm', m_isChild hM hB hc, m_inF h2, qL, qb, qbl, qadd, qmul, qsubm, qdm, qsub, qdiv, qcl, qlt, qle, qeq, nltT, nltF, nleT, nleF, neqT, neqF, or_false, false_or, or_true, true_or, or_self, and_true, true_and, and_false, false_and, and_self, not_true_eq_false, not_false_eq_true, ↓reduceIte]
    · refine ⟨-2, I, I, ?_, ?_, N, G, e, f, tp, h⟩
      · simp (disch := omega) only [f11_said, hm', o_1_0 hO, o_1_1 hO, o_1_2 hO, o_1_3 hO, o_1_4 hO, o_1_5 hO, o_1_6 hO, o_1_7 hO, o_1_8 hO, o_1_9 hO, o_2_0 hO, o_2_1 hO, o_2_2 hO, o_2_3 hO, o_2_4 hO, o_2_5 hO, o_3_0 hO, o_3_1 hO, o_3_2 hO, o_6_0 hO, o_6_1 hO, o_6_2 hO, o_10_0 hO, o_331_0 hO, x_noHeardC hV hB h1, qL, qb, qbl, qadd, qmul, qsubm, qdm, qsub, qdiv, qcl, qlt, qle, qeq, nltT, nltF, nleT, nleF, neqT, neqF, or_false, false_or, or_true, true_or, or_self, and_true, true_and, and_false, false_and, and_self, not_true_eq_false, not_false_eq_true, ↓reduceIte]
      · simp (disch := omega) only [f12_said, hm', m_noChild hM hB h1, qL, qb, qbl, qadd, qmul, qsubm, qdm, qsub, qdiv, qcl, qlt, qle, qeq, nltT, nltF, nleT, nleF, neqT, neqF, or_false, false_or, or_true, true_or, or_self, and_true, true_and, and_false, false_and, and_self, not_true_eq_false, not_false_eq_true, ↓reduceIte]
end MU
