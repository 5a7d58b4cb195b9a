/-! best, whose, ledger -/
section BT
variable {n : Nat} {I J : TI} {L : TL} {O : TO} {N G : TN} {lw : Lws} {sx : Option Nat}
def bw (N : TN) (lw : Lws) (c : Nat) : Nat := pcF 6 (lkN N lw c)
theorem bw_le (N : TN) (lw : Lws) (c : Nat) : bw N lw c ≤ 6 := pcF_le 6 _
theorem x_best (hn : 100000 ≤ n) (hO : OF O) (hB : WB N) (hN : NB N) (hF : FD I N) (hL : LX0 I (rlX N) lw) (hV : WV I O 3 4 5 6 7 8 N) : ∃ I', f11_best n I O 1 = some ((fo (bsG (bw N lw)) (N 1) 0 (-nI 1, 0)).1, I') ∧ JN I I' := by
  have b2 := hB.2.1
  refine lpR (L := fun m k (s : TI × Int32 × Nat) => f11_best_c6 n O m s.1 1 s.2.1 (nI s.2.2) (nI k)) (fun k s => JN I s.1 ∧ s.2 = fo (bsG (bw N lw)) k 0 (-nI 1, 0) ∧ s.2.2 ≤ 6) (fun res => ∃ I', res = some ((fo (bsG (bw N lw)) (N 1) 0 (-nI 1, 0)).1, I') ∧ JN I I') (N 1) ?_ ?_ (N 1) 0 n (I, -nI 1, 0) (by omega) (by omega) ⟨JN_r I, rfl, Nat.zero_le _⟩
  · intro m k s hk ⟨k1, k2, k3⟩
    left
    have hV' : WV s.1 O 3 4 5 6 7 8 N := WV_fr hV (fun a ha => k1 a (by omega) (by omega) (by omega))
    have hF' : FD s.1 N := FD_fr hF (fun a ha => k1 a (by omega) (by omega) (by omega))
    have hL' : LX0 s.1 (rlX N) lw := LX_fr hL (fun a h1 h2 => k1 a (by omega) (by omega) (by omega))
    have v4 : s.1 3 4 = nI (N 1) := hV'.2.2.1
    obtain ⟨I2, q1, q2⟩ := x_learnt hn hO hB hL' hV' hk
    have bc := bc6 (lkN N lw k) lkN_lt
    have lb := bw_le N lw k
    have bc' : fJ6_bitCount_0f7a4 (nI (lkN N lw k)) = some (nI (bw N lw k)) := bc
    refine ⟨(I2, bsG (bw N lw) k s.2), ⟨JN_t k1 q2, by rw [fo_s, ← k2, Nat.zero_add], ?_⟩, ?_⟩
    · show (bsG (bw N lw) k s.2).2 ≤ 6
      unfold bsG; split
      · exact lb
      · exact k3
    · show f11_best_c6 n O (m + 1) s.1 1 s.2.1 (nI s.2.2) (nI k) = f11_best_c6 n O m I2 1 (bsG (bw N lw) k s.2).1 (nI (bsG (bw N lw) k s.2).2) (nI (k + 1))
      unfold bsG
      by_cases z : s.2.2 < bw N lw k
      · rw [if_pos z]
        simp (disch := omega) only [f11_best_c6, o_1_0 hO, o_1_1 hO, o_1_2 hO, o_1_3 hO, o_1_4 hO, o_1_5 hO, o_1_6 hO, o_1_7 hO, o_1_8 hO, o_1_9 hO, o_2_0 hO, o_2_1 hO, o_2_2 hO, o_2_3 hO, o_2_4 hO, o_2_5 hO, o_3_0 hO, o_3_1 hO, o_3_2 hO, o_6_0 hO, o_6_1 hO, o_6_2 hO, o_10_0 hO, o_331_0 hO, v4, x_ruling hO hF' hN, q1, bc', qL, qb, qbl, qadd, qmul, qsubm, qdm, qsub, qdiv, qcl, qlt, qle, qeq, nltT, nltF, nleT, nleF, neqT, neqF, or_false, false_or, or_true, true_or, or_self, and_true, true_and, and_false, false_and, and_self, not_true_eq_false, not_false_eq_true, ↓reduceIte]
      · rw [if_neg z]
        simp (disch := omega) only [f11_best_c6, o_1_0 hO, o_1_1 hO, o_1_2 hO, o_1_3 hO, o_1_4 hO, o_1_5 hO, o_1_6 hO, o_1_7 hO, o_1_8 hO, o_1_9 hO, o_2_0 hO, o_2_1 hO, o_2_2 hO, o_2_3 hO, o_2_4 hO, o_2_5 hO, o_3_0 hO, o_3_1 hO, o_3_2 hO, o_6_0 hO, o_6_1 hO, o_6_2 hO, o_10_0 hO, o_331_0 hO, v4, x_ruling hO hF' hN, q1, bc', qL, qb, qbl, qadd, qmul, qsubm, qdm, qsub, qdiv, qcl, qlt, qle, qeq, nltT, nltF, nleT, nleF, neqT, neqF, or_false, false_or, or_true, true_or, or_self, and_true, true_and, and_false, false_and, and_self, not_true_eq_false, not_false_eq_true, ↓reduceIte]
  · intro m s ⟨k1, k2, k3⟩
    have v4 : s.1 3 4 = nI (N 1) := by rw [k1 3 (by omega) (by omega) (by omega)]; exact hV.2.2.1
    refine ⟨s.1, ?_, k1⟩
    rw [← k2]
    simp (disch := omega) only [f11_best_c6, o_1_0 hO, o_1_1 hO, o_1_2 hO, o_1_3 hO, o_1_4 hO, o_1_5 hO, o_1_6 hO, o_1_7 hO, o_1_8 hO, o_1_9 hO, o_2_0 hO, o_2_1 hO, o_2_2 hO, o_2_3 hO, o_2_4 hO, o_2_5 hO, o_3_0 hO, o_3_1 hO, o_3_2 hO, o_6_0 hO, o_6_1 hO, o_6_2 hO, o_10_0 hO, o_331_0 hO, v4, qL, qb, qbl, qadd, qmul, qsubm, qdm, qsub, qdiv, qcl, qlt, qle, qeq, nltT, nltF, nleT, nleF, neqT, neqF, or_false, false_or, or_true, true_or, or_self, and_true, true_and, and_false, false_and, and_self, not_true_eq_false, not_false_eq_true, ↓reduceIte]
theorem m_best (hn : 100000 ≤ n) (hO : OF O) (hB : WB N) (hM : MV J O N) (hL : LM0 J (N 3) lw) : ∃ J' L', f12_best n J L O 331 = some ((fo (bsG (bw N lw)) (N 1) 0 (-nI 1, 0)).1, J', L') ∧ KN J J' := by
  have b2 := hB.2.1
  have bt : ∀ k, f12_bits n (nI (lkN N lw k)) = some (nI (bw N lw k)) := by
    intro k
    have l := lkN_lt (N := N) (lw := lw) (c := k)
    have t := m_bits6 (n := n) (lkN N lw k) l n 0 (by omega)
    rw [Nat.zero_add] at t
    exact t
  refine lpR (L := fun m k (s : TI × TL × Int32 × Nat) => f12_best_c4 n O m s.1 s.2.1 331 s.2.2.1 (nI k)) (fun k s => KN J s.1 ∧ s.2.2 = fo (bsG (bw N lw)) k 0 (-nI 1, 0) ∧ bsI (bw N lw) k s.2.2) (fun res => ∃ J' L', res = some ((fo (bsG (bw N lw)) (N 1) 0 (-nI 1, 0)).1, J', L') ∧ KN J J') (N 1) ?_ ?_ (N 1) 0 n (J, L, -nI 1, 0) (by omega) (by omega) ⟨fun _ _ _ => rfl, rfl, Or.inl ⟨rfl, rfl⟩⟩
  · intro m k s hk ⟨k1, k2, k3⟩
    left
    have hM' : MV s.1 O N := MV_fr hM (k1 332 (by omega) (by omega))
    have hL' : LM0 s.1 (N 3) lw := LM_fr hL (k1 334 (by omega) (by omega))
    have v1 := hM'.2 1 (by omega)
    obtain ⟨J2, L2, q1, q2⟩ := m_learnt (L := s.2.1) hn hO hB hM' hL' (c := k) (by omega)
    have lb := bw_le N lw k
    have b1 := bt k
    have k3' := bsI_s k3
    have hs : fo (bsG (bw N lw)) (k + 1) 0 (-nI 1, 0) = bsG (bw N lw) k s.2.2 := by rw [fo_s, ← k2, Nat.zero_add]
    rcases k3 with ⟨g1, g2⟩ | ⟨j, hj, g1, g2⟩
    · refine ⟨(J2, L2, bsG (bw N lw) k s.2.2), ⟨KN_t k1 q2, hs.symm, k3'⟩, ?_⟩
      show f12_best_c4 n O (m + 1) s.1 s.2.1 331 s.2.2.1 (nI k) = f12_best_c4 n O m J2 L2 331 (bsG (bw N lw) k s.2.2).1 (nI (k + 1))
      unfold bsG
      by_cases z : s.2.2.2 < bw N lw k
      · rw [if_pos z]
        simp (disch := omega) only [f12_best_c4, hM.1, v1, q1, b1, g1, qL, qb, qbl, qadd, qmul, qsubm, qdm, qsub, qdiv, qcl, qlt, qle, qeq, nltT, nltF, nleT, nleF, neqT, neqF, or_false, false_or, or_true, true_or, or_self, and_true, true_and, and_false, false_and, and_self, not_true_eq_false, not_false_eq_true, ↓reduceIte]
      · rw [if_neg z]
        simp (disch := omega) only [f12_best_c4, hM.1, v1, q1, b1, g1, qL, qb, qbl, qadd, qmul, qsubm, qdm, qsub, qdiv, qcl, qlt, qle, qeq, nltT, nltF, nleT, nleF, neqT, neqF, or_false, false_or, or_true, true_or, or_self, and_true, true_and, and_false, false_and, and_self, not_true_eq_false, not_false_eq_true, ↓reduceIte]
    · have hM2 : MV J2 O N := MV_fr hM' (q2 332 (by omega) (by omega))
      have hL2 : LM0 J2 (N 3) lw := LM_fr hL' (q2 334 (by omega) (by omega))
      obtain ⟨J3, L3, q3, q4⟩ := m_learnt (L := L2) hn hO hB hM2 hL2 (c := j) (by omega)
      have lb2 := bw_le N lw j
      have b2' := bt j
      have ne := neg_ne (j := j) (by omega)
      refine ⟨(J3, L3, bsG (bw N lw) k s.2.2), ⟨KN_t k1 (KN_t q2 q4), hs.symm, k3'⟩, ?_⟩
      show f12_best_c4 n O (m + 1) s.1 s.2.1 331 s.2.2.1 (nI k) = f12_best_c4 n O m J3 L3 331 (bsG (bw N lw) k s.2.2).1 (nI (k + 1))
      unfold bsG
      by_cases z : s.2.2.2 < bw N lw k
      · rw [if_pos z]
        simp (disch := omega) only [f12_best_c4, hM.1, v1, q1, b1, g1, ne, q3, b2', qL, qb, qbl, qadd, qmul, qsubm, qdm, qsub, qdiv, qcl, qlt, qle, qeq, nltT, nltF, nleT, nleF, neqT, neqF, or_false, false_or, or_true, true_or, or_self, and_true, true_and, and_false, false_and, and_self, not_true_eq_false, not_false_eq_true, ↓reduceIte]
      · rw [if_neg z]
        simp (disch := omega) only [f12_best_c4, hM.1, v1, q1, b1, g1, ne, q3, b2', qL, qb, qbl, qadd, qmul, qsubm, qdm, qsub, qdiv, qcl, qlt, qle, qeq, nltT, nltF, nleT, nleF, neqT, neqF, or_false, false_or, or_true, true_or, or_self, and_true, true_and, and_false, false_and, and_self, not_true_eq_false, not_false_eq_true, ↓reduceIte]
  · intro m s ⟨k1, k2, k3⟩
    have v1 : s.1 332 1 = nI (N 1) := by rw [k1 332 (by omega) (by omega)]; exact hM.2 1 (by omega)
    refine ⟨s.1, s.2.1, ?_, k1⟩
    rw [← k2]
    simp (disch := omega) only [f12_best_c4, hM.1, v1, qL, qb, qbl, qadd, qmul, qsubm, qdm, qsub, qdiv, qcl, qlt, qle, qeq, nltT, nltF, nleT, nleF, neqT, neqF, or_false, false_or, or_true, true_or, or_self, and_true, true_and, and_false, false_and, and_self, not_true_eq_false, not_false_eq_true, ↓reduceIte]
theorem s_best (hn : 100000 ≤ n) (h : RE tX I O) (L : TL) : ∃ (v : Int32) (I1 I2 : TI) (L2 : TL), f11_best n I O 1 = some (v, I1) ∧ f12_best n I1 L O 331 = some (v, I2, L2) ∧ RE tX I2 O := by
  obtain ⟨N, G, e, f, tp, h⟩ := h
  have hO := h.1
  have hV := RW_WV hO h.2.2.2.2.2.2.1
  have hN := h.2.2.2.1
  have hB := NB_WB hN
  have hM := h.2.1
  have hF := RW_fd h.2.2.2.2.2.2.1
  have b0 : N 0 ≤ 5 := hB.1
  have b1 : N 1 ≤ 4 := hB.2.1
  obtain ⟨lw, l1, l2⟩ := R_lw h
  obtain ⟨I1, e1, x1⟩ := x_best hn hO hB hN hF l1 hV
  have r1 := R0_x tXst h (JN_XF x1)
  obtain ⟨I2, L2, e2, x2⟩ := m_best (L := L) hn hO hB (r1.2.1 : MV I1 O N) (LM_fr l2 (x1 334 (by omega) (by omega) (by omega)))
  exact ⟨_, I1, I2, L2, e1, e2, N, G, e, f, tp, R0_m tXst r1 (KN_MF x2)⟩
/-! whose law -/
def waP (N : TN) (lw : Lws) (i : Nat) : Bool := leN N lw (N (207 + 3 * i)) (N (208 + 3 * i)) (Hd N (N (207 + 3 * i)) (N (208 + 3 * i))) != N (209 + 3 * i)
def waB (N : TN) (lw : Lws) : Bool := fnd (waP N lw) (N 6) 0 == N 6
theorem x_agrees (hn : 100000 ≤ n) (hO : OF O) (hN : NB N) (hF : FD I N) {sc : Nat} (hL : LX0 I (some sc) lw) (hV : WV I O 3 4 5 6 7 8 N) : ∃ I', f11_agrees n I O 1 sc = some (if waB N lw then 1 else 0, I') ∧ JN I I' := by
  have hB := NB_WB hN
  have b2 := hB.2.1
  have b6 : N 6 ≤ 8 := hN.2.2.2.2.2.2.1
  have key : ∃ I', f11_agrees n I O 1 sc = some (if fnd (waP N lw) (N 6) 0 = N 6 then nI 1 else nI 0, I') ∧ JN I I' := by
    refine lpR (L := fun m k (s : TI) => f11_agrees_c2 n O m s 1 sc (nI k)) (fun k s => JN I s ∧ k ≤ fnd (waP N lw) (N 6) 0) (fun res => ∃ I', res = some (if fnd (waP N lw) (N 6) 0 = N 6 then nI 1 else nI 0, I') ∧ JN I I') (N 6) ?_ ?_ (N 6) 0 n I (by omega) (by omega) ⟨JN_r I, Nat.zero_le _⟩
    · intro m k s hk ⟨k1, k2⟩
      have hV' : WV s O 3 4 5 6 7 8 N := WV_fr hV (fun a ha => k1 a (by omega) (by omega) (by omega))
      have hF' : FD s N := FD_fr hF (fun a ha => k1 a (by omega) (by omega) (by omega))
      have hL' : LX0 s (some sc) lw := LX_fr hL (fun a h1 h2 => k1 a (by omega) (by omega) (by omega))
      obtain ⟨f9, f5, f6, f2, f3, f4, fb, fp, fc, fk, fl⟩ := hF'
      obtain ⟨c1, c2, c3, c4⟩ := hN.2.2.2.2.2.2.2.2.2.2.2.1 k hk
      have g1 := fc k (by omega)
      have g2 := fk k (by omega)
      have et := x_timesHeard hV' hB c1 (k := N (208 + 3 * k)) (by omega)
      have hb := hB.2.2.2.2.2.2.1 (N (207 + 3 * k)) (N (208 + 3 * k)) (by omega) (by omega)
      obtain ⟨I2, q1, q2⟩ := x_learns hn hO hB hL' hV' w3 (c := N (207 + 3 * k)) (k := N (208 + 3 * k)) (h := Hd N (N (207 + 3 * k)) (N (208 + 3 * k))) (by omega) (by omega) hb
      have lb := leN_le N lw (N (207 + 3 * k)) (N (208 + 3 * k)) (Hd N (N (207 + 3 * k)) (N (208 + 3 * k)))
      have g3 : I2 135 k = nI (N (209 + 3 * k)) := by rw [q2 135 (by omega) (by omega) (by omega)]; exact fl k (by omega)
      by_cases z : leN N lw (N (207 + 3 * k)) (N (208 + 3 * k)) (Hd N (N (207 + 3 * k)) (N (208 + 3 * k))) = N (209 + 3 * k)
      · left
        refine ⟨I2, ⟨JN_t k1 q2, ?_⟩, ?_⟩
        · by_cases q : fnd (waP N lw) (N 6) 0 = k
          · have hP := fnd_P (waP N lw) (N 6) 0 (by omega)
            rw [q] at hP
            have : waP N lw k = false := by unfold waP; rw [z]; exact bne_self_eq_false _
            rw [this] at hP; exact Bool.noConfusion hP
          · omega
        · simp (disch := omega) only [f11_agrees_c2, o_1_0 hO, o_1_1 hO, o_1_2 hO, o_1_3 hO, o_1_4 hO, o_1_5 hO, o_1_6 hO, o_1_7 hO, o_1_8 hO, o_1_9 hO, o_2_0 hO, o_2_1 hO, o_2_2 hO, o_2_3 hO, o_2_4 hO, o_2_5 hO, o_3_0 hO, o_3_1 hO, o_3_2 hO, o_6_0 hO, o_6_1 hO, o_6_2 hO, o_10_0 hO, o_331_0 hO, f6, g1, g2, et, q1, g3, z, qL, qb, qbl, qadd, qmul, qsubm, qdm, qsub, qdiv, qcl, qlt, qle, qeq, nltT, nltF, nleT, nleF, neqT, neqF, or_false, false_or, or_true, true_or, or_self, and_true, true_and, and_false, false_and, and_self, not_true_eq_false, not_false_eq_true, ↓reduceIte]
      · right
        have hP : waP N lw k = true := bne_iff_ne.mpr z
        have hl := fnd_lt (waP N lw) (N 6) 0 k (Nat.zero_le _) (by omega) hP
        refine ⟨I2, ?_, JN_t k1 q2⟩
        rw [if_neg (by omega)]
        simp (disch := omega) only [f11_agrees_c2, o_1_0 hO, o_1_1 hO, o_1_2 hO, o_1_3 hO, o_1_4 hO, o_1_5 hO, o_1_6 hO, o_1_7 hO, o_1_8 hO, o_1_9 hO, o_2_0 hO, o_2_1 hO, o_2_2 hO, o_2_3 hO, o_2_4 hO, o_2_5 hO, o_3_0 hO, o_3_1 hO, o_3_2 hO, o_6_0 hO, o_6_1 hO, o_6_2 hO, o_10_0 hO, o_331_0 hO, f6, g1, g2, et, q1, g3, qL, qb, qbl, qadd, qmul, qsubm, qdm, qsub, qdiv, qcl, qlt, qle, qeq, nltT, nltF, nleT, nleF, neqT, neqF, or_false, false_or, or_true, true_or, or_self, and_true, true_and, and_false, false_and, and_self, not_true_eq_false, not_false_eq_true, ↓reduceIte]
    · intro m s ⟨k1, k2⟩
      have f6 : s 2 7 = nI (N 6) := by rw [k1 2 (by omega) (by omega) (by omega)]; exact hF.2.2.1
      have l := fnd_le (waP N lw) (N 6) 0
      refine ⟨s, ?_, k1⟩
      rw [if_pos (by omega)]
      simp (disch := omega) only [f11_agrees_c2, o_1_0 hO, o_1_1 hO, o_1_2 hO, o_1_3 hO, o_1_4 hO, o_1_5 hO, o_1_6 hO, o_1_7 hO, o_1_8 hO, o_1_9 hO, o_2_0 hO, o_2_1 hO, o_2_2 hO, o_2_3 hO, o_2_4 hO, o_2_5 hO, o_3_0 hO, o_3_1 hO, o_3_2 hO, o_6_0 hO, o_6_1 hO, o_6_2 hO, o_10_0 hO, o_331_0 hO, f6, qL, qb, qbl, qadd, qmul, qsubm, qdm, qsub, qdiv, qcl, qlt, qle, qeq, nltT, nltF, nleT, nleF, neqT, neqF, or_false, false_or, or_true, true_or, or_self, and_true, true_and, and_false, false_and, and_self, not_true_eq_false, not_false_eq_true, ↓reduceIte]
  obtain ⟨I', q1, q2⟩ := key
  refine ⟨I', ?_, q2⟩
  rw [q1]
  unfold waB
  by_cases z : fnd (waP N lw) (N 6) 0 = N 6
  · rw [if_pos z, beq_iff_eq.mpr z]; rfl
  · rw [if_neg z, beq_false_of_ne z]; rfl
def whG (N : TN) (lf : Nat → Lws) (t : Nat) (b : Int32) : Int32 := if waB N (lf t) then b ||| (nI 1 <<< (nI t &&& nI 31)) else b
theorem x_whose (hn : 100000 ≤ n) (hO : OF O) (hN : NB N) (hF : FD I N) {lf : Nat → Lws} (hL : ∀ t, t < N 2 → LX0 I (some (300 + 6 * t)) (lf t)) (hV : WV I O 3 4 5 6 7 8 N) : ∃ I', f11_whose n I O 1 = some (fo (whG N lf) (N 2) 0 (nI 0), I') ∧ JN I I' := by
  have hB := NB_WB hN
  have b2 : N 2 ≤ 4 := hN.2.2.1
  refine lpR (L := fun m k (s : TI × Int32) => f11_whose_c4 n O m s.1 1 s.2 (nI k)) (fun k s => JN I s.1 ∧ s.2 = fo (whG N lf) k 0 (nI 0)) (fun res => ∃ I', res = some (fo (whG N lf) (N 2) 0 (nI 0), I') ∧ JN I I') (N 2) ?_ ?_ (N 2) 0 n (I, nI 0) (by omega) (by omega) ⟨JN_r I, rfl⟩
  · intro m k s hk ⟨k1, k2⟩
    left
    have hV' : WV s.1 O 3 4 5 6 7 8 N := WV_fr hV (fun a ha => k1 a (by omega) (by omega) (by omega))
    have hF' : FD s.1 N := FD_fr hF (fun a ha => k1 a (by omega) (by omega) (by omega))
    have hL' : LX0 s.1 (some (300 + 6 * k)) (lf k) := LX_fr (hL k hk) (fun a h1 h2 => k1 a (by omega) (by omega) (by omega))
    have f2 := hF'.2.2.2.1
    obtain ⟨I2, q1, q2⟩ := x_agrees hn hO hN hF' hL' hV'
    refine ⟨(I2, whG N lf k s.2), ⟨JN_t k1 q2, by rw [fo_s, ← k2, Nat.zero_add]⟩, ?_⟩
    show f11_whose_c4 n O (m + 1) s.1 1 s.2 (nI k) = f11_whose_c4 n O m I2 1 (whG N lf k s.2) (nI (k + 1))
    have hlt : ¬ nI (N 2) ≤ nI k := fun q => by rw [nI_leI (by omega) (by omega)] at q; omega
    unfold whG
    rw [f11_whose_c4, o_1_0 hO, f2, if_neg hlt, x_textOf hO hF' hN hk, qb]
    dsimp only
    rw [q1, qb]
    cases z : waB N (lf k)
    · rw [if_pos (by rfl), nI_1]; rfl
    · have hz : ¬ ((if true = true then (1 : Int32) else 0, I2).fst = 0) := by
        show ¬ ((1 : Int32) = 0)
        decide
      rw [if_neg hz, qbl, nI_1]; rfl
  · intro m s ⟨k1, k2⟩
    have f2 : s.1 2 8 = nI (N 2) := by rw [k1 2 (by omega) (by omega) (by omega)]; exact hF.2.2.2.1
    refine ⟨s.1, ?_, k1⟩
    rw [← k2]
    simp (disch := omega) only [f11_whose_c4, o_1_0 hO, o_1_1 hO, o_1_2 hO, o_1_3 hO, o_1_4 hO, o_1_5 hO, o_1_6 hO, o_1_7 hO, o_1_8 hO, o_1_9 hO, o_2_0 hO, o_2_1 hO, o_2_2 hO, o_2_3 hO, o_2_4 hO, o_2_5 hO, o_3_0 hO, o_3_1 hO, o_3_2 hO, o_6_0 hO, o_6_1 hO, o_6_2 hO, o_10_0 hO, o_331_0 hO, f2, qL, qb, qbl, qadd, qmul, qsubm, qdm, qsub, qdiv, qcl, qlt, qle, qeq, nltT, nltF, nleT, nleF, neqT, neqF, or_false, false_or, or_true, true_or, or_self, and_true, true_and, and_false, false_and, and_self, not_true_eq_false, not_false_eq_true, ↓reduceIte]
theorem m_whose (hn : 100000 ≤ n) (hO : OF O) (hN : NB N) (hM : MV J O N) {lf : Nat → Lws} (hL : ∀ t, t < N 2 → LM0 J t (lf t)) : ∃ J' L', f12_whose n J L O 331 = some (fo (whG N lf) (N 2) 0 (nI 0), J', L') ∧ KN J J' := by
  have hB := NB_WB hN
  have b1' := hB.2.1
  have b2 : N 2 ≤ 4 := hN.2.2.1
  have b6 : N 6 ≤ 8 := hN.2.2.2.2.2.2.1
  refine lpR (L := fun m k (s : TI × TL × Int32) => f12_whose_c4 n O m s.1 s.2.1 331 s.2.2 (nI k)) (fun k s => KN J s.1 ∧ s.2.2 = fo (whG N lf) k 0 (nI 0)) (fun res => ∃ J' L', res = some (fo (whG N lf) (N 2) 0 (nI 0), J', L') ∧ KN J J') (N 2) ?_ ?_ (N 2) 0 n (J, L, nI 0) (by omega) (by omega) ⟨fun _ _ _ => rfl, rfl⟩
  · intro m t s ht ⟨k1, k2⟩
    left
    have v2 : s.1 332 2 = nI (N 2) := by rw [k1 332 (by omega) (by omega)]; exact hM.2 2 (by omega)
    have st : f12_whose_c4 n O (m + 1) s.1 s.2.1 331 s.2.2 (nI t) = f12_whose_c21 n O (f12_whose_c4 n O m) n s.1 s.2.1 331 s.2.2 (nI t) (nI 1) (nI (207 + 3 * 0)) := by
      simp (disch := omega) only [f12_whose_c4, hM.1, v2, qL, qb, qbl, qadd, qmul, qsubm, qdm, qsub, qdiv, qcl, qlt, qle, qeq, nltT, nltF, nleT, nleF, neqT, neqF, or_false, false_or, or_true, true_or, or_self, and_true, true_and, and_false, false_and, and_self, not_true_eq_false, not_false_eq_true, ↓reduceIte]
    show ∃ s', _ ∧ f12_whose_c4 n O (m + 1) s.1 s.2.1 331 s.2.2 (nI t) = _
    rw [st]
    refine lpR (L := fun m' i (u : TI × TL × Int32) => f12_whose_c21 n O (f12_whose_c4 n O m) m' u.1 u.2.1 331 s.2.2 (nI t) u.2.2 (nI (207 + 3 * i))) (fun i u => KN J u.1 ∧ u.2.2 = if fnd (waP N (lf t)) i 0 = i then nI 1 else nI 0) (fun res => ∃ s' : TI × TL × Int32, (KN J s'.1 ∧ s'.2.2 = fo (whG N lf) (t + 1) 0 (nI 0)) ∧ res = f12_whose_c4 n O m s'.1 s'.2.1 331 s'.2.2 (nI (t + 1))) (N 6) ?_ ?_ (N 6) 0 n (s.1, s.2.1, nI 1) (by omega) (by omega) ⟨k1, rfl⟩
    · intro m' i u hi ⟨j1, j2⟩
      left
      have hM' : MV u.1 O N := MV_fr hM (j1 332 (by omega) (by omega))
      have hL' : LM0 u.1 t (lf t) := LM_fr (hL t ht) (j1 334 (by omega) (by omega))
      have v6 := hM'.2 6 (by omega)
      have y3 : 207 + 3 * i + 3 = 207 + 3 * (i + 1) := by omega
      have l := fnd_le (waP N (lf t)) i 0
      rw [fnd_s, Nat.zero_add]
      by_cases z1 : fnd (waP N (lf t)) i 0 = i
      · rw [if_pos z1] at j2 ⊢
        obtain ⟨c1, c2, c3, c4⟩ := hN.2.2.2.2.2.2.2.2.2.2.2.1 i hi
        have g1 := hM'.2 (207 + 3 * i) (by omega)
        have g2 : u.1 332 (207 + 3 * i + 1) = nI (N (208 + 3 * i)) := by rw [show 207 + 3 * i + 1 = 208 + 3 * i by omega]; exact hM'.2 _ (by omega)
        obtain ⟨J2, L2, q1, q2⟩ := m_learnsOf (L := u.2.1) hn hO hB hM' hL' (c := N (207 + 3 * i)) (k := N (208 + 3 * i)) (by omega) (by omega)
        have g3 : J2 332 (207 + 3 * i + 2) = nI (N (209 + 3 * i)) := by rw [q2 332 (by omega) (by omega), show 207 + 3 * i + 2 = 209 + 3 * i by omega]; exact hM'.2 _ (by omega)
        have lb := leN_le N (lf t) (N (207 + 3 * i)) (N (208 + 3 * i)) (Hd N (N (207 + 3 * i)) (N (208 + 3 * i)))
        by_cases z : leN N (lf t) (N (207 + 3 * i)) (N (208 + 3 * i)) (Hd N (N (207 + 3 * i)) (N (208 + 3 * i))) = N (209 + 3 * i)
        · have hP : waP N (lf t) i = false := by unfold waP; rw [z]; exact bne_self_eq_false _
          rw [hP, if_neg Bool.false_ne_true, if_pos rfl]
          refine ⟨(J2, L2, nI 1), ⟨KN_t j1 q2, rfl⟩, ?_⟩
          simp (disch := omega) only [f12_whose_c21, hM.1, v6, j2, g1, g2, q1, g3, z, y3, qL, qb, qbl, qadd, qmul, qsubm, qdm, qsub, qdiv, qcl, qlt, qle, qeq, nltT, nltF, nleT, nleF, neqT, neqF, or_false, false_or, or_true, true_or, or_self, and_true, true_and, and_false, false_and, and_self, not_true_eq_false, not_false_eq_true, ↓reduceIte]
        · have hP : waP N (lf t) i = true := bne_iff_ne.mpr z
          rw [hP, if_pos rfl, if_neg (by omega)]
          refine ⟨(J2, L2, nI 0), ⟨KN_t j1 q2, rfl⟩, ?_⟩
          simp (disch := omega) only [f12_whose_c21, hM.1, v6, j2, g1, g2, q1, g3, y3, qL, qb, qbl, qadd, qmul, qsubm, qdm, qsub, qdiv, qcl, qlt, qle, qeq, nltT, nltF, nleT, nleF, neqT, neqF, or_false, false_or, or_true, true_or, or_self, and_true, true_and, and_false, false_and, and_self, not_true_eq_false, not_false_eq_true, ↓reduceIte]
      · rw [if_neg z1] at j2 ⊢
        rw [if_neg (by omega)]
        refine ⟨(u.1, u.2.1, nI 0), ⟨j1, rfl⟩, ?_⟩
        simp (disch := omega) only [f12_whose_c21, hM.1, v6, j2, y3, qL, qb, qbl, qadd, qmul, qsubm, qdm, qsub, qdiv, qcl, qlt, qle, qeq, nltT, nltF, nleT, nleF, neqT, neqF, or_false, false_or, or_true, true_or, or_self, and_true, true_and, and_false, false_and, and_self, not_true_eq_false, not_false_eq_true, ↓reduceIte]
    · intro m' u ⟨j1, j2⟩
      have v6 : u.1 332 6 = nI (N 6) := by rw [j1 332 (by omega) (by omega)]; exact hM.2 6 (by omega)
      have oz : s.2.2 ||| nI 0 = s.2.2 := Int32.or_zero
      refine ⟨(u.1, u.2.1, whG N lf t s.2.2), ⟨j1, by rw [fo_s, ← k2, Nat.zero_add]⟩, ?_⟩
      unfold whG waB
      by_cases z1 : fnd (waP N (lf t)) (N 6) 0 = N 6
      · rw [if_pos z1] at j2
        rw [beq_iff_eq.mpr z1]
        simp (disch := omega) only [f12_whose_c21, hM.1, v6, j2, qL, qb, qbl, qadd, qmul, qsubm, qdm, qsub, qdiv, qcl, qlt, qle, qeq, nltT, nltF, nleT, nleF, neqT, neqF, or_false, false_or, or_true, true_or, or_self, and_true, true_and, and_false, false_and, and_self, not_true_eq_false, not_false_eq_true, ↓reduceIte]
      · rw [if_neg z1] at j2
        rw [beq_false_of_ne z1]
        simp (disch := omega) only [f12_whose_c21, hM.1, v6, j2, oz, Bool.false_eq_true, qL, qb, qbl, qadd, qmul, qsubm, qdm, qsub, qdiv, qcl, qlt, qle, qeq, nltT, nltF, nleT, nleF, neqT, neqF, or_false, false_or, or_true, true_or, or_self, and_true, true_and, and_false, false_and, and_self, not_true_eq_false, not_false_eq_true, ↓reduceIte]
  · intro m s ⟨k1, k2⟩
    have v2 : s.1 332 2 = nI (N 2) := by rw [k1 332 (by omega) (by omega)]; exact hM.2 2 (by omega)
    refine ⟨s.1, s.2.1, ?_, k1⟩
    rw [← k2]
    simp (disch := omega) only [f12_whose_c4, hM.1, v2, qL, qb, qbl, qadd, qmul, qsubm, qdm, qsub, qdiv, qcl, qlt, qle, qeq, nltT, nltF, nleT, nleF, neqT, neqF, or_false, false_or, or_true, true_or, or_self, and_true, true_and, and_false, false_and, and_self, not_true_eq_false, not_false_eq_true, ↓reduceIte]
theorem s_whose (hn : 100000 ≤ n) (h : RE tX I O) (L : TL) : ∃ (v : Int32) (I1 I2 : TI) (L2 : TL), f11_whose n I O 1 = some (v, I1) ∧ f12_whose n I1 L O 331 = some (v, I2, L2) ∧ RE tX I2 O := by
  obtain ⟨N, G, e, f, tp, h⟩ := h
  have hO := h.1
  have hV := RW_WV hO h.2.2.2.2.2.2.1
  have hN := h.2.2.2.1
  have hB := NB_WB hN
  have hM := h.2.1
  have hF := RW_fd h.2.2.2.2.2.2.1
  have b0 : N 0 ≤ 5 := hB.1
  have b1 : N 1 ≤ 4 := hB.2.1
  obtain ⟨lf, hl⟩ : ∃ lf : Nat → Lws, ∀ t, t < N 2 → LX0 I (some (300 + 6 * t)) (lf t) ∧ LM0 I t (lf t) := by
    have hx : ∀ t, ∃ lw : Lws, t < N 2 → LX0 I (some (300 + 6 * t)) lw ∧ LM0 I t lw := by
      intro t
      by_cases q : t < N 2
      · obtain ⟨lw, l1, l2⟩ := R_lt h q
        exact ⟨lw, fun _ => ⟨l1, l2⟩⟩
      · exact ⟨fun _ => none, fun w => absurd w q⟩
    exact ⟨fun t => Classical.choose (hx t), fun t => Classical.choose_spec (hx t)⟩
  obtain ⟨I1, e1, x1⟩ := x_whose hn hO hN hF (fun t ht => (hl t ht).1) hV
  have r1 := R0_x tXst h (JN_XF x1)
  obtain ⟨I2, L2, e2, x2⟩ := m_whose (L := L) hn hO hN (r1.2.1 : MV I1 O N) (fun t ht => LM_fr (hl t ht).2 (x1 334 (by omega) (by omega) (by omega)))
  exact ⟨_, I1, I2, L2, e1, e2, N, G, e, f, tp, R0_m tXst r1 (KN_MF x2)⟩
/-! ledger -/
def lgG (N : TN) (r k c : Nat) : Nat := if N (4341 + k) / 68 % 5 = r then c + 1 else c
theorem lgG_le {N : TN} {r k c M : Nat} (h : c ≤ M) : lgG N r k c ≤ M + 1 := by unfold lgG; split <;> omega
theorem s_ledger {TX : TI → Nat → Prop} (hn : 100000 ≤ n) (h : RE TX I O) (p1 : Int32) : ∃ (v : Int32), f11_ledger n I O 1 p1 = some v ∧ f12_ledger n I O 331 p1 = some v ∧ RE TX I O := by
  have h0 := h
  obtain ⟨N, G, e, f, tp, h⟩ := h
  have hO := h.1
  have hV := RW_WV hO h.2.2.2.2.2.2.1
  have hN := h.2.2.2.1
  have hB := NB_WB hN
  have hM := h.2.1
  have hF := RW_fd h.2.2.2.2.2.2.1
  have b0 : N 0 ≤ 5 := hB.1
  have b1 : N 1 ≤ 4 := hB.2.1
  obtain ⟨f9, -, -, -, -, -, fb, -⟩ := hF
  have b9 := pg_le hN
  have m9 := hM.2 9 (by omega)
  by_cases hm : p1 = -1
  · have hm' : p1 = -nI 1 := hm
    refine ⟨nI (N 9), by simp (disch := omega) only [f11_ledger, o_1_0 hO, o_1_1 hO, o_1_2 hO, o_1_3 hO, o_1_4 hO, o_1_5 hO, o_1_6 hO, o_1_7 hO, o_1_8 hO, o_1_9 hO, o_2_0 hO, o_2_1 hO, o_2_2 hO, o_2_3 hO, o_2_4 hO, o_2_5 hO, o_3_0 hO, o_3_1 hO, o_3_2 hO, o_6_0 hO, o_6_1 hO, o_6_2 hO, o_10_0 hO, o_331_0 hO, hm', f9, qL, qb, qbl, qadd, qmul, qsubm, qdm, qsub, qdiv, qcl, qlt, qle, qeq, nltT, nltF, nleT, nleF, neqT, neqF, or_false, false_or, or_true, true_or, or_self, and_true, true_and, and_false, false_and, and_self, not_true_eq_false, not_false_eq_true, ↓reduceIte], ?_, h0⟩
    have k2 : f12_ledger_c20 n I O n 331 p1 (nI 0) (nI 0) = some (nI (N 9)) := by
      refine lpR (L := fun m k c => f12_ledger_c20 n I O m 331 p1 (nI c) (nI k)) (fun k c => c = k) (fun res => res = some (nI (N 9))) (N 9) ?_ ?_ (N 9) 0 n 0 (by omega) (by omega) rfl
      · intro m k c hk hc
        left
        subst hc
        exact ⟨c + 1, rfl, by simp (disch := omega) only [f12_ledger_c20, hM.1, m9, hm', qL, qb, qbl, qadd, qmul, qsubm, qdm, qsub, qdiv, qcl, qlt, qle, qeq, nltT, nltF, nleT, nleF, neqT, neqF, or_false, false_or, or_true, true_or, or_self, and_true, true_and, and_false, false_and, and_self, not_true_eq_false, not_false_eq_true, ↓reduceIte]⟩
      · intro m c hc
        subst hc
        simp (disch := omega) only [f12_ledger_c20, hM.1, m9, qL, qb, qbl, qadd, qmul, qsubm, qdm, qsub, qdiv, qcl, qlt, qle, qeq, nltT, nltF, nleT, nleF, neqT, neqF, or_false, false_or, or_true, true_or, or_self, and_true, true_and, and_false, false_and, and_self, not_true_eq_false, not_false_eq_true, ↓reduceIte]
    rw [hm'] at k2
    simp (disch := omega) only [f12_ledger, hm', k2, qL, qb, qbl, qadd, qmul, qsubm, qdm, qsub, qdiv, qcl, qlt, qle, qeq, nltT, nltF, nleT, nleF, neqT, neqF, or_false, false_or, or_true, true_or, or_self, and_true, true_and, and_false, false_and, and_self, not_true_eq_false, not_false_eq_true, ↓reduceIte]
  · have hm' : ¬ p1 = -nI 1 := hm
    by_cases h1 : inR p1 (N 0)
    · obtain ⟨r, hr, rfl⟩ := inR_of h1
      have k1 : f3_pagesOf_c4 n I O n 6 (nI r) (nI 0) (nI 0) = some (nI (fo (lgG N r) (N 9) 0 0)) := by
        refine lpF (L := fun m k c => f3_pagesOf_c4 n I O m 6 (nI r) (nI c) (nI k)) (lgG N r) (fun k c => c ≤ k) (N 9) nI ?_ (fun k c _ h => lgG_le h) ?_ (N 9) 0 n 0 (by omega) (by omega) (Nat.zero_le _)
        · intro m k c hk hc
          have bb := bk_lt hN (k := k) (by omega)
          have g1 := fb k (by omega)
          have e1 : f3_written I O 6 (nI k) 1 = some (nI (N (4341 + k) / 68 % 5)) := by
            simp (disch := omega) only [f3_written, o_1_0 hO, o_1_1 hO, o_1_2 hO, o_1_3 hO, o_1_4 hO, o_1_5 hO, o_1_6 hO, o_1_7 hO, o_1_8 hO, o_1_9 hO, o_2_0 hO, o_2_1 hO, o_2_2 hO, o_2_3 hO, o_2_4 hO, o_2_5 hO, o_3_0 hO, o_3_1 hO, o_3_2 hO, o_6_0 hO, o_6_1 hO, o_6_2 hO, o_10_0 hO, o_331_0 hO, f9, g1, qL, qb, qbl, qadd, qmul, qsubm, qdm, qsub, qdiv, qcl, qlt, qle, qeq, nltT, nltF, nleT, nleF, neqT, neqF, or_false, false_or, or_true, true_or, or_self, and_true, true_and, and_false, false_and, and_self, not_true_eq_false, not_false_eq_true, ↓reduceIte]
            rw [Nat.div_div_eq_div_mul]
          have e1' : f3_written I O 6 (nI k) (nI 1) = some (nI (N (4341 + k) / 68 % 5)) := e1
          unfold lgG
          by_cases z : N (4341 + k) / 68 % 5 = r
          · rw [if_pos z]
            simp (disch := omega) only [f3_pagesOf_c4, f9, e1', z, qL, qb, qbl, qadd, qmul, qsubm, qdm, qsub, qdiv, qcl, qlt, qle, qeq, nltT, nltF, nleT, nleF, neqT, neqF, or_false, false_or, or_true, true_or, or_self, and_true, true_and, and_false, false_and, and_self, not_true_eq_false, not_false_eq_true, ↓reduceIte]
          · rw [if_neg z]
            simp (disch := omega) only [f3_pagesOf_c4, f9, e1', qL, qb, qbl, qadd, qmul, qsubm, qdm, qsub, qdiv, qcl, qlt, qle, qeq, nltT, nltF, nleT, nleF, neqT, neqF, or_false, false_or, or_true, true_or, or_self, and_true, true_and, and_false, false_and, and_self, not_true_eq_false, not_false_eq_true, ↓reduceIte]
        · intro m c hc
          simp (disch := omega) only [f3_pagesOf_c4, f9, qL, qb, qbl, qadd, qmul, qsubm, qdm, qsub, qdiv, qcl, qlt, qle, qeq, nltT, nltF, nleT, nleF, neqT, neqF, or_false, false_or, or_true, true_or, or_self, and_true, true_and, and_false, false_and, and_self, not_true_eq_false, not_false_eq_true, ↓reduceIte]
      have k2 : f12_ledger_c20 n I O n 331 (nI r) (nI 0) (nI 0) = some (nI (fo (lgG N r) (N 9) 0 0)) := by
        refine lpF (L := fun m k c => f12_ledger_c20 n I O m 331 (nI r) (nI c) (nI k)) (lgG N r) (fun k c => c ≤ k) (N 9) nI ?_ (fun k c _ h => lgG_le h) ?_ (N 9) 0 n 0 (by omega) (by omega) (Nat.zero_le _)
        · intro m k c hk hc
          have bb := bk_lt hN (k := k) (by omega)
          have em : I 332 (4341 + k) = nI (N (4341 + k)) := hM.2 _ (by omega)
          unfold lgG
          by_cases z : N (4341 + k) / 68 % 5 = r
          · rw [if_pos z]
            simp (disch := omega) only [f12_ledger_c20, f12_entry, hM.1, m9, hm', em, z, qL, qb, qbl, qadd, qmul, qsubm, qdm, qsub, qdiv, qcl, qlt, qle, qeq, nltT, nltF, nleT, nleF, neqT, neqF, or_false, false_or, or_true, true_or, or_self, and_true, true_and, and_false, false_and, and_self, not_true_eq_false, not_false_eq_true, ↓reduceIte]
          · rw [if_neg z]
            simp (disch := omega) only [f12_ledger_c20, f12_entry, hM.1, m9, hm', em, Nat.add_zero, qL, qb, qbl, qadd, qmul, qsubm, qdm, qsub, qdiv, qcl, qlt, qle, qeq, nltT, nltF, nleT, nleF, neqT, neqF, or_false, false_or, or_true, true_or, or_self, and_true, true_and, and_false, false_and, and_self, not_true_eq_false, not_false_eq_true, ↓reduceIte]
        · intro m c hc
          simp (disch := omega) only [f12_ledger_c20, hM.1, m9, qL, qb, qbl, qadd, qmul, qsubm, qdm, qsub, qdiv, qcl, qlt, qle, qeq, nltT, nltF, nleT, nleF, neqT, neqF, or_false, false_or, or_true, true_or, or_self, and_true, true_and, and_false, false_and, and_self, not_true_eq_false, not_false_eq_true, ↓reduceIte]
      refine ⟨nI (fo (lgG N r) (N 9) 0 0), ?_, ?_, h0⟩
      · simp (disch := omega) only [f11_ledger, f3_pagesOf, o_1_0 hO, o_1_1 hO, o_1_2 hO, o_1_3 hO, o_1_4 hO, o_1_5 hO, o_1_6 hO, o_1_7 hO, o_1_8 hO, o_1_9 hO, o_2_0 hO, o_2_1 hO, o_2_2 hO, o_2_3 hO, o_2_4 hO, o_2_5 hO, o_3_0 hO, o_3_1 hO, o_3_2 hO, o_6_0 hO, o_6_1 hO, o_6_2 hO, o_10_0 hO, o_331_0 hO, hm', x_hasRoll hV hB hr, k1, qL, qb, qbl, qadd, qmul, qsubm, qdm, qsub, qdiv, qcl, qlt, qle, qeq, nltT, nltF, nleT, nleF, neqT, neqF, or_false, false_or, or_true, true_or, or_self, and_true, true_and, and_false, false_and, and_self, not_true_eq_false, not_false_eq_true, ↓reduceIte]
      · simp (disch := omega) only [f12_ledger, hm', m_isRoll hM hB hr, k2, qL, qb, qbl, qadd, qmul, qsubm, qdm, qsub, qdiv, qcl, qlt, qle, qeq, nltT, nltF, nleT, nleF, neqT, neqF, or_false, false_or, or_true, true_or, or_self, and_true, true_and, and_false, false_and, and_self, not_true_eq_false, not_false_eq_true, ↓reduceIte]
    · refine ⟨-2, ?_, ?_, h0⟩
      · simp (disch := omega) only [f11_ledger, o_1_0 hO, o_1_1 hO, o_1_2 hO, o_1_3 hO, o_1_4 hO, o_1_5 hO, o_1_6 hO, o_1_7 hO, o_1_8 hO, o_1_9 hO, o_2_0 hO, o_2_1 hO, o_2_2 hO, o_2_3 hO, o_2_4 hO, o_2_5 hO, o_3_0 hO, o_3_1 hO, o_3_2 hO, o_6_0 hO, o_6_1 hO, o_6_2 hO, o_10_0 hO, o_331_0 hO, hm', x_noRoll hV hB h1, qL, qb, qbl, qadd, qmul, qsubm, qdm, qsub, qdiv, qcl, qlt, qle, qeq, nltT, nltF, nleT, nleF, neqT, neqF, or_false, false_or, or_true, true_or, or_self, and_true, true_and, and_false, false_and, and_self, not_true_eq_false, not_false_eq_true, ↓reduceIte]
      · simp (disch := omega) only [f12_ledger, hm', m_noRoll hM hB h1, qL, qb, qbl, qadd, qmul, qsubm, qdm, qsub, qdiv, qcl, qlt, qle, qeq, nltT, nltF, nleT, nleF, neqT, neqF, or_false, false_or, or_true, true_or, or_self, and_true, true_and, and_false, false_and, and_self, not_true_eq_false, not_false_eq_true, ↓reduceIte]
end BT
