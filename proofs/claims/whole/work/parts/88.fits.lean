/-! fits, nearest -/
def ucG (N : TN) (r p k c : Nat) : Nat := if mtB (lv N r (p + k)) (N (199 + k)) then c else c + 1
def uc (N : TN) (r p : Nat) : Nat := fo (ucG N r p) (N 5) 0 0
theorem ucG_le {N : TN} {r p k c M : Nat} (h : c ≤ M) : ucG N r p k c ≤ M + 1 := by unfold ucG; split <;> omega
theorem uc_le {N : TN} {r p : Nat} : uc N r p ≤ N 5 :=
  foI (ucG N r p) (fun k c => c ≤ k) (N 5) (fun k c _ hc => ucG_le hc) _ 0 0 (by omega) (Nat.zero_le _)
theorem mt_ph {N : TN} (hB : WB N) {r i v : Nat} (h1 : r < 5) (h2 : i < 16) (hv : v ≤ 5) : mtB (lv N r i) v = (tornB N r i || K N r i == v) := by
  have k1 := hB.2.2.2.2.1 r i h1 h2
  unfold mtB lv
  rw [Bool.eq_iff_iff]
  cases tornB N r i <;> simp <;> omega
section FX
variable {TX : TI → Nat → Prop} {n : Nat} {I J s : TI} {O : TO} {N : TN}
theorem x_unlike (hn : 100000 ≤ n) (hO : OF O) (hN : NB N) (hF : FD s N) {r : Nat} (hr : r < N 0) (hrow : Row s 288 (lv N r) (Ln N r)) {p : Nat} (hp : p + N 5 ≤ Ln N r) : f2_unlikeAt n s O 287 2 (nI p) = some (nI (uc N r p)) := by
  have hB := NB_WB hN
  have b1 := hB.1
  have l1 := hB.2.2.1 r (by omega)
  have b5 : N 5 ≤ 8 := hN.2.2.2.2.2.1
  have f5 : s 2 6 = nI (N 5) := hF.2.1
  refine lpF (L := fun m k c => f2_unlikeAt_c5 n s O m 287 2 (nI p) (nI c) (nI k)) (ucG N r p) (fun k c => c ≤ k) (N 5) nI ?_ (fun k c _ hc => ucG_le hc) ?_ (N 5) 0 n 0 (by omega) (by omega) (Nat.zero_le _)
  · intro m k c hk hc
    have a1 := hrow (p + k) (by omega)
    have a2 : s 132 k = nI (N (199 + k)) := hF.2.2.2.2.2.2.2.1 k (by omega)
    have v1 := lv_le hB (r := r) (p := p + k) (by omega) (by omega)
    have v2 : N (199 + k) ≤ 5 := hN.2.2.2.2.2.2.2.2.2.2.1 k (by omega)
    have e3 := x_matches (a := lv N r (p + k)) (b := N (199 + k)) (by omega) (by omega)
    unfold ucG
    cases z : mtB (lv N r (p + k)) (N (199 + k))
    · simp (disch := omega) only [f2_unlikeAt_c5, o_287_0 hO, o_2_2 hO, f5, a1, a2, e3, z, Bool.false_eq_true, qL, qb, qbl, qadd, qmul, qsubm, qdm, qsub, qdiv, qcl, qlt, qle, qeq, nltT, nltF, nleT, nleF, neqT, neqF, or_false, false_or, or_true, true_or, or_self, and_true, true_and, and_false, false_and, and_self, not_true_eq_false, not_false_eq_true, ↓reduceIte]
    · simp (disch := omega) only [f2_unlikeAt_c5, o_287_0 hO, o_2_2 hO, f5, a1, a2, e3, z, qL, qb, qbl, qadd, qmul, qsubm, qdm, qsub, qdiv, qcl, qlt, qle, qeq, nltT, nltF, nleT, nleF, neqT, neqF, or_false, false_or, or_true, true_or, or_self, and_true, true_and, and_false, false_and, and_self, not_true_eq_false, not_false_eq_true, ↓reduceIte]
  · intro m c hc
    simp (disch := omega) only [f2_unlikeAt_c5, f5, qL, qb, qbl, qadd, qmul, qsubm, qdm, qsub, qdiv, qcl, qlt, qle, qeq, nltT, nltF, nleT, nleF, neqT, neqF, or_false, false_or, or_true, true_or, or_self, and_true, true_and, and_false, false_and, and_self, not_true_eq_false, not_false_eq_true, ↓reduceIte]
theorem m_unlike (hn : 100000 ≤ n) (hM : MV J O N) (hN : NB N) {r : Nat} (hr : r < N 0) {p : Nat} (hp : p + N 5 ≤ Ln N r) : f12_unlikeFrom n J O 331 (nI r) (nI p) = some (nI (uc N r p)) := by
  have hB := NB_WB hN
  have b1 := hB.1
  have l1 := hB.2.2.1 r (by omega)
  have b5 : N 5 ≤ 8 := hN.2.2.2.2.2.1
  have f5 := hM.2 5 (by omega)
  refine lpF (L := fun m k c => f12_unlikeFrom_c5 n J O m 331 (nI r) (nI p) (nI c) (nI k)) (ucG N r p) (fun k c => c ≤ k) (N 5) nI ?_ (fun k c _ hc => ucG_le hc) ?_ (N 5) 0 n 0 (by omega) (by omega) (Nat.zero_le _)
  · intro m k c hk hc
    have v2 : N (199 + k) ≤ 5 := hN.2.2.2.2.2.2.2.2.2.2.1 k (by omega)
    have a2 := hM.2 (199 + k) (by omega)
    have q1 := m_isTorn hM hB (r := r) (p := p + k) (by omega) (by omega)
    have q3 := m_keyOf hM (r := r) (p := p + k) (by omega) (by omega)
    have q5 := hB.2.2.2.2.1 r (p + k) (by omega) (by omega)
    unfold ucG
    rw [mt_ph hB (by omega) (by omega) v2]
    cases x1 : tornB N r (p + k)
    · by_cases x3 : K N r (p + k) = N (199 + k)
      · have x3' : (K N r (p + k) == N (199 + k)) = true := beq_iff_eq.mpr x3
        rw [x3']
        simp (disch := omega) only [f12_unlikeFrom_c5, hM.1, f5, q1, x1, q3, a2, Bool.false_eq_true, Bool.false_or, Nat.add_zero, qL, qb, qbl, qadd, qmul, qsubm, qdm, qsub, qdiv, qcl, qlt, qle, qeq, nltT, nltF, nleT, nleF, neqT, neqF, or_false, false_or, or_true, true_or, or_self, and_true, true_and, and_false, false_and, and_self, not_true_eq_false, not_false_eq_true, ↓reduceIte]
      · have x3' : (K N r (p + k) == N (199 + k)) = false := beq_false_of_ne x3
        rw [x3']
        simp (disch := omega) only [f12_unlikeFrom_c5, hM.1, f5, q1, x1, q3, a2, Bool.false_eq_true, Bool.false_or, Nat.add_zero, qL, qb, qbl, qadd, qmul, qsubm, qdm, qsub, qdiv, qcl, qlt, qle, qeq, nltT, nltF, nleT, nleF, neqT, neqF, or_false, false_or, or_true, true_or, or_self, and_true, true_and, and_false, false_and, and_self, not_true_eq_false, not_false_eq_true, ↓reduceIte]
    · simp (disch := omega) only [f12_unlikeFrom_c5, hM.1, f5, q1, x1, Bool.true_or, Nat.add_zero, qL, qb, qbl, qadd, qmul, qsubm, qdm, qsub, qdiv, qcl, qlt, qle, qeq, nltT, nltF, nleT, nleF, neqT, neqF, or_false, false_or, or_true, true_or, or_self, and_true, true_and, and_false, false_and, and_self, not_true_eq_false, not_false_eq_true, ↓reduceIte]
  · intro m c hc
    simp (disch := omega) only [f12_unlikeFrom_c5, hM.1, f5, qL, qb, qbl, qadd, qmul, qsubm, qdm, qsub, qdiv, qcl, qlt, qle, qeq, nltT, nltF, nleT, nleF, neqT, neqF, or_false, false_or, or_true, true_or, or_self, and_true, true_and, and_false, false_and, and_self, not_true_eq_false, not_false_eq_true, ↓reduceIte]
def ftG (N : TN) (r u k : Nat) (b : Int32) : Int32 := if u < uc N r k then b else b ||| (nI 1 <<< (nI k &&& nI 31))
theorem s_fits (hn : 100000 ≤ n) (hT : TXst TX) (h : RE TX I O) (p1 p2 : Int32) : ∃ (v : Int32) (I1 : TI), f11_fits n I O 1 p1 p2 = some (v, I1) ∧ f12_fits n I1 O 331 p1 p2 = some v ∧ RE TX I1 O := by
  obtain ⟨N, G, e, f, tp, h⟩ := h
  have hO := h.1
  have hV := RW_WV hO h.2.2.2.2.2.2.1
  have hN := h.2.2.2.1
  have hB := NB_WB hN
  have hM := h.2.1
  have hF := RW_fd h.2.2.2.2.2.2.1
  have b0 : N 0 ≤ 5 := hB.1
  have b1 : N 1 ≤ 4 := hB.2.1
  have b5 : N 5 ≤ 8 := hN.2.2.2.2.2.1
  by_cases h1 : inR p1 (N 0)
  · obtain ⟨r, hr, rfl⟩ := inR_of h1
    have l1 := hB.2.2.1 r (by omega)
    by_cases h3 : ((0 : Nat) : Int) ≤ p2.toInt ∧ p2.toInt ≤ ((8 : Nat) : Int)
    · obtain ⟨u, -, hu, rfl⟩ := inB h3
      obtain ⟨I1, e1, f1, g1⟩ := lay_ok hn hV hB hr (b := 288) (by omega)
      have x1 : XF I I1 := fun a ha => f1 a (by omega)
      have hF1 := FD_fr hF (I' := I1) (fun a ha => f1 a (by omega))
      have f5 : I1 2 6 = nI (N 5) := hF1.2.1
      have r1 := R0_x hT h x1
      have hM1 : MV I1 O N := r1.2.1
      have el := m_len hM1 (r := r) (by omega)
      have m5 := hM1.2 5 (by omega)
      have k1 : f2_fitting_c20 n O n I1 287 2 (nI u) (nI (Ln N r)) (nI 0) (nI 0) = some (fo (ftG N r u) (min (Ln N r) (Ln N r + 1 - N 5)) 0 (nI 0), I1) := by
        refine lpF (L := fun m k b => f2_fitting_c20 n O m I1 287 2 (nI u) (nI (Ln N r)) b (nI k)) (ftG N r u) (fun _ _ => True) (min (Ln N r) (Ln N r + 1 - N 5)) (fun b => (b, I1)) ?_ (fun _ _ _ _ => trivial) ?_ _ 0 n (nI 0) (by omega) (by omega) trivial
        · intro m k b hk _
          have e2 := x_unlike hn hO hN hF1 hr g1 (p := k) (by omega)
          have ul := uc_le (N := N) (r := r) (p := k)
          unfold ftG
          by_cases z : u < uc N r k
          · rw [if_pos z]
            simp (disch := omega) only [f2_fitting_c20, f5, e2, qL, qb, qbl, qadd, qmul, qsubm, qdm, qsub, qdiv, qcl, qlt, qle, qeq, nltT, nltF, nleT, nleF, neqT, neqF, or_false, false_or, or_true, true_or, or_self, and_true, true_and, and_false, false_and, and_self, not_true_eq_false, not_false_eq_true, ↓reduceIte]
          · rw [if_neg z]
            simp (disch := omega) only [f2_fitting_c20, f5, e2, qL, qb, qbl, qadd, qmul, qsubm, qdm, qsub, qdiv, qcl, qlt, qle, qeq, nltT, nltF, nleT, nleF, neqT, neqF, or_false, false_or, or_true, true_or, or_self, and_true, true_and, and_false, false_and, and_self, not_true_eq_false, not_false_eq_true, ↓reduceIte]
        · intro m b _
          by_cases z : Ln N r ≤ Ln N r + 1 - N 5
          · rw [show min (Ln N r) (Ln N r + 1 - N 5) = Ln N r by omega]
            simp (disch := omega) only [f2_fitting_c20, qL, qb, qbl, qadd, qmul, qsubm, qdm, qsub, qdiv, qcl, qlt, qle, qeq, nltT, nltF, nleT, nleF, neqT, neqF, or_false, false_or, or_true, true_or, or_self, and_true, true_and, and_false, false_and, and_self, not_true_eq_false, not_false_eq_true, ↓reduceIte]
          · rw [show min (Ln N r) (Ln N r + 1 - N 5) = Ln N r + 1 - N 5 by omega]
            simp (disch := omega) only [f2_fitting_c20, f5, qL, qb, qbl, qadd, qmul, qsubm, qdm, qsub, qdiv, qcl, qlt, qle, qeq, nltT, nltF, nleT, nleF, neqT, neqF, or_false, false_or, or_true, true_or, or_self, and_true, true_and, and_false, false_and, and_self, not_true_eq_false, not_false_eq_true, ↓reduceIte]
      have k2 : f12_fits_c25 n I1 O n 331 (nI r) (nI u) (nI 0) (nI 0) = some (fo (ftG N r u) (min (Ln N r) (Ln N r + 1 - N 5)) 0 (nI 0)) := by
        refine lpF (L := fun m k b => f12_fits_c25 n I1 O m 331 (nI r) (nI u) b (nI k)) (ftG N r u) (fun _ _ => True) (min (Ln N r) (Ln N r + 1 - N 5)) (fun b => b) ?_ (fun _ _ _ _ => trivial) ?_ _ 0 n (nI 0) (by omega) (by omega) trivial
        · intro m k b hk _
          have e2 := m_unlike hn hM1 hN hr (p := k) (by omega)
          have ul := uc_le (N := N) (r := r) (p := k)
          have oz : b ||| nI 0 = b := Int32.or_zero
          unfold ftG
          by_cases z : u < uc N r k
          · rw [if_pos z]
            simp (disch := omega) only [f12_fits_c25, hM1.1, el, m5, e2, oz, qL, qb, qbl, qadd, qmul, qsubm, qdm, qsub, qdiv, qcl, qlt, qle, qeq, nltT, nltF, nleT, nleF, neqT, neqF, or_false, false_or, or_true, true_or, or_self, and_true, true_and, and_false, false_and, and_self, not_true_eq_false, not_false_eq_true, ↓reduceIte]
          · rw [if_neg z]
            simp (disch := omega) only [f12_fits_c25, hM1.1, el, m5, e2, qL, qb, qbl, qadd, qmul, qsubm, qdm, qsub, qdiv, qcl, qlt, qle, qeq, nltT, nltF, nleT, nleF, neqT, neqF, or_false, false_or, or_true, true_or, or_self, and_true, true_and, and_false, false_and, and_self, not_true_eq_false, not_false_eq_true, ↓reduceIte]
        · intro m b _
          by_cases z : Ln N r ≤ Ln N r + 1 - N 5
          · rw [show min (Ln N r) (Ln N r + 1 - N 5) = Ln N r by omega]
            simp (disch := omega) only [f12_fits_c25, hM1.1, el, qL, qb, qbl, qadd, qmul, qsubm, qdm, qsub, qdiv, qcl, qlt, qle, qeq, nltT, nltF, nleT, nleF, neqT, neqF, or_false, false_or, or_true, true_or, or_self, and_true, true_and, and_false, false_and, and_self, not_true_eq_false, not_false_eq_true, ↓reduceIte]
          · rw [show min (Ln N r) (Ln N r + 1 - N 5) = Ln N r + 1 - N 5 by omega]
            simp (disch := omega) only [f12_fits_c25, hM1.1, el, m5, qL, qb, qbl, qadd, qmul, qsubm, qdm, qsub, qdiv, qcl, qlt, qle, qeq, nltT, nltF, nleT, nleF, neqT, neqF, or_false, false_or, or_true, true_or, or_self, and_true, true_and, and_false, false_and, and_self, not_true_eq_false, not_false_eq_true, ↓reduceIte]
      refine ⟨fo (ftG N r u) (min (Ln N r) (Ln N r + 1 - N 5)) 0 (nI 0), I1, ?_, ?_, N, G, e, f, tp, r1⟩
      · simp (disch := omega) only [f11_fits, f2_fitting, o_1_0 hO, o_1_1 hO, o_1_2 hO, o_1_3 hO, o_1_4 hO, o_1_5 hO, o_1_6 hO, o_1_7 hO, o_1_8 hO, o_1_9 hO, o_2_0 hO, o_2_1 hO, o_2_2 hO, o_2_3 hO, o_2_4 hO, o_2_5 hO, o_3_0 hO, o_3_1 hO, o_3_2 hO, o_6_0 hO, o_6_1 hO, o_6_2 hO, o_10_0 hO, o_331_0 hO, o_287_0 hO, x_hasRoll hV hB hr, e1, k1, qL, qb, qbl, qadd, qmul, qsubm, qdm, qsub, qdiv, qcl, qlt, qle, qeq, nltT, nltF, nleT, nleF, neqT, neqF, or_false, false_or, or_true, true_or, or_self, and_true, true_and, and_false, false_and, and_self, not_true_eq_false, not_false_eq_true, ↓reduceIte]
      · simp (disch := omega) only [f12_fits, m_isRoll hM1 hB hr, m_inT (Nat.zero_le u) hu, k2, qL, qb, qbl, qadd, qmul, qsubm, qdm, qsub, qdiv, qcl, qlt, qle, qeq, nltT, nltF, nleT, nleF, neqT, neqF, or_false, false_or, or_true, true_or, or_self, and_true, true_and, and_false, false_and, and_self, not_true_eq_false, not_false_eq_true, ↓reduceIte]
    · have e1 := outB (by omega) (by omega) h3
      have e2 := m_inF h3 (by omega) (by omega)
      refine ⟨-1, I, ?_, ?_, N, G, e, f, tp, h⟩
      · rcases e1 with e1 | ⟨e1, e3⟩
        · simp (disch := omega) only [f11_fits, o_1_0 hO, o_1_1 hO, o_1_2 hO, o_1_3 hO, o_1_4 hO, o_1_5 hO, o_1_6 hO, o_1_7 hO, o_1_8 hO, o_1_9 hO, o_2_0 hO, o_2_1 hO, o_2_2 hO, o_2_3 hO, o_2_4 hO, o_2_5 hO, o_3_0 hO, o_3_1 hO, o_3_2 hO, o_6_0 hO, o_6_1 hO, o_6_2 hO, o_10_0 hO, o_331_0 hO, x_hasRoll hV hB hr, e1, qL, qb, qbl, qadd, qmul, qsubm, qdm, qsub, qdiv, qcl, qlt, qle, qeq, nltT, nltF, nleT, nleF, neqT, neqF, or_false, false_or, or_true, true_or, or_self, and_true, true_and, and_false, false_and, and_self, not_true_eq_false, not_false_eq_true, ↓reduceIte]
        · have e4 : ¬ p2 ≤ nI 8 := fun q => by rw [i_le, qtoI (by omega)] at q; rw [i_lt, qtoI (by omega)] at e3; omega
          simp (disch := omega) only [f11_fits, o_1_0 hO, o_1_1 hO, o_1_2 hO, o_1_3 hO, o_1_4 hO, o_1_5 hO, o_1_6 hO, o_1_7 hO, o_1_8 hO, o_1_9 hO, o_2_0 hO, o_2_1 hO, o_2_2 hO, o_2_3 hO, o_2_4 hO, o_2_5 hO, o_3_0 hO, o_3_1 hO, o_3_2 hO, o_6_0 hO, o_6_1 hO, o_6_2 hO, o_10_0 hO, o_331_0 hO, x_hasRoll hV hB hr, e1, e4, qL, qb, qbl, qadd, qmul, qsubm, qdm, qsub, qdiv, qcl, qlt, qle, qeq, nltT, nltF, nleT, nleF, neqT, neqF, or_false, false_or, or_true, true_or, or_self, and_true, true_and, and_false, false_and, and_self, not_true_eq_false, not_false_eq_true, ↓reduceIte]
      · simp (disch := omega) only [f12_fits, m_isRoll hM hB hr, e2, qL, qb, qbl, qadd, qmul, qsubm, qdm, qsub, qdiv, qcl, qlt, qle, qeq, nltT, nltF, nleT, nleF, neqT, neqF, or_false, false_or, or_true, true_or, or_self, and_true, true_and, and_false, false_and, and_self, not_true_eq_false, not_false_eq_true, ↓reduceIte]
  · refine ⟨-1, I, ?_, ?_, N, G, e, f, tp, h⟩
    · simp (disch := omega) only [f11_fits, o_1_0 hO, o_1_1 hO, o_1_2 hO, o_1_3 hO, o_1_4 hO, o_1_5 hO, o_1_6 hO, o_1_7 hO, o_1_8 hO, o_1_9 hO, o_2_0 hO, o_2_1 hO, o_2_2 hO, o_2_3 hO, o_2_4 hO, o_2_5 hO, o_3_0 hO, o_3_1 hO, o_3_2 hO, o_6_0 hO, o_6_1 hO, o_6_2 hO, o_10_0 hO, o_331_0 hO, x_noRoll hV hB h1, qL, qb, qbl, qadd, qmul, qsubm, qdm, qsub, qdiv, qcl, qlt, qle, qeq, nltT, nltF, nleT, nleF, neqT, neqF, or_false, false_or, or_true, true_or, or_self, and_true, true_and, and_false, false_and, and_self, not_true_eq_false, not_false_eq_true, ↓reduceIte]
    · simp (disch := omega) only [f12_fits, m_noRoll hM hB h1, qL, qb, qbl, qadd, qmul, qsubm, qdm, qsub, qdiv, qcl, qlt, qle, qeq, nltT, nltF, nleT, nleF, neqT, neqF, or_false, false_or, or_true, true_or, or_self, and_true, true_and, and_false, false_and, and_self, not_true_eq_false, not_false_eq_true, ↓reduceIte]
def nrG (N : TN) (r p b : Nat) : Nat := if uc N r p < uc N r b then p else b
theorem s_nearest (hn : 100000 ≤ n) (hT : TXst TX) (h : RE TX I O) (p1 : Int32) : ∃ (v : Int32) (I1 : TI), f11_nearest n I O 1 p1 = some (v, I1) ∧ f12_nearest n I1 O 331 p1 = some v ∧ RE TX I1 O := by
  obtain ⟨N, G, e, f, tp, h⟩ := h
  have hO := h.1
  have hV := RW_WV hO h.2.2.2.2.2.2.1
  have hN := h.2.2.2.1
  have hB := NB_WB hN
  have hM := h.2.1
  have hF := RW_fd h.2.2.2.2.2.2.1
  have b0 : N 0 ≤ 5 := hB.1
  have b1 : N 1 ≤ 4 := hB.2.1
  have b5 : N 5 ≤ 8 := hN.2.2.2.2.2.1
  have f5 : I 2 6 = nI (N 5) := hF.2.1
  by_cases h1 : inR p1 (N 0)
  · obtain ⟨r, hr, rfl⟩ := inR_of h1
    have l1 := hB.2.2.1 r (by omega)
    by_cases h5 : N 5 = 0
    · have m5 := hM.2 5 (by omega)
      refine ⟨-1, I, ?_, ?_, N, G, e, f, tp, h⟩
      · simp (disch := omega) only [f11_nearest, f2_closest, o_1_0 hO, o_1_1 hO, o_1_2 hO, o_1_3 hO, o_1_4 hO, o_1_5 hO, o_1_6 hO, o_1_7 hO, o_1_8 hO, o_1_9 hO, o_2_0 hO, o_2_1 hO, o_2_2 hO, o_2_3 hO, o_2_4 hO, o_2_5 hO, o_3_0 hO, o_3_1 hO, o_3_2 hO, o_6_0 hO, o_6_1 hO, o_6_2 hO, o_10_0 hO, o_331_0 hO, x_hasRoll hV hB hr, f5, qL, qb, qbl, qadd, qmul, qsubm, qdm, qsub, qdiv, qcl, qlt, qle, qeq, nltT, nltF, nleT, nleF, neqT, neqF, or_false, false_or, or_true, true_or, or_self, and_true, true_and, and_false, false_and, and_self, not_true_eq_false, not_false_eq_true, ↓reduceIte]
      · simp (disch := omega) only [f12_nearest, m_isRoll hM hB hr, hM.1, m5, qL, qb, qbl, qadd, qmul, qsubm, qdm, qsub, qdiv, qcl, qlt, qle, qeq, nltT, nltF, nleT, nleF, neqT, neqF, or_false, false_or, or_true, true_or, or_self, and_true, true_and, and_false, false_and, and_self, not_true_eq_false, not_false_eq_true, ↓reduceIte]
    obtain ⟨I1, e1, f1, g1⟩ := lay_ok hn hV hB hr (b := 288) (by omega)
    have x1 : XF I I1 := fun a ha => f1 a (by omega)
    have hF1 := FD_fr hF (I' := I1) (fun a ha => f1 a (by omega))
    have f5' : I1 2 6 = nI (N 5) := hF1.2.1
    have r1 := R0_x hT h x1
    have hM1 : MV I1 O N := r1.2.1
    have el := m_len hM1 (r := r) (by omega)
    have m5 := hM1.2 5 (by omega)
    obtain ⟨n', hn'⟩ : ∃ n', n = n' + 1 := ⟨n - 1, by omega⟩
    by_cases hl : N 5 ≤ Ln N r
    · have ub : ∀ p, uc N r p ≤ 8 := fun p => by have := uc_le (N := N) (r := r) (p := p); omega
      have k1 : f2_closest_c32 n O n' I1 287 2 (nI (Ln N r)) (nI 0) (nI (uc N r 0)) (nI 1) = some (nI (fo (nrG N r) (Ln N r - N 5) 1 0), I1) := by
        refine lpF (L := fun m k b => f2_closest_c32 n O m I1 287 2 (nI (Ln N r)) (nI b) (nI (uc N r b)) (nI k)) (nrG N r) (fun k b => b < k) (Ln N r - N 5 + 1) (fun b => (nI b, I1)) ?_ ?_ ?_ _ 1 n' 0 (by omega) (by omega) (by omega)
        · intro m k b hk hb
          have e2 := x_unlike hn hO hN hF1 hr g1 (p := k) (by omega)
          have c1 := ub k
          have c2 := ub b
          unfold nrG
          by_cases z : uc N r k < uc N r b
          · rw [if_pos z]
            simp (disch := omega) only [f2_closest_c32, f5', e2, qL, qb, qbl, qadd, qmul, qsubm, qdm, qsub, qdiv, qcl, qlt, qle, qeq, nltT, nltF, nleT, nleF, neqT, neqF, or_false, false_or, or_true, true_or, or_self, and_true, true_and, and_false, false_and, and_self, not_true_eq_false, not_false_eq_true, ↓reduceIte]
          · rw [if_neg z]
            simp (disch := omega) only [f2_closest_c32, f5', e2, qL, qb, qbl, qadd, qmul, qsubm, qdm, qsub, qdiv, qcl, qlt, qle, qeq, nltT, nltF, nleT, nleF, neqT, neqF, or_false, false_or, or_true, true_or, or_self, and_true, true_and, and_false, false_and, and_self, not_true_eq_false, not_false_eq_true, ↓reduceIte]
        · intro k b hk hb
          show nrG N r k b < k + 1
          unfold nrG; split <;> omega
        · intro m b hb
          simp (disch := omega) only [f2_closest_c32, f5', qL, qb, qbl, qadd, qmul, qsubm, qdm, qsub, qdiv, qcl, qlt, qle, qeq, nltT, nltF, nleT, nleF, neqT, neqF, or_false, false_or, or_true, true_or, or_self, and_true, true_and, and_false, false_and, and_self, not_true_eq_false, not_false_eq_true, ↓reduceIte]
      have k2 : f12_nearest_c41 n I1 O n 331 (nI r) (nI 0) (nI 1) = some (nI (fo (nrG N r) (Ln N r - N 5) 1 0)) := by
        refine lpF (L := fun m k b => f12_nearest_c41 n I1 O m 331 (nI r) (nI b) (nI k)) (nrG N r) (fun k b => b < k) (Ln N r - N 5 + 1) nI ?_ ?_ ?_ _ 1 n 0 (by omega) (by omega) (by omega)
        · intro m k b hk hb
          have e2 := m_unlike hn hM1 hN hr (p := k) (by omega)
          have e3 := m_unlike hn hM1 hN hr (p := b) (by omega)
          have c1 := ub k
          have c2 := ub b
          unfold nrG
          by_cases z : uc N r k < uc N r b
          · rw [if_pos z]
            simp (disch := omega) only [f12_nearest_c41, hM1.1, el, m5, e2, e3, qL, qb, qbl, qadd, qmul, qsubm, qdm, qsub, qdiv, qcl, qlt, qle, qeq, nltT, nltF, nleT, nleF, neqT, neqF, or_false, false_or, or_true, true_or, or_self, and_true, true_and, and_false, false_and, and_self, not_true_eq_false, not_false_eq_true, ↓reduceIte]
          · rw [if_neg z]
            simp (disch := omega) only [f12_nearest_c41, hM1.1, el, m5, e2, e3, qL, qb, qbl, qadd, qmul, qsubm, qdm, qsub, qdiv, qcl, qlt, qle, qeq, nltT, nltF, nleT, nleF, neqT, neqF, or_false, false_or, or_true, true_or, or_self, and_true, true_and, and_false, false_and, and_self, not_true_eq_false, not_false_eq_true, ↓reduceIte]
        · intro k b hk hb
          show nrG N r k b < k + 1
          unfold nrG; split <;> omega
        · intro m b hb
          simp (disch := omega) only [f12_nearest_c41, hM1.1, el, m5, qL, qb, qbl, qadd, qmul, qsubm, qdm, qsub, qdiv, qcl, qlt, qle, qeq, nltT, nltF, nleT, nleF, neqT, neqF, or_false, false_or, or_true, true_or, or_self, and_true, true_and, and_false, false_and, and_self, not_true_eq_false, not_false_eq_true, ↓reduceIte]
      have k0 : f2_closest_c32 n O n I1 287 2 (nI (Ln N r)) (-nI 1) (nI 9) (nI 0) = f2_closest_c32 n O n' I1 287 2 (nI (Ln N r)) (nI 0) (nI (uc N r 0)) (nI 1) := by
        have e2 := x_unlike hn hO hN hF1 hr g1 (p := 0) (by omega)
        have c1 := ub 0
        have : ∀ n1, f2_closest_c32 n O (n1 + 1) I1 287 2 (nI (Ln N r)) (-nI 1) (nI 9) (nI 0) = f2_closest_c32 n O n1 I1 287 2 (nI (Ln N r)) (nI 0) (nI (uc N r 0)) (nI 1) := by
          intro n1
          simp (disch := omega) only [f2_closest_c32, f5', e2, qL, qb, qbl, qadd, qmul, qsubm, qdm, qsub, qdiv, qcl, qlt, qle, qeq, nltT, nltF, nleT, nleF, neqT, neqF, or_false, false_or, or_true, true_or, or_self, and_true, true_and, and_false, false_and, and_self, not_true_eq_false, not_false_eq_true, ↓reduceIte]
        have t := this n'
        rw [← hn'] at t
        exact t
      refine ⟨nI (fo (nrG N r) (Ln N r - N 5) 1 0), I1, ?_, ?_, N, G, e, f, tp, r1⟩
      · simp (disch := omega) only [f11_nearest, f2_closest, o_1_0 hO, o_1_1 hO, o_1_2 hO, o_1_3 hO, o_1_4 hO, o_1_5 hO, o_1_6 hO, o_1_7 hO, o_1_8 hO, o_1_9 hO, o_2_0 hO, o_2_1 hO, o_2_2 hO, o_2_3 hO, o_2_4 hO, o_2_5 hO, o_3_0 hO, o_3_1 hO, o_3_2 hO, o_6_0 hO, o_6_1 hO, o_6_2 hO, o_10_0 hO, o_331_0 hO, o_287_0 hO, x_hasRoll hV hB hr, f5, e1, k0, k1, qL, qb, qbl, qadd, qmul, qsubm, qdm, qsub, qdiv, qcl, qlt, qle, qeq, nltT, nltF, nleT, nleF, neqT, neqF, or_false, false_or, or_true, true_or, or_self, and_true, true_and, and_false, false_and, and_self, not_true_eq_false, not_false_eq_true, ↓reduceIte]
      · simp (disch := omega) only [f12_nearest, m_isRoll hM1 hB hr, hM1.1, m5, el, k2, qL, qb, qbl, qadd, qmul, qsubm, qdm, qsub, qdiv, qcl, qlt, qle, qeq, nltT, nltF, nleT, nleF, neqT, neqF, or_false, false_or, or_true, true_or, or_self, and_true, true_and, and_false, false_and, and_self, not_true_eq_false, not_false_eq_true, ↓reduceIte]
    · have k0 : f2_closest_c32 n O n I1 287 2 (nI (Ln N r)) (-nI 1) (nI 9) (nI 0) = some (-nI 1, I1) := by
        have : ∀ n1, f2_closest_c32 n O (n1 + 1) I1 287 2 (nI (Ln N r)) (-nI 1) (nI 9) (nI 0) = some (-nI 1, I1) := by
          intro n1
          simp (disch := omega) only [f2_closest_c32, f5', qL, qb, qbl, qadd, qmul, qsubm, qdm, qsub, qdiv, qcl, qlt, qle, qeq, nltT, nltF, nleT, nleF, neqT, neqF, or_false, false_or, or_true, true_or, or_self, and_true, true_and, and_false, false_and, and_self, not_true_eq_false, not_false_eq_true, ↓reduceIte]
        have t := this n'
        rw [← hn'] at t
        exact t
      refine ⟨-1, I1, ?_, ?_, N, G, e, f, tp, r1⟩
      · simp (disch := omega) only [f11_nearest, f2_closest, o_1_0 hO, o_1_1 hO, o_1_2 hO, o_1_3 hO, o_1_4 hO, o_1_5 hO, o_1_6 hO, o_1_7 hO, o_1_8 hO, o_1_9 hO, o_2_0 hO, o_2_1 hO, o_2_2 hO, o_2_3 hO, o_2_4 hO, o_2_5 hO, o_3_0 hO, o_3_1 hO, o_3_2 hO, o_6_0 hO, o_6_1 hO, o_6_2 hO, o_10_0 hO, o_331_0 hO, o_287_0 hO, x_hasRoll hV hB hr, f5, e1, k0, qL, qb, qbl, qadd, qmul, qsubm, qdm, qsub, qdiv, qcl, qlt, qle, qeq, nltT, nltF, nleT, nleF, neqT, neqF, or_false, false_or, or_true, true_or, or_self, and_true, true_and, and_false, false_and, and_self, not_true_eq_false, not_false_eq_true, ↓reduceIte]
      · simp (disch := omega) only [f12_nearest, m_isRoll hM1 hB hr, hM1.1, m5, el, qL, qb, qbl, qadd, qmul, qsubm, qdm, qsub, qdiv, qcl, qlt, qle, qeq, nltT, nltF, nleT, nleF, neqT, neqF, or_false, false_or, or_true, true_or, or_self, and_true, true_and, and_false, false_and, and_self, not_true_eq_false, not_false_eq_true, ↓reduceIte]
  · refine ⟨-1, I, ?_, ?_, N, G, e, f, tp, h⟩
    · simp (disch := omega) only [f11_nearest, o_1_0 hO, o_1_1 hO, o_1_2 hO, o_1_3 hO, o_1_4 hO, o_1_5 hO, o_1_6 hO, o_1_7 hO, o_1_8 hO, o_1_9 hO, o_2_0 hO, o_2_1 hO, o_2_2 hO, o_2_3 hO, o_2_4 hO, o_2_5 hO, o_3_0 hO, o_3_1 hO, o_3_2 hO, o_6_0 hO, o_6_1 hO, o_6_2 hO, o_10_0 hO, o_331_0 hO, x_noRoll hV hB h1, qL, qb, qbl, qadd, qmul, qsubm, qdm, qsub, qdiv, qcl, qlt, qle, qeq, nltT, nltF, nleT, nleF, neqT, neqF, or_false, false_or, or_true, true_or, or_self, and_true, true_and, and_false, false_and, and_self, not_true_eq_false, not_false_eq_true, ↓reduceIte]
    · simp (disch := omega) only [f12_nearest, m_noRoll hM hB h1, qL, qb, qbl, qadd, qmul, qsubm, qdm, qsub, qdiv, qcl, qlt, qle, qeq, nltT, nltF, nleT, nleF, neqT, neqF, or_false, false_or, or_true, true_or, or_self, and_true, true_and, and_false, false_and, and_self, not_true_eq_false, not_false_eq_true, ↓reduceIte]
/-! loved, dumb -/
def aw (N : TN) (r : Nat) : Nat := fo (fun p c => c + Wr N r p) (Ln N r) 0 0
theorem x_allWear (hn : 100000 ≤ n) {wa sz ky mo wr hr' : Nat} (hV : WV I O wa sz ky mo wr hr' N) (hB : WB N) {r : Nat} (hr : r < N 0) : f10_allWear n I O wa (nI r) = some (nI (aw N r)) := by
  have b1 := hB.1
  have l1 := hB.2.2.1 r (by omega)
  refine lpF (L := fun m k c => f10_allWear_c4 n I O m wa (nI r) (nI c) (nI k)) (fun p c => c + Wr N r p) (fun k c => c ≤ 9 * k) (Ln N r) nI ?_ ?_ ?_ _ 0 n 0 (by omega) (by omega) (Nat.zero_le _)
  · intro m k c hk hc
    have e1 := x_size hV hB hr
    have e2 := x_wearAt hV hB hr hk
    simp (disch := omega) only [f10_allWear_c4, e1, e2, qL, qb, qbl, qadd, qmul, qsubm, qdm, qsub, qdiv, qcl, qlt, qle, qeq, nltT, nltF, nleT, nleF, neqT, neqF, or_false, false_or, or_true, true_or, or_self, and_true, true_and, and_false, false_and, and_self, not_true_eq_false, not_false_eq_true, ↓reduceIte]
  · intro k c hk hc
    have := hB.2.2.2.2.2.1 r k (by omega) (by omega)
    show c + Wr N r k ≤ 9 * (k + 1)
    omega
  · intro m c hc
    have e1 := x_size hV hB hr
    simp (disch := omega) only [f10_allWear_c4, e1, qL, qb, qbl, qadd, qmul, qsubm, qdm, qsub, qdiv, qcl, qlt, qle, qeq, nltT, nltF, nleT, nleF, neqT, neqF, or_false, false_or, or_true, true_or, or_self, and_true, true_and, and_false, false_and, and_self, not_true_eq_false, not_false_eq_true, ↓reduceIte]
theorem aw_le (hB : WB N) {r : Nat} (hr : r < N 0) : aw N r ≤ 144 := by
  have b1 := hB.1
  have l1 := hB.2.2.1 r (by omega)
  have := foI (fun p c => c + Wr N r p) (fun k c => c ≤ 9 * k) (Ln N r) (fun k c hk hc => by
    have := hB.2.2.2.2.2.1 r k (by omega) (by omega)
    show c + Wr N r k ≤ 9 * (k + 1)
    omega) (Ln N r) 0 0 (by omega) (Nat.zero_le _)
  have e : aw N r = fo (fun p c => c + Wr N r p) (Ln N r) 0 0 := rfl
  omega
theorem m_wornIn (hn : 100000 ≤ n) (hM : MV J O N) (hB : WB N) {r : Nat} (hr : r < N 0) : f12_wornIn n J O 331 (nI r) = some (nI (aw N r)) := by
  have b1 := hB.1
  have l1 := hB.2.2.1 r (by omega)
  have el := m_len hM (r := r) (by omega)
  refine lpF (L := fun m k c => f12_wornIn_c4 n J O m 331 (nI r) (nI c) (nI k)) (fun p c => c + Wr N r p) (fun k c => c ≤ 9 * k) (Ln N r) nI ?_ ?_ ?_ _ 0 n 0 (by omega) (by omega) (Nat.zero_le _)
  · intro m k c hk hc
    have e2 := m_wearOf hM (r := r) (p := k) (by omega) (by omega)
    simp (disch := omega) only [f12_wornIn_c4, hM.1, el, e2, qL, qb, qbl, qadd, qmul, qsubm, qdm, qsub, qdiv, qcl, qlt, qle, qeq, nltT, nltF, nleT, nleF, neqT, neqF, or_false, false_or, or_true, true_or, or_self, and_true, true_and, and_false, false_and, and_self, not_true_eq_false, not_false_eq_true, ↓reduceIte]
  · intro k c hk hc
    have := hB.2.2.2.2.2.1 r k (by omega) (by omega)
    show c + Wr N r k ≤ 9 * (k + 1)
    omega
  · intro m c hc
    simp (disch := omega) only [f12_wornIn_c4, hM.1, el, qL, qb, qbl, qadd, qmul, qsubm, qdm, qsub, qdiv, qcl, qlt, qle, qeq, nltT, nltF, nleT, nleF, neqT, neqF, or_false, false_or, or_true, true_or, or_self, and_true, true_and, and_false, false_and, and_self, not_true_eq_false, not_false_eq_true, ↓reduceIte]
/-- the first of the most: none at first -/
def bsG (w : Nat → Nat) (k : Nat) (s : Int32 × Nat) : Int32 × Nat := if s.2 < w k then (nI k, w k) else s
def bsI (w : Nat → Nat) (k : Nat) (s : Int32 × Nat) : Prop := (s.1 = -nI 1 ∧ s.2 = 0) ∨ ∃ j, j < k ∧ s.1 = nI j ∧ s.2 = w j
theorem bsI_s {w : Nat → Nat} {k : Nat} {s : Int32 × Nat} (h : bsI w k s) : bsI w (k + 1) (bsG w k s) := by
  unfold bsG; split
  · exact Or.inr ⟨k, by omega, rfl, rfl⟩
  · rcases h with h | ⟨j, h1, h2⟩
    · exact Or.inl h
    · exact Or.inr ⟨j, by omega, h2⟩
theorem s_loved (hn : 100000 ≤ n) (h : RE TX I O) : ∃ (v : Int32), f11_loved n I O 1 = some v ∧ f12_loved n I O 331 = some v ∧ RE TX I O := by
  have h0 := h
  obtain ⟨N, G, e, f, tp, h⟩ := h
  have hO := h.1
  have hV := RW_WV hO h.2.2.2.2.2.2.1
  have hN := h.2.2.2.1
  have hB := NB_WB hN
  have hM := h.2.1
  have hF := RW_fd h.2.2.2.2.2.2.1
  have b0 : N 0 ≤ 5 := hB.1
  have b1 : N 1 ≤ 4 := hB.2.1
  have v3 := hV.2.1
  have w3 := hM.2 0 (by omega)
  refine ⟨(fo (bsG (aw N)) (N 0) 0 (-nI 1, 0)).1, ?_, ?_, h0⟩
  · refine lpF (L := fun m k (s : Int32 × Nat) => f11_loved_c6 n I O m 1 s.1 (nI s.2) (nI k)) (bsG (aw N)) (fun k s => s.2 ≤ 144) (N 0) (fun s => s.1) ?_ ?_ ?_ _ 0 n (-nI 1, 0) (by omega) (by omega) (Nat.zero_le _)
    · intro m k s hk hs
      have e1 := x_allWear hn hV hB hk
      have a1 := aw_le hB hk
      unfold bsG
      by_cases z : s.2 < aw N k
      · rw [if_pos z]
        simp (disch := omega) only [f11_loved_c6, o_1_0 hO, o_1_1 hO, o_1_2 hO, o_1_3 hO, o_1_4 hO, o_1_5 hO, o_1_6 hO, o_1_7 hO, o_1_8 hO, o_1_9 hO, o_2_0 hO, o_2_1 hO, o_2_2 hO, o_2_3 hO, o_2_4 hO, o_2_5 hO, o_3_0 hO, o_3_1 hO, o_3_2 hO, o_6_0 hO, o_6_1 hO, o_6_2 hO, o_10_0 hO, o_331_0 hO, v3, e1, qL, qb, qbl, qadd, qmul, qsubm, qdm, qsub, qdiv, qcl, qlt, qle, qeq, nltT, nltF, nleT, nleF, neqT, neqF, or_false, false_or, or_true, true_or, or_self, and_true, true_and, and_false, false_and, and_self, not_true_eq_false, not_false_eq_true, ↓reduceIte]
      · rw [if_neg z]
        simp (disch := omega) only [f11_loved_c6, o_1_0 hO, o_1_1 hO, o_1_2 hO, o_1_3 hO, o_1_4 hO, o_1_5 hO, o_1_6 hO, o_1_7 hO, o_1_8 hO, o_1_9 hO, o_2_0 hO, o_2_1 hO, o_2_2 hO, o_2_3 hO, o_2_4 hO, o_2_5 hO, o_3_0 hO, o_3_1 hO, o_3_2 hO, o_6_0 hO, o_6_1 hO, o_6_2 hO, o_10_0 hO, o_331_0 hO, v3, e1, qL, qb, qbl, qadd, qmul, qsubm, qdm, qsub, qdiv, qcl, qlt, qle, qeq, nltT, nltF, nleT, nleF, neqT, neqF, or_false, false_or, or_true, true_or, or_self, and_true, true_and, and_false, false_and, and_self, not_true_eq_false, not_false_eq_true, ↓reduceIte]
    · intro k s hk hs
      have a1 := aw_le hB hk
      show (bsG (aw N) k s).2 ≤ 144
      unfold bsG; split
      · exact a1
      · exact hs
    · intro m s hs
      simp (disch := omega) only [f11_loved_c6, o_1_0 hO, o_1_1 hO, o_1_2 hO, o_1_3 hO, o_1_4 hO, o_1_5 hO, o_1_6 hO, o_1_7 hO, o_1_8 hO, o_1_9 hO, o_2_0 hO, o_2_1 hO, o_2_2 hO, o_2_3 hO, o_2_4 hO, o_2_5 hO, o_3_0 hO, o_3_1 hO, o_3_2 hO, o_6_0 hO, o_6_1 hO, o_6_2 hO, o_10_0 hO, o_331_0 hO, v3, qL, qb, qbl, qadd, qmul, qsubm, qdm, qsub, qdiv, qcl, qlt, qle, qeq, nltT, nltF, nleT, nleF, neqT, neqF, or_false, false_or, or_true, true_or, or_self, and_true, true_and, and_false, false_and, and_self, not_true_eq_false, not_false_eq_true, ↓reduceIte]
  · refine lpF (L := fun m k (s : Int32 × Nat) => f12_loved_c4 n I O m 331 s.1 (nI k)) (bsG (aw N)) (bsI (aw N)) (N 0) (fun s => s.1) ?_ (fun k s hk hs => bsI_s hs) ?_ _ 0 n (-nI 1, 0) (by omega) (by omega) (Or.inl ⟨rfl, rfl⟩)
    · intro m k s hk hs
      have e1 := m_wornIn hn hM hB hk
      have a1 := aw_le hB hk
      unfold bsG
      rcases hs with ⟨q1, q2⟩ | ⟨j, hj, q1, q2⟩
      · by_cases z : s.2 < aw N k
        · rw [if_pos z]
          simp (disch := omega) only [f12_loved_c4, hM.1, w3, e1, q1, qL, qb, qbl, qadd, qmul, qsubm, qdm, qsub, qdiv, qcl, qlt, qle, qeq, nltT, nltF, nleT, nleF, neqT, neqF, or_false, false_or, or_true, true_or, or_self, and_true, true_and, and_false, false_and, and_self, not_true_eq_false, not_false_eq_true, ↓reduceIte]
        · rw [if_neg z]
          simp (disch := omega) only [f12_loved_c4, hM.1, w3, e1, q1, qL, qb, qbl, qadd, qmul, qsubm, qdm, qsub, qdiv, qcl, qlt, qle, qeq, nltT, nltF, nleT, nleF, neqT, neqF, or_false, false_or, or_true, true_or, or_self, and_true, true_and, and_false, false_and, and_self, not_true_eq_false, not_false_eq_true, ↓reduceIte]
      · have e2 := m_wornIn hn hM hB (r := j) (by omega)
        have a2 := aw_le hB (r := j) (by omega)
        have ne : ¬ nI j = -nI 1 := fun q => by
          have q' := i_eq.mp q
          rw [qtoI (by omega), show (-nI 1).toInt = -1 from lm1] at q'; omega
        by_cases z : s.2 < aw N k
        · rw [if_pos z]
          simp (disch := omega) only [f12_loved_c4, hM.1, w3, e1, q1, ne, e2, qL, qb, qbl, qadd, qmul, qsubm, qdm, qsub, qdiv, qcl, qlt, qle, qeq, nltT, nltF, nleT, nleF, neqT, neqF, or_false, false_or, or_true, true_or, or_self, and_true, true_and, and_false, false_and, and_self, not_true_eq_false, not_false_eq_true, ↓reduceIte]
        · rw [if_neg z]
          simp (disch := omega) only [f12_loved_c4, hM.1, w3, e1, q1, ne, e2, qL, qb, qbl, qadd, qmul, qsubm, qdm, qsub, qdiv, qcl, qlt, qle, qeq, nltT, nltF, nleT, nleF, neqT, neqF, or_false, false_or, or_true, true_or, or_self, and_true, true_and, and_false, false_and, and_self, not_true_eq_false, not_false_eq_true, ↓reduceIte]
    · intro m s hs
      simp (disch := omega) only [f12_loved_c4, hM.1, w3, qL, qb, qbl, qadd, qmul, qsubm, qdm, qsub, qdiv, qcl, qlt, qle, qeq, nltT, nltF, nleT, nleF, neqT, neqF, or_false, false_or, or_true, true_or, or_self, and_true, true_and, and_false, false_and, and_self, not_true_eq_false, not_false_eq_true, ↓reduceIte]
def dmB (N : TN) (r : Nat) : Bool := fnd (holeB N r) (Ln N r) 0 == Ln N r
theorem x_isDumb (hn : 100000 ≤ n) (hV : WV I O 3 4 5 6 7 8 N) (hB : WB N) {r : Nat} (hr : r < N 0) : f10_isDumb n I O 3 (nI r) = some (if dmB N r then 1 else 0) := by
  have b1 := hB.1
  have l1 := hB.2.2.1 r (by omega)
  have e1 := x_size hV hB hr
  have hh : f10_isDumb n I O 3 (nI r) = (fun k => some (if k = Ln N r then nI 1 else nI 0)) (fnd (holeB N r) (Ln N r) 0) := by
    refine lpE (L := fun m k => f10_isDumb_c2 n I O m 3 (nI r) (nI k)) (holeB N r) (Ln N r) (fun k => some (if k = Ln N r then nI 1 else nI 0)) ?_ ?_ (Ln N r) 0 n (by omega) (by omega)
    · intro m k hk
      have e2 := x_sounds hV hB hr hk
      cases z : holeB N r k
      · simp (disch := omega) only [f10_isDumb_c2, e1, e2, z, Bool.false_eq_true, qL, qb, qbl, qadd, qmul, qsubm, qdm, qsub, qdiv, qcl, qlt, qle, qeq, nltT, nltF, nleT, nleF, neqT, neqF, or_false, false_or, or_true, true_or, or_self, and_true, true_and, and_false, false_and, and_self, not_true_eq_false, not_false_eq_true, ↓reduceIte]
      · simp (disch := omega) only [f10_isDumb_c2, e1, e2, z, qL, qb, qbl, qadd, qmul, qsubm, qdm, qsub, qdiv, qcl, qlt, qle, qeq, nltT, nltF, nleT, nleF, neqT, neqF, or_false, false_or, or_true, true_or, or_self, and_true, true_and, and_false, false_and, and_self, not_true_eq_false, not_false_eq_true, ↓reduceIte]
    · intro m
      simp (disch := omega) only [f10_isDumb_c2, e1, qL, qb, qbl, qadd, qmul, qsubm, qdm, qsub, qdiv, qcl, qlt, qle, qeq, nltT, nltF, nleT, nleF, neqT, neqF, or_false, false_or, or_true, true_or, or_self, and_true, true_and, and_false, false_and, and_self, not_true_eq_false, not_false_eq_true, ↓reduceIte]
  rw [hh]
  unfold dmB
  by_cases z : fnd (holeB N r) (Ln N r) 0 = Ln N r
  · simp only [z, beq_self_eq_true, if_true]; rfl
  · rw [beq_false_of_ne z]; simp only [z, if_false, Bool.false_eq_true]; rfl
theorem fnd_s (P : Nat → Bool) : ∀ d k, fnd P (d + 1) k = if fnd P d k = k + d then (if P (k + d) then k + d else k + d + 1) else fnd P d k := by
  intro d
  induction d with
  | zero =>
    intro k
    have e : fnd P 0 k = k + 0 := rfl
    rw [if_pos e]; rfl
  | succ d ih =>
    intro k
    have e := ih (k + 1)
    have l := fnd_le P d (k + 1)
    cases z : P k
    · have z1 : ∀ x, fnd P (x + 1) k = fnd P x (k + 1) := fun x => by
        show (if P k = true then k else fnd P x (k + 1)) = _
        rw [z]; rfl
      rw [z1 (d + 1), z1 d, e, show k + 1 + d = k + (d + 1) by omega]
    · have z1 : ∀ x, fnd P (x + 1) k = k := fun x => by
        show (if P k = true then k else fnd P x (k + 1)) = _
        rw [z]; rfl
      rw [z1, z1, if_neg (by omega)]
def duG (N : TN) (k : Nat) (b : Int32) : Int32 := if dmB N k then b ||| (nI 1 <<< (nI k &&& nI 31)) else b
theorem and11 : nI 1 &&& nI 1 = nI 1 := by decide
theorem and10 : nI 1 &&& nI 0 = nI 0 := by decide
theorem and01 : nI 0 &&& nI 1 = nI 0 := by decide
theorem and00 : nI 0 &&& nI 0 = nI 0 := by decide
theorem s_dumb (hn : 100000 ≤ n) (h : RE TX I O) : ∃ (v : Int32), f11_dumb n I O 1 = some v ∧ f12_dumb n I O 331 = some v ∧ RE TX I O := by
  have h0 := h
  obtain ⟨N, G, e, f, tp, h⟩ := h
  have hO := h.1
  have hV := RW_WV hO h.2.2.2.2.2.2.1
  have hN := h.2.2.2.1
  have hB := NB_WB hN
  have hM := h.2.1
  have hF := RW_fd h.2.2.2.2.2.2.1
  have b0 : N 0 ≤ 5 := hB.1
  have b1 : N 1 ≤ 4 := hB.2.1
  have v3 := hV.2.1
  have w3 := hM.2 0 (by omega)
  refine ⟨fo (duG N) (N 0) 0 (nI 0), ?_, ?_, h0⟩
  · refine lpF (L := fun m k b => f11_dumb_c4 n I O m 1 b (nI k)) (duG N) (fun _ _ => True) (N 0) (fun s => s) ?_ (fun _ _ _ _ => trivial) ?_ _ 0 n (nI 0) (by omega) (by omega) trivial
    · intro m k b hk _
      have e1 := x_isDumb hn hV hB hk
      unfold duG
      cases z : dmB N k
      · simp (disch := omega) only [f11_dumb_c4, o_1_0 hO, o_1_1 hO, o_1_2 hO, o_1_3 hO, o_1_4 hO, o_1_5 hO, o_1_6 hO, o_1_7 hO, o_1_8 hO, o_1_9 hO, o_2_0 hO, o_2_1 hO, o_2_2 hO, o_2_3 hO, o_2_4 hO, o_2_5 hO, o_3_0 hO, o_3_1 hO, o_3_2 hO, o_6_0 hO, o_6_1 hO, o_6_2 hO, o_10_0 hO, o_331_0 hO, v3, e1, z, Bool.false_eq_true, qL, qb, qbl, qadd, qmul, qsubm, qdm, qsub, qdiv, qcl, qlt, qle, qeq, nltT, nltF, nleT, nleF, neqT, neqF, or_false, false_or, or_true, true_or, or_self, and_true, true_and, and_false, false_and, and_self, not_true_eq_false, not_false_eq_true, ↓reduceIte]
      · simp (disch := omega) only [f11_dumb_c4, o_1_0 hO, o_1_1 hO, o_1_2 hO, o_1_3 hO, o_1_4 hO, o_1_5 hO, o_1_6 hO, o_1_7 hO, o_1_8 hO, o_1_9 hO, o_2_0 hO, o_2_1 hO, o_2_2 hO, o_2_3 hO, o_2_4 hO, o_2_5 hO, o_3_0 hO, o_3_1 hO, o_3_2 hO, o_6_0 hO, o_6_1 hO, o_6_2 hO, o_10_0 hO, o_331_0 hO, v3, e1, z, qL, qb, qbl, qadd, qmul, qsubm, qdm, qsub, qdiv, qcl, qlt, qle, qeq, nltT, nltF, nleT, nleF, neqT, neqF, or_false, false_or, or_true, true_or, or_self, and_true, true_and, and_false, false_and, and_self, not_true_eq_false, not_false_eq_true, ↓reduceIte]
    · intro m b _
      simp (disch := omega) only [f11_dumb_c4, o_1_0 hO, o_1_1 hO, o_1_2 hO, o_1_3 hO, o_1_4 hO, o_1_5 hO, o_1_6 hO, o_1_7 hO, o_1_8 hO, o_1_9 hO, o_2_0 hO, o_2_1 hO, o_2_2 hO, o_2_3 hO, o_2_4 hO, o_2_5 hO, o_3_0 hO, o_3_1 hO, o_3_2 hO, o_6_0 hO, o_6_1 hO, o_6_2 hO, o_10_0 hO, o_331_0 hO, v3, qL, qb, qbl, qadd, qmul, qsubm, qdm, qsub, qdiv, qcl, qlt, qle, qeq, nltT, nltF, nleT, nleF, neqT, neqF, or_false, false_or, or_true, true_or, or_self, and_true, true_and, and_false, false_and, and_self, not_true_eq_false, not_false_eq_true, ↓reduceIte]
  · refine lpF (L := fun m k b => f12_dumb_c4 n I O m 331 b (nI k)) (duG N) (fun _ _ => True) (N 0) (fun s => s) ?_ (fun _ _ _ _ => trivial) ?_ _ 0 n (nI 0) (by omega) (by omega) trivial
    · intro m k b hk _
      have l1 := hB.2.2.1 k (by omega)
      have el := m_len hM (r := k) (by omega)
      have oz : b ||| nI 0 = b := Int32.or_zero
      have st : f12_dumb_c4 n I O (m + 1) 331 b (nI k) = f12_dumb_c19 n I O (f12_dumb_c4 n I O m) n 331 b (nI k) (nI 1) (nI 0) := by
        simp (disch := omega) only [f12_dumb_c4, hM.1, w3, qL, qb, qbl, qadd, qmul, qsubm, qdm, qsub, qdiv, qcl, qlt, qle, qeq, nltT, nltF, nleT, nleF, neqT, neqF, or_false, false_or, or_true, true_or, or_self, and_true, true_and, and_false, false_and, and_self, not_true_eq_false, not_false_eq_true, ↓reduceIte]
      show f12_dumb_c4 n I O (m + 1) 331 b (nI k) = _
      rw [st]
      refine lpR (L := fun m' p y => f12_dumb_c19 n I O (f12_dumb_c4 n I O m) m' 331 b (nI k) y (nI p)) (fun p y => y = if fnd (holeB N k) p 0 = p then nI 1 else nI 0) (fun res => res = f12_dumb_c4 n I O m 331 (duG N k b) (nI (k + 1))) (Ln N k) ?_ ?_ (Ln N k) 0 n (nI 1) (by omega) (by omega) rfl
      · intro m' p y hp hy
        left
        have e2 := m_isHole hM hB (r := k) (p := p) (by omega) (by omega)
        have l := fnd_le (holeB N k) p 0
        refine ⟨_, rfl, ?_⟩
        rw [fnd_s, Nat.zero_add]
        by_cases z1 : fnd (holeB N k) p 0 = p
        · rw [if_pos z1] at hy ⊢
          cases z : holeB N k p
          · rw [if_neg Bool.false_ne_true, if_pos rfl]
            simp (disch := omega) only [f12_dumb_c19, hM.1, el, e2, z, hy, Bool.false_eq_true, and11, qL, qb, qbl, qadd, qmul, qsubm, qdm, qsub, qdiv, qcl, qlt, qle, qeq, nltT, nltF, nleT, nleF, neqT, neqF, or_false, false_or, or_true, true_or, or_self, and_true, true_and, and_false, false_and, and_self, not_true_eq_false, not_false_eq_true, ↓reduceIte]
          · rw [if_pos rfl, if_neg (by omega)]
            simp (disch := omega) only [f12_dumb_c19, hM.1, el, e2, z, hy, and10, qL, qb, qbl, qadd, qmul, qsubm, qdm, qsub, qdiv, qcl, qlt, qle, qeq, nltT, nltF, nleT, nleF, neqT, neqF, or_false, false_or, or_true, true_or, or_self, and_true, true_and, and_false, false_and, and_self, not_true_eq_false, not_false_eq_true, ↓reduceIte]
        · rw [if_neg z1] at hy ⊢
          rw [if_neg (by omega)]
          cases z : holeB N k p
          · simp (disch := omega) only [f12_dumb_c19, hM.1, el, e2, z, hy, Bool.false_eq_true, and01, qL, qb, qbl, qadd, qmul, qsubm, qdm, qsub, qdiv, qcl, qlt, qle, qeq, nltT, nltF, nleT, nleF, neqT, neqF, or_false, false_or, or_true, true_or, or_self, and_true, true_and, and_false, false_and, and_self, not_true_eq_false, not_false_eq_true, ↓reduceIte]
          · simp (disch := omega) only [f12_dumb_c19, hM.1, el, e2, z, hy, and00, qL, qb, qbl, qadd, qmul, qsubm, qdm, qsub, qdiv, qcl, qlt, qle, qeq, nltT, nltF, nleT, nleF, neqT, neqF, or_false, false_or, or_true, true_or, or_self, and_true, true_and, and_false, false_and, and_self, not_true_eq_false, not_false_eq_true, ↓reduceIte]
      · intro m' y hy
        unfold duG dmB
        by_cases z1 : fnd (holeB N k) (Ln N k) 0 = Ln N k
        · rw [if_pos z1] at hy
          rw [beq_iff_eq.mpr z1]
          simp (disch := omega) only [f12_dumb_c19, hM.1, el, hy, qL, qb, qbl, qadd, qmul, qsubm, qdm, qsub, qdiv, qcl, qlt, qle, qeq, nltT, nltF, nleT, nleF, neqT, neqF, or_false, false_or, or_true, true_or, or_self, and_true, true_and, and_false, false_and, and_self, not_true_eq_false, not_false_eq_true, ↓reduceIte]
        · rw [if_neg z1] at hy
          rw [beq_false_of_ne z1]
          simp (disch := omega) only [f12_dumb_c19, hM.1, el, hy, oz, Bool.false_eq_true, qL, qb, qbl, qadd, qmul, qsubm, qdm, qsub, qdiv, qcl, qlt, qle, qeq, nltT, nltF, nleT, nleF, neqT, neqF, or_false, false_or, or_true, true_or, or_self, and_true, true_and, and_false, false_and, and_self, not_true_eq_false, not_false_eq_true, ↓reduceIte]
    · intro m b _
      simp (disch := omega) only [f12_dumb_c4, hM.1, w3, qL, qb, qbl, qadd, qmul, qsubm, qdm, qsub, qdiv, qcl, qlt, qle, qeq, nltT, nltF, nleT, nleF, neqT, neqF, or_false, false_or, or_true, true_or, or_self, and_true, true_and, and_false, false_and, and_self, not_true_eq_false, not_false_eq_true, ↓reduceIte]
end FX
