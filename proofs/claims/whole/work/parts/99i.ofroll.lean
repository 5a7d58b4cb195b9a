/-! what a roll is asked -/
theorem nle_i {a b : Nat} (ha : a < 2147483648) (hb : b < 2147483648) (h : b < a) : ¬ nI a ≤ nI b := by
  rw [qle ha hb]; omega
section TE
variable {N : TN} {lw : Lws} {r p : Nat}
def tearN (N : TN) (lw : Lws) (r p : Nat) : Nat → Nat → Nat
  | 0, _ => 0
  | d + 1, w => if 9 ≤ w then 0 else tearN N lw r p d (w + weN N lw r p w) + 1
theorem tearN_9 {d w : Nat} (h : 9 ≤ w) : tearN N lw r p d w = 0 := by
  cases d with
  | zero => rfl
  | succ d => show (if 9 ≤ w then 0 else _) = 0; exact if_pos h
theorem tearN_s {d w : Nat} (h : ¬ 9 ≤ w) : tearN N lw r p (d + 1) w = tearN N lw r p d (w + weN N lw r p w) + 1 := if_neg h
theorem tearN_le : ∀ d w, tearN N lw r p d w ≤ d := by
  intro d
  induction d with
  | zero => intro w; exact Nat.le_refl _
  | succ d ih =>
    intro w
    by_cases h : 9 ≤ w
    · rw [tearN_9 h]; omega
    · rw [tearN_s h]; have := ih (w + weN N lw r p w); omega
theorem tearN_min : ∀ d e w, d ≤ e → min d (tearN N lw r p e w) = tearN N lw r p d w := by
  intro d
  induction d with
  | zero => intro e w _; show min 0 _ = 0; omega
  | succ d ih =>
    intro e w he
    obtain ⟨e, rfl⟩ : ∃ e', e = e' + 1 := ⟨e - 1, by omega⟩
    by_cases h : 9 ≤ w
    · rw [tearN_9 h, tearN_9 h]; omega
    · rw [tearN_s h, tearN_s h, ← ih e _ (by omega)]; omega
theorem tearN_cut {d w : Nat} : tearN N lw r p d (min 9 w) = tearN N lw r p d w := by
  by_cases h : 9 ≤ w
  · rw [tearN_9 h, tearN_9 (show 9 ≤ min 9 w by omega)]
  · rw [show min 9 w = w by omega]
def tearG (N : TN) (lw : Lws) (r p y : Nat) : Nat := if K N r p = 0 then y else min y (tearN N lw r p 99 (Wr N r p))
theorem tearG_le {y : Nat} (h : y ≤ 99) : tearG N lw r p y ≤ 99 := by unfold tearG; split <;> omega
def tearsN (N : TN) (lw : Lws) (r : Nat) : Nat := fo (tearG N lw r) (Ln N r) 0 99
theorem hl_up {t w : Nat} (h0 : 10 ≤ t) (h1 : t < 90) : hlN (upN N t w) = hlN N := by
  funext x
  unfold hlN
  rw [upN_o N (show 0 ≠ t by omega)]
  have e : ∀ r', hc (upN N t w) r' = hc N r' := by
    intro r'
    unfold hc
    have e1 : Ln (upN N t w) r' = Ln N r' := upN_o N (by omega)
    have e2 : hcG (upN N t w) r' = hcG N r' := by
      funext p' c'
      unfold hcG
      rw [show K (upN N t w) r' p' = K N r' p' from upN_o N (by omega)]
    rw [e1, e2]
  rw [e]
theorem we_up {t w w' : Nat} (h0 : 10 ≤ t) (h1 : t < 90) : weN (upN N t w) lw r p w' = weN N lw r p w' := by
  unfold weN
  have e : eW (upN N t w) r p w' = eW N r p w' := by
    unfold eW eN
    rw [hl_up h0 h1, show (upN N t w) 7 = N 7 from upN_o N (by omega), show K (upN N t w) r p = K N r p from upN_o N (by omega)]
  rw [e]
theorem up_up {t a b : Nat} : upN (upN N t a) t b = upN N t b := by
  funext j
  unfold upN
  split <;> rfl
theorem up_self {t : Nat} : upN N t (N t) = N := by
  funext j
  unfold upN
  split
  · next h => rw [h]
  · rfl
end TE
section OR
variable {n : Nat} {I J : TI} {L : TL} {O : TO} {N G : TN} {lw : Lws} {sx : Option Nat}
theorem x_tearAt (hn : 100000 ≤ n) (hO : OF O) (hB : WB N) {r p : Nat} (hr : r < N 0) (hp : p < Ln N r) : ∀ d j m w I, j + d = 99 → d < m → w ≤ 18 → LX0 I sx lw → WV I O 3 4 5 6 7 8 N → ∃ I', f4_playingsToTearPlace_c12 n O m I 286 3 sx (nI r) (nI p) (nI w) (nI j) = some (nI (j + tearN N lw r p d w), I') ∧ JN I I' := by
  intro d
  induction d with
  | zero =>
    intro j m w I hj hm hw hL hV
    obtain ⟨m, rfl⟩ : ∃ m', m = m' + 1 := ⟨m - 1, by omega⟩
    refine ⟨I, ?_, JN_r I⟩
    show _ = some (nI (j + 0), I)
    simp (disch := omega) only [f4_playingsToTearPlace_c12, Nat.add_zero, qL, qb, qbl, qadd, qmul, qsubm, qdm, qsub, qdiv, qcl, qlt, qle, qeq, nltT, nltF, nleT, nleF, neqT, neqF, or_false, false_or, or_true, true_or, or_self, and_true, true_and, and_false, false_and, and_self, not_true_eq_false, not_false_eq_true, ↓reduceIte]
  | succ d ih =>
    intro j m w I hj hm hw hL hV
    obtain ⟨m, rfl⟩ : ∃ m', m = m' + 1 := ⟨m - 1, by omega⟩
    by_cases z : 9 ≤ w
    · refine ⟨I, ?_, JN_r I⟩
      rw [tearN_9 z]
      simp (disch := omega) only [f4_playingsToTearPlace_c12, Nat.add_zero, qL, qb, qbl, qadd, qmul, qsubm, qdm, qsub, qdiv, qcl, qlt, qle, qeq, nltT, nltF, nleT, nleF, neqT, neqF, or_false, false_or, or_true, true_or, or_self, and_true, true_and, and_false, false_and, and_self, not_true_eq_false, not_false_eq_true, ↓reduceIte]
    · obtain ⟨I1, q1, q2⟩ := x_wears hn hO hB hL hV w3 hr hp (w := w) (by omega)
      have wl := weN_le (N := N) (lw := lw) (r := r) (p := p) (w := w)
      obtain ⟨I2, q3, q4⟩ := ih (j + 1) m (w + weN N lw r p w) I1 (by omega) (by omega) (by omega) (LX_fr hL (fun a h1 h2 => q2 a (by omega) (by omega) (by omega))) (WV_fr hV (fun a ha => q2 a (by omega) (by omega) (by omega)))
      refine ⟨I2, ?_, JN_t q2 q4⟩
      rw [tearN_s z, show j + (tearN N lw r p d (w + weN N lw r p w) + 1) = j + 1 + tearN N lw r p d (w + weN N lw r p w) by omega, ← q3]
      simp (disch := omega) only [f4_playingsToTearPlace_c12, o_286_0 hO, q1, qL, qb, qbl, qadd, qmul, qsubm, qdm, qsub, qdiv, qcl, qlt, qle, qeq, nltT, nltF, nleT, nleF, neqT, neqF, or_false, false_or, or_true, true_or, or_self, and_true, true_and, and_false, false_and, and_self, not_true_eq_false, not_false_eq_true, ↓reduceIte]
theorem x_tears (hn : 100000 ≤ n) (hO : OF O) (hB : WB N) (hL : LX0 I sx lw) (hV : WV I O 3 4 5 6 7 8 N) {r : Nat} (hr : r < N 0) : ∃ I', f4_playingsToTear n I O 286 3 sx (nI r) = some (nI (tearsN N lw r), I') ∧ JN I I' := by
  have b1 := hB.1
  have l1 := hB.2.2.1 r (by omega)
  refine lpR (L := fun m k (s : TI × Nat) => f4_playingsToTear_c7 n O m s.1 286 3 sx (nI r) (nI s.2) (nI k)) (fun k s => JN I s.1 ∧ s.2 = fo (tearG N lw r) k 0 99 ∧ s.2 ≤ 99) (fun res => ∃ I', res = some (nI (tearsN N lw r), I') ∧ JN I I') (Ln N r) ?_ ?_ (Ln N r) 0 n (I, 99) (by omega) (by omega) ⟨JN_r I, rfl, Nat.le_refl _⟩
  · intro m k s hk ⟨k1, k2, k3⟩
    left
    have hV' : WV s.1 O 3 4 5 6 7 8 N := WV_fr hV (fun a ha => k1 a (by omega) (by omega) (by omega))
    have hL' : LX0 s.1 sx lw := LX_fr hL (fun a h1 h2 => k1 a (by omega) (by omega) (by omega))
    have es := x_size hV' hB hr
    have ek := x_keyAt hV' hB hr hk
    have ew := x_wearAt hV' hB hr hk
    have kb := hB.2.2.2.2.1 r k (by omega) (by omega)
    have wb := hB.2.2.2.2.2.1 r k (by omega) (by omega)
    have e1 : fo (tearG N lw r) (k + 1) 0 99 = tearG N lw r k s.2 := by rw [fo_s, ← k2, Nat.zero_add]
    by_cases z : K N r k = 0
    · refine ⟨s, ⟨k1, ?_, k3⟩, ?_⟩
      · rw [e1]; unfold tearG; rw [if_pos z]
      · show f4_playingsToTear_c7 n O (m + 1) s.1 286 3 sx (nI r) (nI s.2) (nI k) = f4_playingsToTear_c7 n O m s.1 286 3 sx (nI r) (nI s.2) (nI (k + 1))
        simp (disch := omega) only [f4_playingsToTear_c7, es, ek, z, qL, qb, qbl, qadd, qmul, qsubm, qdm, qsub, qdiv, qcl, qlt, qle, qeq, nltT, nltF, nleT, nleF, neqT, neqF, or_false, false_or, or_true, true_or, or_self, and_true, true_and, and_false, false_and, and_self, not_true_eq_false, not_false_eq_true, ↓reduceIte]
    · obtain ⟨I2, q1, q2⟩ := x_tearAt hn hO hB hr hk 99 0 n (Wr N r k) s.1 (by omega) (by omega) (by omega) hL' hV'
      have tl := tearN_le (N := N) (lw := lw) (r := r) (p := k) 99 (Wr N r k)
      rw [Nat.zero_add] at q1
      have q3 : f4_playingsToTearPlace n s.1 O 286 3 sx (nI r) (nI k) = some (nI (tearN N lw r k 99 (Wr N r k)), I2) := by
        unfold f4_playingsToTearPlace
        rw [ew, qb]
        exact q1
      refine ⟨(I2, tearG N lw r k s.2), ⟨JN_t k1 q2, e1.symm, tearG_le k3⟩, ?_⟩
      show f4_playingsToTear_c7 n O (m + 1) s.1 286 3 sx (nI r) (nI s.2) (nI k) = f4_playingsToTear_c7 n O m I2 286 3 sx (nI r) (nI (tearG N lw r k s.2)) (nI (k + 1))
      unfold tearG
      rw [if_neg z]
      by_cases y : s.2 ≤ tearN N lw r k 99 (Wr N r k)
      · rw [show min s.2 (tearN N lw r k 99 (Wr N r k)) = s.2 by omega]
        simp (disch := omega) only [f4_playingsToTear_c7, es, ek, q3, fJ9_min_7cf53, qL, qb, qbl, qadd, qmul, qsubm, qdm, qsub, qdiv, qcl, qlt, qle, qeq, nltT, nltF, nleT, nleF, neqT, neqF, or_false, false_or, or_true, true_or, or_self, and_true, true_and, and_false, false_and, and_self, not_true_eq_false, not_false_eq_true, ↓reduceIte]
      · rw [show min s.2 (tearN N lw r k 99 (Wr N r k)) = tearN N lw r k 99 (Wr N r k) by omega]
        simp (disch := omega) only [f4_playingsToTear_c7, es, ek, q3, fJ9_min_7cf53, qL, qb, qbl, qadd, qmul, qsubm, qdm, qsub, qdiv, qcl, qlt, qle, qeq, nltT, nltF, nleT, nleF, neqT, neqF, or_false, false_or, or_true, true_or, or_self, and_true, true_and, and_false, false_and, and_self, not_true_eq_false, not_false_eq_true, ↓reduceIte]
  · intro m s ⟨k1, k2, k3⟩
    have hV' : WV s.1 O 3 4 5 6 7 8 N := WV_fr hV (fun a ha => k1 a (by omega) (by omega) (by omega))
    refine ⟨s.1, ?_, k1⟩
    have hz : tearsN N lw r = s.2 := k2.symm
    rw [hz]
    simp (disch := omega) only [f4_playingsToTear_c7, x_size hV' hB hr, qL, qb, qbl, qadd, qmul, qsubm, qdm, qsub, qdiv, qcl, qlt, qle, qeq, nltT, nltF, nleT, nleF, neqT, neqF, or_false, false_or, or_true, true_or, or_self, and_true, true_and, and_false, false_and, and_self, not_true_eq_false, not_false_eq_true, ↓reduceIte]
theorem m_tear96 (hM : MV J O N) {r p w : Nat} (hr : r < 5) (hp : p < 16) {k5 : TI → TL → Nat → Int32 → Int32 → Int32 → Option (Int32 × TI × TL)} {y : Int32} : f12_tearsOf_c96 n O k5 J L 331 (nI r) (nI p) (nI w) y = k5 (sI J 332 (10 + 16 * r + p) (nI w)) L 331 (nI r) y (nI (p + 1)) := by
  have y1 : (10 : Int32) + 16 * nI r + nI p = nI (10 + 16 * r + p) := by
    rw [show (16 : Int32) * nI r = nI (16 * r) from qmul 16 r, show (10 : Int32) + nI (16 * r) = nI (10 + 16 * r) from qadd 10 (16 * r), qadd]
  unfold f12_tearsOf_c96
  rw [y1, if_neg (nI_in (by omega) (by omega)), hM.1, qcl (by omega), qbl, nI_1]
theorem m_tear41 (hn : 100000 ≤ n) (hO : OF O) (hN : NB N) {r p y : Nat} (hr : r < N 0) (hp : p < Ln N r) (hy : y ≤ 99) {k5 : TI → TL → Nat → Int32 → Int32 → Int32 → Option (Int32 × TI × TL)} : ∀ d j m w J L, j + d = y → d < m → w ≤ 9 → LM0 J (N 3) lw → MV J O (upN N (10 + 16 * r + p) w) → ∃ J' L', MV J' O N ∧ JP J J' ∧ f12_tearsOf_c41 n O k5 m J L 331 (nI r) (nI y) (nI p) (nI (Wr N r p)) (nI j) = k5 J' L' 331 (nI r) (nI (j + tearN N lw r p d w)) (nI (p + 1)) := by
  have hB := NB_WB hN
  obtain ⟨p5, p16⟩ := place_lt hB hr hp
  have back : ∀ J w, MV J O (upN N (10 + 16 * r + p) w) → MV (sI J 332 (10 + 16 * r + p) (nI (Wr N r p))) O N := by
    intro J w h
    have t := MV_up (t := 10 + 16 * r + p) (v := Wr N r p) h
    rw [up_up] at t
    rw [show upN N (10 + 16 * r + p) (Wr N r p) = N from up_self] at t
    exact t
  intro d
  induction d with
  | zero =>
    intro j m w J L hj hm hw hL hM
    obtain ⟨m, rfl⟩ : ∃ m', m = m' + 1 := ⟨m - 1, by omega⟩
    refine ⟨_, L, back J w hM, JP_s, ?_⟩
    show _ = k5 _ L 331 (nI r) (nI (j + 0)) (nI (p + 1))
    rw [f12_tearsOf_c41, if_pos (show nI y ≤ nI j by rw [show j = y by omega]; exact Int32.le_refl _), m_tear96 hM p5 p16, Nat.add_zero j]
  | succ d ih =>
    intro j m w J L hj hm hw hL hM
    obtain ⟨m, rfl⟩ : ∃ m', m = m' + 1 := ⟨m - 1, by omega⟩
    have hN' : NB (upN N (10 + 16 * r + p) w) := (PI_w (PI_r hN) p5 p16 hw).2
    have hB' := NB_WB hN'
    have et := m_isTorn hM hB' p5 p16
    have ew := m_wearOf hM p5 p16
    have wv : Wr (upN N (10 + 16 * r + p) w) r p = w := upN_s N _ w
    have nj : ¬ nI y ≤ nI j := nle_i (by omega) (by omega) (by omega)
    have tb : tornB (upN N (10 + 16 * r + p) w) r p = (w == 9) := by unfold tornB; rw [wv]
    by_cases z : 9 ≤ w
    · refine ⟨_, L, back J w hM, JP_s, ?_⟩
      rw [tb, show w = 9 by omega] at et
      rw [f12_tearsOf_c41, if_neg nj, et, qb, if_neg (show ¬ (if ((9 : Nat) == 9) = true then (1 : Int32) else 0) = 0 by decide), m_tear96 hM p5 p16, tearN_9 z, Nat.add_zero j]
    · have t3 : (upN N (10 + 16 * r + p) w) 3 = N 3 := upN_o N (by omega)
      obtain ⟨J1, L1, q1, q2⟩ := m_wearsOf (L := L) hn hO hB' hM (by rw [t3]; exact hL) (r := r) (p := p) (by rw [upN_o N (by omega)]; exact hr) (by rw [show Ln (upN N (10 + 16 * r + p) w) r = Ln N r from upN_o N (by omega)]; exact hp)
      rw [wv, we_up (by omega) (by omega)] at q1
      rw [wv] at ew
      have wl := weN_le (N := N) (lw := lw) (r := r) (p := p) (w := w)
      have hM1 := MV_fr hM (q2 332 (by omega) (by omega))
      have hM2 := MV_up (t := 10 + 16 * r + p) (v := min 9 (w + weN N lw r p w)) hM1
      rw [up_up] at hM2
      obtain ⟨J3, L3, a1, a2, a3⟩ := ih (j + 1) m (min 9 (w + weN N lw r p w)) (sI J1 332 (10 + 16 * r + p) (nI (min 9 (w + weN N lw r p w)))) L1 (by omega) (by omega) (by omega) (LM_fr hL (by rw [sI_o _ _ (by omega)]; exact q2 334 (by omega) (by omega))) hM2
      refine ⟨J3, L3, a1, JP_t (JP_k q2) (JP_t JP_s a2), ?_⟩
      have ec : f12_cut (nI (w + weN N lw r p w)).toInt64 0 9 = some (nI (min 9 (w + weN N lw r p w))) := m_cutN (a := w + weN N lw r p w) (M := 9) (by omega) (by omega)
      have y1 : (10 : Int32) + 16 * nI r + nI p = nI (10 + 16 * r + p) := by
        rw [show (16 : Int32) * nI r = nI (16 * r) from qmul 16 r, show (10 : Int32) + nI (16 * r) = nI (10 + 16 * r) from qadd 10 (16 * r), qadd]
      rw [tb, show (w == 9) = false by rw [beq_eq_false_iff_ne]; omega] at et
      rw [tearN_s z, show j + (tearN N lw r p d (w + weN N lw r p w) + 1) = j + 1 + tearN N lw r p d (w + weN N lw r p w) by omega, ← tearN_cut (w := w + weN N lw r p w), ← a3]
      rw [f12_tearsOf_c41, if_neg nj, et, qb, if_pos (show (if (false : Bool) = true then (1 : Int32) else 0) = 0 by decide), ew, qb, q1, qb]
      dsimp only
      rw [qadd, ec, qb, y1, if_neg (nI_in (by omega) (by omega)), hM.1, qcl (by omega), qbl, nI_1]
theorem m_tears (hn : 100000 ≤ n) (hO : OF O) (hN : NB N) (hM : MV J O N) (hL : LM0 J (N 3) lw) {r : Nat} (hr : r < N 0) : ∃ J' L', f12_tearsOf n J L O 331 (nI r) = some (nI (tearsN N lw r), J', L') ∧ MV J' O N ∧ JP J J' := by
  have hB := NB_WB hN
  have b1 := hB.1
  have l1 := hB.2.2.1 r (by omega)
  refine lpR (L := fun m k (s : TI × TL × Nat) => f12_tearsOf_c5 n O m s.1 s.2.1 331 (nI r) (nI s.2.2) (nI k)) (fun k s => MV s.1 O N ∧ JP J s.1 ∧ s.2.2 = fo (tearG N lw r) k 0 99 ∧ s.2.2 ≤ 99) (fun res => ∃ J' L', res = some (nI (tearsN N lw r), J', L') ∧ MV J' O N ∧ JP J J') (Ln N r) ?_ ?_ (Ln N r) 0 n (J, L, 99) (by omega) (by omega) ⟨hM, JP_r J, rfl, Nat.le_refl _⟩
  · intro m k s hk ⟨k0, k1, k2, k3⟩
    left
    have el : s.1 332 (114 + r) = nI (Ln N r) := m_len k0 (by omega)
    have ek := m_keyOf k0 (show r < 5 by omega) (show k < 16 by omega)
    have ew := m_wearOf k0 (show r < 5 by omega) (show k < 16 by omega)
    have kb := hB.2.2.2.2.1 r k (by omega) (by omega)
    have wb := hB.2.2.2.2.2.1 r k (by omega) (by omega)
    have e1 : fo (tearG N lw r) (k + 1) 0 99 = tearG N lw r k s.2.2 := by rw [fo_s, ← k2, Nat.zero_add]
    have nk : ¬ nI (Ln N r) ≤ nI k := nle_i (by omega) (by omega) (by omega)
    have y0 : (114 : Int32) + nI r = nI (114 + r) := qadd 114 r
    by_cases z : K N r k = 0
    · refine ⟨s, ⟨k0, k1, ?_, k3⟩, ?_⟩
      · rw [e1]; unfold tearG; rw [if_pos z]
      · show f12_tearsOf_c5 n O (m + 1) s.1 s.2.1 331 (nI r) (nI s.2.2) (nI k) = f12_tearsOf_c5 n O m s.1 s.2.1 331 (nI r) (nI s.2.2) (nI (k + 1))
        rw [f12_tearsOf_c5, y0, if_neg (nI_in (by omega) (by omega)), hM.1, qcl (by omega), el, if_neg nk, ek, qb, z, if_pos (show nI 0 = 0 from rfl), nI_1]
    · obtain ⟨J2, L2, a1, a2, a3⟩ := m_tear41 (lw := lw) (k5 := f12_tearsOf_c5 n O m) hn hO hN hr hk k3 s.2.2 0 n (Wr N r k) s.1 s.2.1 (by omega) (by omega) wb (LM_fr hL (k1 334 (by omega) (by omega) (by omega))) (by rw [show upN N (10 + 16 * r + k) (Wr N r k) = N from up_self]; exact k0)
      refine ⟨(J2, L2, tearG N lw r k s.2.2), ⟨a1, JP_t k1 a2, e1.symm, tearG_le k3⟩, ?_⟩
      show f12_tearsOf_c5 n O (m + 1) s.1 s.2.1 331 (nI r) (nI s.2.2) (nI k) = f12_tearsOf_c5 n O m J2 L2 331 (nI r) (nI (tearG N lw r k s.2.2)) (nI (k + 1))
      unfold tearG
      rw [if_neg z, tearN_min _ _ _ k3]
      rw [Nat.zero_add] at a3
      rw [← a3, f12_tearsOf_c5, y0, if_neg (nI_in (by omega) (by omega)), hM.1, qcl (by omega), el, if_neg nk, ek, qb, if_neg (nI_ne0 (by omega) (by omega)), ew, qb]
      rfl
  · intro m s ⟨k0, k1, k2, k3⟩
    have el : s.1 332 (114 + r) = nI (Ln N r) := m_len k0 (by omega)
    refine ⟨s.1, s.2.1, ?_, k0, k1⟩
    have hz : tearsN N lw r = s.2.2 := k2.symm
    rw [hz]
    simp (disch := omega) only [f12_tearsOf_c5, hM.1, el, qL, qb, qbl, qadd, qmul, qsubm, qdm, qsub, qdiv, qcl, qlt, qle, qeq, nltT, nltF, nleT, nleF, neqT, neqF, or_false, false_or, or_true, true_or, or_self, and_true, true_and, and_false, false_and, and_self, not_true_eq_false, not_false_eq_true, ↓reduceIte]
def toG (N : TN) (r p : Nat) (y : Int32) : Int32 := if tornB N r p then y ||| (1 <<< (nI p &&& 31)) else y
def kiG (N : TN) (r p : Nat) (y : Int32) : Int32 := if K N r p = 0 then y else y ||| (1 <<< (nI (K N r p) &&& 31))
theorem x_torn (hn : 100000 ≤ n) (hB : WB N) (hV : WV I O 3 4 5 6 7 8 N) {r : Nat} (hr : r < N 0) : f10_tornPlaces n I O 3 (nI r) = some (fo (toG N r) (Ln N r) 0 0) := by
  have b1 := hB.1
  have l1 := hB.2.2.1 r (by omega)
  have es := x_size hV hB hr
  refine lpF (L := fun m k (s : Int32) => f10_tornPlaces_c4 n I O m 3 (nI r) s (nI k)) (toG N r) (fun _ _ => True) (Ln N r) id ?_ (fun _ _ _ _ => trivial) ?_ (Ln N r) 0 n 0 (by omega) (by omega) trivial
  · intro m k s hk _
    have et := x_isTorn hV hB hr hk
    have nk : ¬ nI (Ln N r) ≤ nI k := nle_i (by omega) (by omega) (by omega)
    show f10_tornPlaces_c4 n I O (m + 1) 3 (nI r) s (nI k) = f10_tornPlaces_c4 n I O m 3 (nI r) (toG N r k s) (nI (k + 1))
    rw [f10_tornPlaces_c4, es, qb, if_neg nk, et, qb, nI_1]
    unfold toG
    cases tornB N r k
    · rw [if_pos (by decide), if_neg (by decide)]
    · rw [if_neg (by decide), if_pos rfl]; rfl
  · intro m s _
    show f10_tornPlaces_c4 n I O (m + 1) 3 (nI r) s (nI (Ln N r)) = some s
    rw [f10_tornPlaces_c4, es, qb, if_pos (Int32.le_refl _)]
theorem m_torn (hn : 100000 ≤ n) (hB : WB N) (hM : MV J O N) {r : Nat} (hr : r < N 0) : f12_tornIn n J O 331 (nI r) = some (fo (toG N r) (Ln N r) 0 0) := by
  have b1 := hB.1
  have l1 := hB.2.2.1 r (by omega)
  have el : J 332 (114 + r) = nI (Ln N r) := m_len hM (by omega)
  have y0 : (114 : Int32) + nI r = nI (114 + r) := qadd 114 r
  refine lpF (L := fun m k (s : Int32) => f12_tornIn_c4 n J O m 331 (nI r) s (nI k)) (toG N r) (fun _ _ => True) (Ln N r) id ?_ (fun _ _ _ _ => trivial) ?_ (Ln N r) 0 n 0 (by omega) (by omega) trivial
  · intro m k s hk _
    have et := m_isTorn hM hB (show r < 5 by omega) (show k < 16 by omega)
    have nk : ¬ nI (Ln N r) ≤ nI k := nle_i (by omega) (by omega) (by omega)
    show f12_tornIn_c4 n J O (m + 1) 331 (nI r) s (nI k) = f12_tornIn_c4 n J O m 331 (nI r) (toG N r k s) (nI (k + 1))
    rw [f12_tornIn_c4, y0, if_neg (nI_in (by omega) (by omega)), hM.1, qcl (by omega), el, if_neg nk, et, qb, nI_1]
    unfold toG
    cases tornB N r k
    · rw [if_pos (by decide), if_neg (by decide), Int32.or_zero]
    · rw [if_neg (by decide), if_pos rfl]; rfl
  · intro m s _
    show f12_tornIn_c4 n J O (m + 1) 331 (nI r) s (nI (Ln N r)) = some s
    rw [f12_tornIn_c4, y0, if_neg (nI_in (by omega) (by omega)), hM.1, qcl (by omega), el, if_pos (Int32.le_refl _)]
theorem x_keys (hn : 100000 ≤ n) (hB : WB N) (hV : WV I O 3 4 5 6 7 8 N) {r : Nat} (hr : r < N 0) : f10_keysIn n I O 3 (nI r) = some (fo (kiG N r) (Ln N r) 0 0) := by
  have b1 := hB.1
  have l1 := hB.2.2.1 r (by omega)
  have es := x_size hV hB hr
  refine lpF (L := fun m k (s : Int32) => f10_keysIn_c4 n I O m 3 (nI r) s (nI k)) (kiG N r) (fun _ _ => True) (Ln N r) id ?_ (fun _ _ _ _ => trivial) ?_ (Ln N r) 0 n 0 (by omega) (by omega) trivial
  · intro m k s hk _
    have ek := x_keyAt hV hB hr hk
    have kb := hB.2.2.2.2.1 r k (by omega) (by omega)
    have nk : ¬ nI (Ln N r) ≤ nI k := nle_i (by omega) (by omega) (by omega)
    show f10_keysIn_c4 n I O (m + 1) 3 (nI r) s (nI k) = f10_keysIn_c4 n I O m 3 (nI r) (kiG N r k s) (nI (k + 1))
    rw [f10_keysIn_c4, es, qb, if_neg nk, ek, qb, nI_1]
    unfold kiG
    by_cases z : K N r k = 0
    · rw [if_pos z, z, if_pos (show nI 0 = 0 from rfl)]
    · rw [if_neg z, if_neg (nI_ne0 (by omega) (by omega)), qb]; rfl
  · intro m s _
    show f10_keysIn_c4 n I O (m + 1) 3 (nI r) s (nI (Ln N r)) = some s
    rw [f10_keysIn_c4, es, qb, if_pos (Int32.le_refl _)]
theorem m_keys (hn : 100000 ≤ n) (hB : WB N) (hM : MV J O N) {r : Nat} (hr : r < N 0) : f12_keysIn n J O 331 (nI r) = some (fo (kiG N r) (Ln N r) 0 0) := by
  have b1 := hB.1
  have l1 := hB.2.2.1 r (by omega)
  have el : J 332 (114 + r) = nI (Ln N r) := m_len hM (by omega)
  have y0 : (114 : Int32) + nI r = nI (114 + r) := qadd 114 r
  refine lpF (L := fun m k (s : Int32) => f12_keysIn_c4 n J O m 331 (nI r) s (nI k)) (kiG N r) (fun _ _ => True) (Ln N r) id ?_ (fun _ _ _ _ => trivial) ?_ (Ln N r) 0 n 0 (by omega) (by omega) trivial
  · intro m k s hk _
    have ek := m_keyOf hM (show r < 5 by omega) (show k < 16 by omega)
    have kb := hB.2.2.2.2.1 r k (by omega) (by omega)
    have nk : ¬ nI (Ln N r) ≤ nI k := nle_i (by omega) (by omega) (by omega)
    show f12_keysIn_c4 n J O (m + 1) 331 (nI r) s (nI k) = f12_keysIn_c4 n J O m 331 (nI r) (kiG N r k s) (nI (k + 1))
    rw [f12_keysIn_c4, y0, if_neg (nI_in (by omega) (by omega)), hM.1, qcl (by omega), el, if_neg nk, ek, qb, nI_1]
    unfold kiG
    by_cases z : K N r k = 0
    · rw [if_pos z, z, if_pos (show nI 0 ≤ 0 by decide), Int32.or_zero]
    · have nz : ¬ nI (K N r k) ≤ nI 0 := nle_i (by omega) (by omega) (by omega)
      rw [if_neg z, if_neg (show ¬ nI (K N r k) ≤ 0 from nz), qb]; rfl
  · intro m s _
    show f12_keysIn_c4 n J O (m + 1) 331 (nI r) s (nI (Ln N r)) = some s
    rw [f12_keysIn_c4, y0, if_neg (nI_in (by omega) (by omega)), hM.1, qcl (by omega), el, if_pos (Int32.le_refl _)]
theorem s_ofRoll (hn : 100000 ≤ n) (h : RE tX I O) (L : TL) (p1 p2 : Int32) : ∃ (v : Int32) (I1 I2 : TI) (L2 : TL), f11_ofRoll n I O 1 p1 p2 = some (v, I1) ∧ f12_ofRoll n I1 L O 331 p1 p2 = some (v, I2, L2) ∧ RE tX I2 O := by
  obtain ⟨N, G, e, f, tp, h⟩ := h
  have hO := h.1
  have hV := RW_WV hO h.2.2.2.2.2.2.1
  have hN := h.2.2.2.1
  have hB := NB_WB hN
  have hM := h.2.1
  have hF := RW_fd h.2.2.2.2.2.2.1
  have b0 : N 0 ≤ 5 := hB.1
  have b1 : N 1 ≤ 4 := hB.2.1
  by_cases h1 : inR p1 (N 0)
  · obtain ⟨r, hr, rfl⟩ := inR_of h1
    have ex := x_hasRoll hV hB hr
    have em := m_isRoll hM hB hr
    have e2 := o_2_0 hO
    have e1 := o_1_0 hO
    by_cases z0 : p2 = 0
    · have z0' : p2 = nI 0 := z0
      refine ⟨nI (Ln N r), I, I, L, ?_, ?_, N, G, e, f, tp, h⟩
      · simp (disch := omega) only [f11_ofRoll, e1, e2, ex, z0', x_size hV hB hr, qL, qb, qbl, qadd, qmul, qsubm, qdm, qsub, qdiv, qcl, qlt, qle, qeq, nltT, nltF, nleT, nleF, neqT, neqF, or_false, false_or, or_true, true_or, or_self, and_true, true_and, and_false, false_and, and_self, not_true_eq_false, not_false_eq_true, ↓reduceIte]
      · simp (disch := omega) only [f12_ofRoll, em, z0', hM.1, m_len hM (show r < 5 by omega), qL, qb, qbl, qadd, qmul, qsubm, qdm, qsub, qdiv, qcl, qlt, qle, qeq, nltT, nltF, nleT, nleF, neqT, neqF, or_false, false_or, or_true, true_or, or_self, and_true, true_and, and_false, false_and, and_self, not_true_eq_false, not_false_eq_true, ↓reduceIte]
    by_cases z1 : p2 = 1
    · refine ⟨nI (hc N r), I, I, L, ?_, ?_, N, G, e, f, tp, h⟩
      · rw [f11_ofRoll, e1, e2, ex, qb, if_neg (by decide), if_neg z0, if_pos z1, x_holesN hn hV hB hr, qb]
      · rw [f12_ofRoll, em, qb, if_neg (by decide), if_neg z0, if_pos z1, m_holesIn hn hM hB hr, qb]
    by_cases z2 : p2 = 2
    · refine ⟨fo (toG N r) (Ln N r) 0 0, I, I, L, ?_, ?_, N, G, e, f, tp, h⟩
      · rw [f11_ofRoll, e1, e2, ex, qb, if_neg (by decide), if_neg z0, if_neg z1, if_pos z2, x_torn hn hB hV hr, qb]
      · rw [f12_ofRoll, em, qb, if_neg (by decide), if_neg z0, if_neg z1, if_pos z2, m_torn hn hB hM hr, qb]
    by_cases z3 : p2 = 3
    · refine ⟨fo (kiG N r) (Ln N r) 0 0, I, I, L, ?_, ?_, N, G, e, f, tp, h⟩
      · rw [f11_ofRoll, e1, e2, ex, qb, if_neg (by decide), if_neg z0, if_neg z1, if_neg z2, if_pos z3, x_keys hn hB hV hr, qb]
      · rw [f12_ofRoll, em, qb, if_neg (by decide), if_neg z0, if_neg z1, if_neg z2, if_pos z3, m_keys hn hB hM hr, qb]
    by_cases z4 : p2 = 4
    · obtain ⟨lw, l1, l2⟩ := R_lw h
      obtain ⟨I1, c1, x1⟩ := x_tears hn hO hB l1 hV hr
      have r1 := R0_x tXst h (JN_XF x1)
      obtain ⟨I2, L2, c2, c3, c4⟩ := m_tears (L := L) hn hO hN r1.2.1 (LM_fr l2 (x1 334 (by omega) (by omega) (by omega))) hr
      refine ⟨nI (tearsN N lw r), I1, I2, L2, ?_, ?_, R0_gen tXst r1 (CS_r r1) ⟨c3, hN, ⟨fun a q1 q2 q3 q4 => c4 a q2 q3 q4, fun k _ => by rw [c4 331 (by omega) (by omega) (by omega)]⟩⟩ rfl⟩
      · rw [f11_ofRoll, e1, e2, ex, qb, if_neg (by decide), if_neg z0, if_neg z1, if_neg z2, if_neg z3, if_pos z4, x_ruling hO hF hN, qb, o_1_7 hO, c1, qb]
      · rw [f12_ofRoll, m_isRoll r1.2.1 hB hr, qb, if_neg (by decide), if_neg z0, if_neg z1, if_neg z2, if_neg z3, if_pos z4, c2, qb]
    refine ⟨-1, I, I, L, ?_, ?_, N, G, e, f, tp, h⟩
    · rw [f11_ofRoll, e1, e2, ex, qb, if_neg (by decide), if_neg z0, if_neg z1, if_neg z2, if_neg z3, if_neg z4]
    · rw [f12_ofRoll, em, qb, if_neg (by decide), if_neg z0, if_neg z1, if_neg z2, if_neg z3, if_neg z4]
  · refine ⟨-1, I, I, L, ?_, ?_, N, G, e, f, tp, h⟩
    · simp (disch := omega) only [f11_ofRoll, o_1_0 hO, o_1_1 hO, o_1_2 hO, o_1_3 hO, o_1_4 hO, o_1_5 hO, o_1_6 hO, o_1_7 hO, o_1_8 hO, o_1_9 hO, o_2_0 hO, o_2_1 hO, o_2_2 hO, o_2_3 hO, o_2_4 hO, o_2_5 hO, o_3_0 hO, o_3_1 hO, o_3_2 hO, o_6_0 hO, o_6_1 hO, o_6_2 hO, o_10_0 hO, o_331_0 hO, x_noRoll hV hB h1, qL, qb, qbl, qadd, qmul, qsubm, qdm, qsub, qdiv, qcl, qlt, qle, qeq, nltT, nltF, nleT, nleF, neqT, neqF, or_false, false_or, or_true, true_or, or_self, and_true, true_and, and_false, false_and, and_self, not_true_eq_false, not_false_eq_true, ↓reduceIte]
    · simp (disch := omega) only [f12_ofRoll, m_noRoll hM hB h1, qL, qb, qbl, qadd, qmul, qsubm, qdm, qsub, qdiv, qcl, qlt, qle, qeq, nltT, nltF, nleT, nleF, neqT, neqF, or_false, false_or, or_true, true_or, or_self, and_true, true_and, and_false, false_and, and_self, not_true_eq_false, not_false_eq_true, ↓reduceIte]
end OR
