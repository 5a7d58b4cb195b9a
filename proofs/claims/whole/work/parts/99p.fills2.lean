/-! the ways to fill: the count -/
def fwG (N : TN) (r v s : Nat) : Nat := if phO (fiN N r v) N (Ln N r) 18 0 then s + 1 else s
theorem fi_le {N : TN} (hB : WB N) {r v p : Nat} (hr : r < 5) (hp : p < 16) : fiN N r v p ≤ 5 := by
  have := hB.2.2.2.2.1 r p hr hp
  unfold fiN
  split <;> omega
theorem p6_le {t : Nat} (h : t ≤ 4) : 6 ^ t ≤ 1296 := by
  have := Nat.pow_le_pow_right (n := 6) (by omega) h
  exact this
section FC
variable {n : Nat} {I J : TI} {O : TO} {N : TN} {r : Nat}
theorem x_w64 (hn : 100000 ≤ n) (hO : OF O) (hB : WB N) (hr : r < N 0) (h5 : N 5 ≤ 8) (p5 : I 2 6 = nI (N 5)) (pk : ∀ k, k < 8 → I 132 k = nI (N (199 + k)) ∧ N (199 + k) ≤ 5) {C : Nat} (hC : C ≤ 1296) (h0 : ∀ p, p < Ln N r → tornB N r p = false → I 288 p = nI (K N r p)) : ∃ I', f2_waysToFill_c64 n O n I 287 2 (nI (Ln N r)) (nI (tmN N r (Ln N r))) (nI C) (lN 0) (nI 0) = some (lN (fo (fwG N r) C 0 0), I') ∧ ∀ a, a ≠ 288 → I' a = I a := by
  have b1 := hB.1
  have l1 := hB.2.2.1 r (by omega)
  refine lpR (L := fun m v (s : TI × Nat) => f2_waysToFill_c64 n O m s.1 287 2 (nI (Ln N r)) (nI (tmN N r (Ln N r))) (nI C) (lN s.2) (nI v)) (fun v s => (∀ a, a ≠ 288 → s.1 a = I a) ∧ (∀ p, p < Ln N r → tornB N r p = false → s.1 288 p = nI (K N r p)) ∧ s.2 = fo (fwG N r) v 0 0) (fun res => ∃ I', res = some (lN (fo (fwG N r) C 0 0), I') ∧ ∀ a, a ≠ 288 → I' a = I a) C ?_ ?_ C 0 n (I, 0) (by omega) (by omega) ⟨fun _ _ => rfl, h0, rfl⟩
  · intro m v s hv ⟨k1, k2, k3⟩
    left
    obtain ⟨I2, a1, a2, a3, a4⟩ := x_fill1 (n := n) hO l1 (v := v) (by omega) (Ln N r) 0 n s.1 (by omega) (by omega)
    rw [show v / 6 ^ tcN N r 0 = v from Nat.div_one v] at a1
    have a1' : f2_fill n s.1 O 287 (nI (tmN N r (Ln N r))) (nI v) = some I2 := a1
    have rows : ∀ p, p < Ln N r → I2 288 p = nI (fiN N r v p) ∧ fiN N r v p ≤ 5 := fun p hp => by
      refine ⟨?_, fi_le hB (by omega) (by omega)⟩
      rw [a4 p (Nat.zero_le _) hp]
      cases ht : tornB N r p
      · rw [if_neg (by decide), k2 p hp ht]
        unfold fiN
        rw [ht, if_neg (by decide)]
      · rw [if_pos rfl]
    have fr : ∀ a, a ≠ 288 → I2 a = I a := fun a ha => (a2 a ha).trans (k1 a ha)
    have ph := x_phr hn hO h5 l1 (by rw [fr 2 (by omega)]; exact p5) (fun k hk => by rw [fr 132 (by omega)]; exact pk k hk) rows 18 0 n (by omega) (by omega)
    have ph' : f2_hasPhrase n I2 O 287 2 (nI (Ln N r)) = some (if phO (fiN N r v) N (Ln N r) 18 0 = true then 1 else 0) := ph
    have e1 : fo (fwG N r) (v + 1) 0 0 = fwG N r v s.2 := by rw [fo_s, ← k3, Nat.zero_add]
    have k2' : ∀ p, p < Ln N r → tornB N r p = false → I2 288 p = nI (K N r p) := fun p hp ht => by
      rw [a4 p (Nat.zero_le _) hp, ht, if_neg (by decide)]; exact k2 p hp ht
    refine ⟨(I2, fwG N r v s.2), ⟨fr, k2', e1.symm⟩, ?_⟩
    show f2_waysToFill_c64 n O (m + 1) s.1 287 2 (nI (Ln N r)) (nI (tmN N r (Ln N r))) (nI C) (lN s.2) (nI v) = f2_waysToFill_c64 n O m I2 287 2 (nI (Ln N r)) (nI (tmN N r (Ln N r))) (nI C) (lN (fwG N r v s.2)) (nI (v + 1))
    rw [f2_waysToFill_c64, if_neg (nle_i (by omega) (by omega) hv), a1', qb, ph', qb, nI_1]
    unfold fwG
    cases phO (fiN N r v) N (Ln N r) 18 0
    · rw [if_pos (by decide)]; rfl
    · rw [if_neg (by decide), lN_1]; rfl
  · intro m s ⟨k1, k2, k3⟩
    refine ⟨s.1, ?_, k1⟩
    rw [← k3]
    show f2_waysToFill_c64 n O (m + 1) s.1 287 2 (nI (Ln N r)) (nI (tmN N r (Ln N r))) (nI C) (lN s.2) (nI C) = _
    rw [f2_waysToFill_c64, if_pos (Int32.le_refl _)]
theorem m_w56 (hn : 100000 ≤ n) (hO : OF O) (hB : WB N) (hM : MV J O N) (hr : r < N 0) (h5 : N 5 ≤ 8) (hp : ∀ k, k < 8 → N (199 + k) ≤ 5) {C : Nat} (hC : C ≤ 1296) : ∃ J', f12_fills_c56 n O n J 331 (nI r) (nI C) (lN 0) (nI 0) = some (lN (fo (fwG N r) C 0 0), J') ∧ ∀ a, a ≠ 342 → J' a = J a := by
  have b1 := hB.1
  have l1 := hB.2.2.1 r (by omega)
  refine lpR (L := fun m v (s : TI × Nat) => f12_fills_c56 n O m s.1 331 (nI r) (nI C) (lN s.2) (nI v)) (fun v s => (∀ a, a ≠ 342 → s.1 a = J a) ∧ s.2 = fo (fwG N r) v 0 0) (fun res => ∃ J', res = some (lN (fo (fwG N r) C 0 0), J') ∧ ∀ a, a ≠ 342 → J' a = J a) C ?_ ?_ C 0 n (J, 0) (by omega) (by omega) ⟨fun _ _ => rfl, rfl⟩
  · intro m v s hv ⟨k1, k3⟩
    left
    have hM1 := MV_fr hM (k1 332 (by omega))
    obtain ⟨J2, a1, a2, a3⟩ := m_f69 (n := n) hO hM1 hB (r := r) (by omega) l1 (v := v) (by omega) (k56 := f12_fills_c56 n O m) (y2 := nI C) (y5 := nI v) (y3 := lN s.2) (Ln N r) 0 n s.1 (by omega) (by omega) (fun _ _ => rfl) (fun q hq => by omega)
    rw [show v / 6 ^ tcN N r 0 = v from Nat.div_one v] at a1
    have hM2 := MV_fr hM1 (a2 332 (by omega))
    have ph : f12_isPhraseIn n J2 O 331 (nI r) = some (if phO (fiN N r v) N (Ln N r) 18 0 = true then 1 else 0) := m_phr hn hO hM2 h5 (by omega) l1 hp (fun p hp' => ⟨a3 p hp', fi_le hB (by omega) (by omega)⟩) 18 0 n (by omega) (by omega)
    have e1 : fo (fwG N r) (v + 1) 0 0 = fwG N r v s.2 := by rw [fo_s, ← k3, Nat.zero_add]
    refine ⟨(J2, fwG N r v s.2), ⟨fun a ha => (a2 a ha).trans (k1 a ha), e1.symm⟩, ?_⟩
    show f12_fills_c56 n O (m + 1) s.1 331 (nI r) (nI C) (lN s.2) (nI v) = f12_fills_c56 n O m J2 331 (nI r) (nI C) (lN (fwG N r v s.2)) (nI (v + 1))
    rw [f12_fills_c56, if_neg (nle_i (by omega) (by omega) hv), show (0 : Int32) = nI 0 from rfl, a1, ph, qb, nI_1]
    unfold fwG
    cases phO (fiN N r v) N (Ln N r) 18 0
    · rw [if_pos (by decide), Int64.add_zero]; rfl
    · rw [if_neg (by decide), lN_1]; rfl
  · intro m s ⟨k1, k3⟩
    refine ⟨s.1, ?_, k1⟩
    rw [← k3]
    show f12_fills_c56 n O (m + 1) s.1 331 (nI r) (nI C) (lN s.2) (nI C) = _
    rw [f12_fills_c56, if_pos (Int32.le_refl _)]
theorem x_w29 {b1 : Nat} {y3 : Int32} {w t : Nat} (hw : fJ6_bitCount_0f7a4 (nI w) = some (nI t)) (ht : t ≤ 4) : ∀ d j m, j + d = t → d < m → f2_waysToFill_c29 n O m I 287 b1 y3 (nI w) (nI (6 ^ j)) (nI j) = f2_waysToFill_c64 n O n I 287 b1 y3 (nI w) (nI (6 ^ t)) (lN 0) (nI 0) := by
  intro d
  induction d with
  | zero =>
    intro j m hj hm
    obtain ⟨m, rfl⟩ : ∃ m', m = m' + 1 := ⟨m - 1, by omega⟩
    rw [f2_waysToFill_c29, hw, qb, show j = t by omega, if_pos (Int32.le_refl _)]; rfl
  | succ d ih =>
    intro j m hj hm
    obtain ⟨m, rfl⟩ : ∃ m', m = m' + 1 := ⟨m - 1, by omega⟩
    rw [f2_waysToFill_c29, hw, qb, if_neg (nle_i (by omega) (by omega) (by omega)), if_neg (show ¬ (4 : Int32) ≤ nI j from nle_i (a := 4) (by omega) (by omega) (by omega)), show nI (6 ^ j) * 6 = nI (6 ^ j * 6) from qmul (6 ^ j) 6, ← Nat.pow_succ, nI_1]
    exact ih (j + 1) m (by omega) (by omega)
theorem m_w28 {w : Int32} {t : Nat} {y1 : Int32} (h1 : f12_tornIn n J O 331 y1 = some w) (hw : f12_bits n w = some (nI t)) (ht : t ≤ 4) : ∀ d j m, j + d = t → d < m → f12_fills_c28 n O m J 331 y1 (nI (6 ^ j)) (nI j) = f12_fills_c56 n O n J 331 y1 (nI (6 ^ t)) (lN 0) (nI 0) := by
  intro d
  induction d with
  | zero =>
    intro j m hj hm
    obtain ⟨m, rfl⟩ : ∃ m', m = m' + 1 := ⟨m - 1, by omega⟩
    rw [f12_fills_c28, h1, qb, hw, qb, show j = t by omega, if_pos (Int32.le_refl _)]; rfl
  | succ d ih =>
    intro j m hj hm
    obtain ⟨m, rfl⟩ : ∃ m', m = m' + 1 := ⟨m - 1, by omega⟩
    rw [f12_fills_c28, h1, qb, hw, qb, if_neg (nle_i (by omega) (by omega) (by omega)), show nI (6 ^ j) * 6 = nI (6 ^ j * 6) from qmul (6 ^ j) 6, ← Nat.pow_succ, nI_1]
    exact ih (j + 1) m (by omega) (by omega)
theorem tc_le {N : TN} {r : Nat} : ∀ d, tcN N r d ≤ d := by
  intro d
  induction d with
  | zero => exact Nat.le_refl _
  | succ d ih =>
    show (if tornB N r d then _ else _) ≤ d + 1
    split <;> omega
theorem s_fills (hn : 100000 ≤ n) (h : RE tX I O) (p1 : Int32) : ∃ (v : Int64) (I1 I2 : TI), f11_fills n I O 1 p1 = some (v, I1) ∧ f12_fills n I1 O 331 p1 = some (v, I2) ∧ RE tX I2 O := by
  obtain ⟨N, G, e, f, tp, h⟩ := h
  have hO := h.1
  have hV := RW_WV hO h.2.2.2.2.2.2.1
  have hN := h.2.2.2.1
  have hB := NB_WB hN
  have hM := h.2.1
  have hF := RW_fd h.2.2.2.2.2.2.1
  have b0 : N 0 ≤ 5 := hB.1
  have b1 : N 1 ≤ 4 := hB.2.1
  have e1 := o_1_0 hO
  have e2 := o_2_0 hO
  by_cases h1 : inR p1 (N 0)
  · obtain ⟨r, hr, rfl⟩ := inR_of h1
    have l1 := hB.2.2.1 r (by omega)
    have ex := x_hasRoll hV hB hr
    have em := m_isRoll hM hB hr
    have xt := x_torn hn hB hV hr
    have mt := m_torn hn hB hM hr
    rw [to_tm _ l1] at xt mt
    have tl := tm_16 (N := N) (r := r) l1
    have xb := bc16 tl
    have mb : f12_bits n (nI (tmN N r (Ln N r))) = some (nI (tcN N r (Ln N r))) := by
      have := m_bits16 (n := n) _ tl n 0 (by omega)
      rw [Nat.zero_add, tm_pc _ l1] at this
      exact this
    rw [tm_pc _ l1] at xb
    have tc := tc_le (N := N) (r := r) (Ln N r)
    by_cases z : tcN N r (Ln N r) ≤ 4
    · have h5 : N 5 ≤ 8 := hN.2.2.2.2.2.1
      have hk8 : ∀ k, k < 8 → N (199 + k) ≤ 5 := hN.2.2.2.2.2.2.2.2.2.2.1
      have hRW := h.2.2.2.2.2.2.1.1
      have p5 : I 2 6 = nI (N 5) := hRW 5 (Or.inl (by omega))
      have pk : ∀ k, k < 8 → I 132 k = nI (N (199 + k)) := fun k hk => by
        have := hRW (199 + k) (Or.inl (by omega))
        rw [show la 2 (199 + k) = 132 by simp (disch := omega) only [la, qL, qb, qbl, qadd, qmul, qsubm, qdm, qsub, qdiv, qcl, qlt, qle, qeq, nltT, nltF, nleT, nleF, neqT, neqF, or_false, false_or, or_true, true_or, or_self, and_true, true_and, and_false, false_and, and_self, not_true_eq_false, not_false_eq_true, ↓reduceIte], show lk (199 + k) = k by simp (disch := omega) only [lk, qL, qb, qbl, qadd, qmul, qsubm, qdm, qsub, qdiv, qcl, qlt, qle, qeq, nltT, nltF, nleT, nleF, neqT, neqF, or_false, false_or, or_true, true_or, or_self, and_true, true_and, and_false, false_and, and_self, not_true_eq_false, not_false_eq_true, ↓reduceIte] <;> omega] at this
        exact this
      obtain ⟨Ia, y1, y2, y3⟩ := lay_ok (b := 288) hn hV hB hr (by omega)
      have hVa : WV Ia O 3 4 5 6 7 8 N := WV_fr hV (fun a ha => y2 a (by omega))
      have xta := x_torn hn hB hVa hr
      rw [to_tm _ l1] at xta
      obtain ⟨I1, q1, q2⟩ := x_w64 (I := Ia) hn hO hB hr h5 (by rw [y2 2 (by omega)]; exact p5) (fun k hk => by rw [y2 132 (by omega)]; exact ⟨pk k hk, hk8 k hk⟩) (C := 6 ^ tcN N r (Ln N r)) (p6_le z) (fun p hp ht => by
        rw [y3 p hp]; unfold lv; rw [ht]; rfl)
      have w29 := x_w29 (n := n) (O := O) (I := Ia) (b1 := 2) (y3 := nI (Ln N r)) xb z (tcN N r (Ln N r)) 0 n (by omega) (by omega)
      have hXF : XF I I1 := fun a ha => by rw [q2 a (by omega), y2 a (by omega)]
      have r1 := R0_x tXst h hXF
      have hM1 : MV I1 O N := r1.2.1
      have mt1 := m_torn hn hB hM1 hr
      rw [to_tm _ l1] at mt1
      obtain ⟨I2, c1, c2⟩ := m_w56 hn hO hB hM1 hr h5 hk8 (C := 6 ^ tcN N r (Ln N r)) (p6_le z)
      have w28 := m_w28 (n := n) mt1 mb z (tcN N r (Ln N r)) 0 n (by omega) (by omega)
      have le4 : nI (tcN N r (Ln N r)) ≤ 4 := (nI_leI (b := 4) (by omega) (by omega)).mpr z
      refine ⟨lN (fo (fwG N r) (6 ^ tcN N r (Ln N r)) 0 0), I1, I2, ?_, ?_, N, G, e, f, tp, R0_m tXst r1 ⟨fun a g1 g2 => c2 a (by omega), fun k _ => by rw [c2 331 (by omega)]⟩⟩
      · rw [f11_fills, e1, e2, ex, qb, if_neg (by decide), xt, qb, xb, qb, if_pos le4, o_1_8 hO]
        unfold f2_waysToFill
        rw [e2, o_287_0 hO, y1, qb]
        dsimp only
        rw [xta, qb, show f2_waysToFill_c29 n O n Ia 287 2 (nI (Ln N r)) (nI (tmN N r (Ln N r))) 1 0 = _ from w29, q1, qb]
      · rw [f12_fills, m_isRoll hM1 hB hr, qb, if_neg (by decide), mt1, qb, mb, qb, if_pos le4]
        exact w28.trans c1
    · have nl : ¬ nI (tcN N r (Ln N r)) ≤ 4 := nle_i (b := 4) (by omega) (by omega) (by omega)
      refine ⟨-1, I, I, ?_, ?_, N, G, e, f, tp, h⟩
      · rw [f11_fills, e1, e2, ex, qb, if_neg (by decide), xt, qb, xb, qb, if_neg nl]
      · rw [f12_fills, em, qb, if_neg (by decide), mt, qb, mb, qb, if_neg nl]
  · refine ⟨-1, I, I, ?_, ?_, N, G, e, f, tp, h⟩
    · rw [f11_fills, e1, e2, x_noRoll hV hB h1, qb, if_pos rfl]
    · rw [f12_fills, m_noRoll hM hB h1, qb, if_pos rfl]
end FC
