/-! what two rolls have in common: the class's grid, the reference's, and both answers -/
section CD
variable {TX : TI → Nat → Prop} {n : Nat} {I J : TI} {O : TO} {N : TN}
theorem x_shared (hn : 100000 ≤ n) (hO : OF O) (hV : WV I O 3 4 5 6 7 8 N) (hB : WB N) {r q : Nat} (hr : r < N 0) (hq : q < N 0) : ∃ I', f2_findShared n I O 287 3 (nI r) (nI q) = some (nI (cT (cu N r q) (Ln N r) (Ln N q) 0 0), I') ∧ XF I I' ∧ ∀ k, k < cT (cu N r q) (Ln N r) (Ln N q) 0 0 → I' 291 k = nI ((pkS (cu N r q) (Ln N r) (Ln N q) (k + 1)).1 - 1) := by
  have b1 := hB.1
  have l1 := hB.2.2.1 r (by omega)
  have l2 := hB.2.2.1 q (by omega)
  obtain ⟨I1, e1, f1, g1⟩ := lay_ok hn hV hB hr (b := 288) (by omega)
  have hV1 : WV I1 O 3 4 5 6 7 8 N := WV_fr hV (fun a ha => f1 a (by omega))
  obtain ⟨I2, e2, f2, g2⟩ := lay_ok hn hV1 hB hq (b := 289) (by omega)
  have w1 : Row I2 288 (lv N r) (Ln N r) := fun p hp => by rw [f2 288 (by omega)]; exact g1 p hp
  have x2 : XF I I2 := fun a ha => by rw [f2 a (by omega), f1 a (by omega)]
  have e0 : f2_findShared n I O 287 3 (nI r) (nI q) = f2_findShared_c26 n O n I2 287 (nI (Ln N r)) (nI (Ln N q)) (nI (Ln N r + 1) + -nI 1) := by
    rw [show nI (Ln N r + 1) + -nI 1 = nI (Ln N r) from pk_m1 _]
    simp (disch := omega) only [f2_findShared, o_287_0 hO, o_287_1 hO, e1, e2, qL, qb, qbl, qadd, qmul, qsubm, qdm, qsub, qdiv, qcl, qlt, qle, qeq, nltT, nltF, nleT, nleF, neqT, neqF, or_false, false_or, or_true, true_or, or_self, and_true, true_and, and_false, false_and, and_self, not_true_eq_false, not_false_eq_true, ↓reduceIte]
  rw [e0]
  refine lpD (L := fun m k s => f2_findShared_c26 n O m s 287 (nI (Ln N r)) (nI (Ln N q)) (nI k + -nI 1)) (fun k s => k ≤ Ln N r + 1 ∧ (∀ a, a ≠ 290 → s a = I2 a) ∧ ∀ i j, j ≤ Ln N q → k ≤ i → i ≤ Ln N r → s 290 (i * 17 + j) = nI (cT (cu N r q) (Ln N r) (Ln N q) i j)) (fun res => ∃ I', res = some (nI (cT (cu N r q) (Ln N r) (Ln N q) 0 0), I') ∧ XF I I' ∧ ∀ k, k < cT (cu N r q) (Ln N r) (Ln N q) 0 0 → I' 291 k = nI ((pkS (cu N r q) (Ln N r) (Ln N q) (k + 1)).1 - 1)) ?_ ?_ (Ln N r + 1) n I2 (by omega) ⟨by omega, fun _ _ => rfl, fun i j _ h1 h2 => by omega⟩
  · intro m k s ⟨h0, h1, h2⟩
    left
    have st : f2_findShared_c26 n O (m + 1) s 287 (nI (Ln N r)) (nI (Ln N q)) (nI (k + 1) + -nI 1) = f2_findShared_c35 n O (f2_findShared_c26 n O m) n s 287 (nI (Ln N r)) (nI (Ln N q)) (nI k) (nI (Ln N q + 1) + -nI 1) := by
      rw [show nI (Ln N q + 1) + -nI 1 = nI (Ln N q) from pk_m1 _, show nI (k + 1) + -nI 1 = nI k from pk_m1 k]
      simp (disch := omega) only [f2_findShared_c26, qL, qb, qbl, qadd, qmul, qsubm, qdm, qsub, qdiv, qcl, qlt, qle, qeq, nltT, nltF, nleT, nleF, neqT, neqF, or_false, false_or, or_true, true_or, or_self, and_true, true_and, and_false, false_and, and_self, not_true_eq_false, not_false_eq_true, ↓reduceIte]
    show ∃ s', _ ∧ f2_findShared_c26 n O (m + 1) s 287 (nI (Ln N r)) (nI (Ln N q)) (nI (k + 1) + -nI 1) = _
    rw [st]
    refine lpD (L := fun m' j s' => f2_findShared_c35 n O (f2_findShared_c26 n O m) m' s' 287 (nI (Ln N r)) (nI (Ln N q)) (nI k) (nI j + -nI 1)) (fun j s' => j ≤ Ln N q + 1 ∧ (∀ a, a ≠ 290 → s' a = I2 a) ∧ ∀ i' j', j' ≤ Ln N q → (k + 1 ≤ i' ∨ (i' = k ∧ j ≤ j')) → i' ≤ Ln N r → s' 290 (i' * 17 + j') = nI (cT (cu N r q) (Ln N r) (Ln N q) i' j')) (fun res => ∃ s', (k ≤ Ln N r + 1 ∧ (∀ a, a ≠ 290 → s' a = I2 a) ∧ ∀ i j, j ≤ Ln N q → k ≤ i → i ≤ Ln N r → s' 290 (i * 17 + j) = nI (cT (cu N r q) (Ln N r) (Ln N q) i j)) ∧ res = f2_findShared_c26 n O m s' 287 (nI (Ln N r)) (nI (Ln N q)) (nI k + -nI 1)) ?_ ?_ (Ln N q + 1) n s (by omega) ⟨by omega, h1, fun i' j' hj h hi => h2 i' j' hj (by omega) hi⟩
    · intro m' j s' ⟨k0, k1, k2⟩
      left
      refine ⟨sI s' 290 (k * 17 + j) (nI (cT (cu N r q) (Ln N r) (Ln N q) k j)), ⟨by omega, fun a ha => by rw [sI_o _ _ ha]; exact k1 a ha, fun i' j' hj' h hi => ?_⟩, ?_⟩
      · by_cases z : i' = k ∧ j' = j
        · rw [z.1, z.2, sI_s]
        · rw [sI_k _ _ (by omega)]; exact k2 i' j' hj' (by omega) hi
      · show f2_findShared_c35 n O (f2_findShared_c26 n O m) (m' + 1) s' 287 (nI (Ln N r)) (nI (Ln N q)) (nI k) (nI (j + 1) + -nI 1) = _
        rw [show nI (j + 1) + -nI 1 = nI j from pk_m1 j]
        by_cases z1 : k = Ln N r
        · have u : cT (cu N r q) (Ln N r) (Ln N q) k j = 0 := by rw [z1]; exact cT_n _ _ _ _
          rw [u]
          simp (disch := omega) only [f2_findShared_c35, o_287_2 hO, qL, qb, qbl, qadd, qmul, qsubm, qdm, qsub, qdiv, qcl, qlt, qle, qeq, nltT, nltF, nleT, nleF, neqT, neqF, or_false, false_or, or_true, true_or, or_self, and_true, true_and, and_false, false_and, and_self, not_true_eq_false, not_false_eq_true, ↓reduceIte]
        by_cases z2 : j = Ln N q
        · have u : cT (cu N r q) (Ln N r) (Ln N q) k j = 0 := by rw [z2]; exact cT_m _ _ _ _
          rw [u]
          simp (disch := omega) only [f2_findShared_c35, o_287_2 hO, qL, qb, qbl, qadd, qmul, qsubm, qdm, qsub, qdiv, qcl, qlt, qle, qeq, nltT, nltF, nleT, nleF, neqT, neqF, or_false, false_or, or_true, true_or, or_self, and_true, true_and, and_false, false_and, and_self, not_true_eq_false, not_false_eq_true, ↓reduceIte]
        have e5 := x_sharedFrom hO hB hr hq (s := s') (i := k) (j := j) (by omega) (by omega) (fun p hp => by rw [k1 288 (by omega)]; exact w1 p hp) (fun p hp => by rw [k1 289 (by omega)]; exact g2 p hp) k2
        simp (disch := omega) only [f2_findShared_c35, o_287_2 hO, e5, qL, qb, qbl, qadd, qmul, qsubm, qdm, qsub, qdiv, qcl, qlt, qle, qeq, nltT, nltF, nleT, nleF, neqT, neqF, or_false, false_or, or_true, true_or, or_self, and_true, true_and, and_false, false_and, and_self, not_true_eq_false, not_false_eq_true, ↓reduceIte]
    · intro m' s' ⟨k0, k1, k2⟩
      refine ⟨s', ⟨by omega, k1, fun i j hj h hi => k2 i j hj (by omega) hi⟩, ?_⟩
      show f2_findShared_c35 n O (f2_findShared_c26 n O m) (m' + 1) s' 287 (nI (Ln N r)) (nI (Ln N q)) (nI k) (nI 0 + -nI 1) = _
      have ng := neg1
      simp (disch := omega) only [f2_findShared_c35, ng, qL, qb, qbl, qadd, qmul, qsubm, qdm, qsub, qdiv, qcl, qlt, qle, qeq, nltT, nltF, nleT, nleF, neqT, neqF, or_false, false_or, or_true, true_or, or_self, and_true, true_and, and_false, false_and, and_self, not_true_eq_false, not_false_eq_true, ↓reduceIte]
  · intro m s ⟨h0, h1, h2⟩
    obtain ⟨s', a1, a2, a3⟩ := x_pick (n := n) hn hO hB hr hq (s := s) (fun p hp => by rw [h1 288 (by omega)]; exact w1 p hp) (fun p hp => by rw [h1 289 (by omega)]; exact g2 p hp) (fun i j hj hi => h2 i j hj (by omega) hi)
    have z : s' 290 0 = nI (cT (cu N r q) (Ln N r) (Ln N q) 0 0) := by rw [a2 290 (by omega)]; exact h2 0 0 (by omega) (by omega) (by omega)
    refine ⟨s', ?_, fun a ha => by rw [a2 a (by omega), h1 a (by omega)]; exact x2 a ha, a3⟩
    show f2_findShared_c26 n O (m + 1) s 287 (nI (Ln N r)) (nI (Ln N q)) (nI 0 + -nI 1) = _
    have ng := neg1
    simp (disch := omega) only [f2_findShared_c26, ng, a1, o_287_2 hO, z, qL, qb, qbl, qadd, qmul, qsubm, qdm, qsub, qdiv, qcl, qlt, qle, qeq, nltT, nltF, nleT, nleF, neqT, neqF, or_false, false_or, or_true, true_or, or_self, and_true, true_and, and_false, false_and, and_self, not_true_eq_false, not_false_eq_true, ↓reduceIte]
theorem m_lay (hn : 100000 ≤ n) (hO : OF O) (hM : MV J O N) (hB : WB N) {r q : Nat} (hr : r < N 0) (hq : q < N 0) : ∃ J', f12_layCommon n J O 331 (nI r) (nI q) = some J' ∧ (∀ a, a ≠ 341 → J' a = J a) ∧ ∀ i j, j ≤ Ln N q → i ≤ Ln N r → J' 341 (17 * i + j) = nI (cT (cu N r q) (Ln N r) (Ln N q) i j) := by
  have b1 := hB.1
  have l1 := hB.2.2.1 r (by omega)
  have l2 := hB.2.2.1 q (by omega)
  have e1 := m_len hM (r := r) (by omega)
  have e2 := m_len hM (r := q) (by omega)
  have e0 : f12_layCommon n J O 331 (nI r) (nI q) = f12_layCommon_c10 n O n J 331 (nI r) (nI q) (nI (Ln N r + 1) + -nI 1) := by
    rw [show nI (Ln N r + 1) + -nI 1 = nI (Ln N r) from pk_m1 _]
    simp (disch := omega) only [f12_layCommon, hM.1, e1, qL, qb, qbl, qadd, qmul, qsubm, qdm, qsub, qdiv, qcl, qlt, qle, qeq, nltT, nltF, nleT, nleF, neqT, neqF, or_false, false_or, or_true, true_or, or_self, and_true, true_and, and_false, false_and, and_self, not_true_eq_false, not_false_eq_true, ↓reduceIte]
  rw [e0]
  refine lpD (L := fun m k s => f12_layCommon_c10 n O m s 331 (nI r) (nI q) (nI k + -nI 1)) (fun k s => k ≤ Ln N r + 1 ∧ (∀ a, a ≠ 341 → s a = J a) ∧ ∀ i j, j ≤ Ln N q → k ≤ i → i ≤ Ln N r → s 341 (17 * i + j) = nI (cT (cu N r q) (Ln N r) (Ln N q) i j)) (fun res => ∃ J', res = some J' ∧ (∀ a, a ≠ 341 → J' a = J a) ∧ ∀ i j, j ≤ Ln N q → i ≤ Ln N r → J' 341 (17 * i + j) = nI (cT (cu N r q) (Ln N r) (Ln N q) i j)) ?_ ?_ (Ln N r + 1) n J (by omega) ⟨by omega, fun _ _ => rfl, fun i j _ h1 h2 => by omega⟩
  · intro m k s ⟨h0, h1, h2⟩
    left
    have e2' : s 332 (114 + q) = nI (Ln N q) := by rw [h1 332 (by omega)]; exact e2
    have st : f12_layCommon_c10 n O (m + 1) s 331 (nI r) (nI q) (nI (k + 1) + -nI 1) = f12_layCommon_c25 n O (f12_layCommon_c10 n O m) n s 331 (nI r) (nI q) (nI k) (nI (Ln N q + 1) + -nI 1) := by
      rw [show nI (Ln N q + 1) + -nI 1 = nI (Ln N q) from pk_m1 _, show nI (k + 1) + -nI 1 = nI k from pk_m1 k]
      simp (disch := omega) only [f12_layCommon_c10, hM.1, e2', qL, qb, qbl, qadd, qmul, qsubm, qdm, qsub, qdiv, qcl, qlt, qle, qeq, nltT, nltF, nleT, nleF, neqT, neqF, or_false, false_or, or_true, true_or, or_self, and_true, true_and, and_false, false_and, and_self, not_true_eq_false, not_false_eq_true, ↓reduceIte]
    show ∃ s', _ ∧ f12_layCommon_c10 n O (m + 1) s 331 (nI r) (nI q) (nI (k + 1) + -nI 1) = _
    rw [st]
    refine lpD (L := fun m' j s' => f12_layCommon_c25 n O (f12_layCommon_c10 n O m) m' s' 331 (nI r) (nI q) (nI k) (nI j + -nI 1)) (fun j s' => j ≤ Ln N q + 1 ∧ (∀ a, a ≠ 341 → s' a = J a) ∧ ∀ i' j', j' ≤ Ln N q → (k + 1 ≤ i' ∨ (i' = k ∧ j ≤ j')) → i' ≤ Ln N r → s' 341 (17 * i' + j') = nI (cT (cu N r q) (Ln N r) (Ln N q) i' j')) (fun res => ∃ s', (k ≤ Ln N r + 1 ∧ (∀ a, a ≠ 341 → s' a = J a) ∧ ∀ i j, j ≤ Ln N q → k ≤ i → i ≤ Ln N r → s' 341 (17 * i + j) = nI (cT (cu N r q) (Ln N r) (Ln N q) i j)) ∧ res = f12_layCommon_c10 n O m s' 331 (nI r) (nI q) (nI k + -nI 1)) ?_ ?_ (Ln N q + 1) n s (by omega) ⟨by omega, h1, fun i' j' hj h hi => h2 i' j' hj (by omega) hi⟩
    · intro m' j s' ⟨k0, k1, k2⟩
      left
      have hM' : MV s' O N := MV_fr hM (k1 332 (by omega))
      have g1 := m_len hM' (r := r) (by omega)
      have g2 := m_len hM' (r := q) (by omega)
      refine ⟨sI s' 341 (17 * k + j) (nI (cT (cu N r q) (Ln N r) (Ln N q) k j)), ⟨by omega, fun a ha => by rw [sI_o _ _ ha]; exact k1 a ha, fun i' j' hj' h hi => ?_⟩, ?_⟩
      · by_cases z : i' = k ∧ j' = j
        · rw [z.1, z.2, sI_s]
        · rw [sI_k _ _ (by omega)]; exact k2 i' j' hj' (by omega) hi
      · show f12_layCommon_c25 n O (f12_layCommon_c10 n O m) (m' + 1) s' 331 (nI r) (nI q) (nI k) (nI (j + 1) + -nI 1) = _
        rw [show nI (j + 1) + -nI 1 = nI j from pk_m1 j]
        by_cases z1 : k = Ln N r
        · have u : cT (cu N r q) (Ln N r) (Ln N q) k j = 0 := by rw [z1]; exact cT_n _ _ _ _
          rw [u]
          simp (disch := omega) only [f12_layCommon_c25, f12_layCommon_c177, hM.1, g1, o_331_26 hO, qL, qb, qbl, qadd, qmul, qsubm, qdm, qsub, qdiv, qcl, qlt, qle, qeq, nltT, nltF, nleT, nleF, neqT, neqF, or_false, false_or, or_true, true_or, or_self, and_true, true_and, and_false, false_and, and_self, not_true_eq_false, not_false_eq_true, ↓reduceIte]
        by_cases z2 : j = Ln N q
        · have u : cT (cu N r q) (Ln N r) (Ln N q) k j = 0 := by rw [z2]; exact cT_m _ _ _ _
          rw [u]
          simp (disch := omega) only [f12_layCommon_c25, f12_layCommon_c177, hM.1, g1, g2, o_331_26 hO, qL, qb, qbl, qadd, qmul, qsubm, qdm, qsub, qdiv, qcl, qlt, qle, qeq, nltT, nltF, nleT, nleF, neqT, neqF, or_false, false_or, or_true, true_or, or_self, and_true, true_and, and_false, false_and, and_self, not_true_eq_false, not_false_eq_true, ↓reduceIte]
        have t1 := k2 (k + 1) (j + 1) (by omega) (by omega) (by omega)
        have t2 := k2 (k + 1) j (by omega) (by omega) (by omega)
        have t3 := k2 k (j + 1) (by omega) (by omega) (by omega)
        have w1 := cT_le (cu N r q) (Ln N r) (Ln N q) (k + 1) (j + 1)
        have w2 := cT_le (cu N r q) (Ln N r) (Ln N q) (k + 1) j
        have w3 := cT_le (cu N r q) (Ln N r) (Ln N q) k (j + 1)
        have e3 := m_areOne hM' hB (r := r) (i := k) (q := q) (j := j) (by omega) (by omega) (by omega) (by omega)
        have i1 : 17 * (k + 1) + j + 1 = 17 * (k + 1) + (j + 1) := by omega
        have i2 : 17 * k + j + 1 = 17 * k + (j + 1) := by omega
        rw [cT_s _ (show k < Ln N r by omega) (show j < Ln N q by omega)]
        have eu : cu N r q k j = shB (lv N r k) (lv N q j) := rfl
        rw [eu]
        generalize cT (cu N r q) (Ln N r) (Ln N q) (k + 1) (j + 1) = A at *
        generalize cT (cu N r q) (Ln N r) (Ln N q) (k + 1) j = B at *
        generalize cT (cu N r q) (Ln N r) (Ln N q) k (j + 1) = C at *
        by_cases z3 : B ≤ C
        · cases z : shB (lv N r k) (lv N q j)
          · have x : max B C = C := by omega
            simp (disch := omega) only [f12_layCommon_c25, f12_layCommon_c122, f12_layCommon_c177, hM.1, g1, g2, o_331_26 hO, i2, t2, t3, e3, z, Bool.false_eq_true, x, qL, qb, qbl, qadd, qmul, qsubm, qdm, qsub, qdiv, qcl, qlt, qle, qeq, nltT, nltF, nleT, nleF, neqT, neqF, or_false, false_or, or_true, true_or, or_self, and_true, true_and, and_false, false_and, and_self, not_true_eq_false, not_false_eq_true, ↓reduceIte]
          · by_cases z4 : A < C
            · have x : max (max B C) (A + 1) = C := by omega
              simp (disch := omega) only [f12_layCommon_c25, f12_layCommon_c122, f12_layCommon_c177, hM.1, g1, g2, o_331_26 hO, i1, i2, t1, t2, t3, e3, z, x, qL, qb, qbl, qadd, qmul, qsubm, qdm, qsub, qdiv, qcl, qlt, qle, qeq, nltT, nltF, nleT, nleF, neqT, neqF, or_false, false_or, or_true, true_or, or_self, and_true, true_and, and_false, false_and, and_self, not_true_eq_false, not_false_eq_true, ↓reduceIte]
            · have x : max (max B C) (A + 1) = A + 1 := by omega
              simp (disch := omega) only [f12_layCommon_c25, f12_layCommon_c122, f12_layCommon_c177, hM.1, g1, g2, o_331_26 hO, i1, i2, t1, t2, t3, e3, z, x, qL, qb, qbl, qadd, qmul, qsubm, qdm, qsub, qdiv, qcl, qlt, qle, qeq, nltT, nltF, nleT, nleF, neqT, neqF, or_false, false_or, or_true, true_or, or_self, and_true, true_and, and_false, false_and, and_self, not_true_eq_false, not_false_eq_true, ↓reduceIte]
        · cases z : shB (lv N r k) (lv N q j)
          · have x : max B C = B := by omega
            simp (disch := omega) only [f12_layCommon_c25, f12_layCommon_c122, f12_layCommon_c177, hM.1, g1, g2, o_331_26 hO, i2, t2, t3, e3, z, Bool.false_eq_true, x, qL, qb, qbl, qadd, qmul, qsubm, qdm, qsub, qdiv, qcl, qlt, qle, qeq, nltT, nltF, nleT, nleF, neqT, neqF, or_false, false_or, or_true, true_or, or_self, and_true, true_and, and_false, false_and, and_self, not_true_eq_false, not_false_eq_true, ↓reduceIte]
          · by_cases z4 : A < B
            · have x : max (max B C) (A + 1) = B := by omega
              simp (disch := omega) only [f12_layCommon_c25, f12_layCommon_c122, f12_layCommon_c177, hM.1, g1, g2, o_331_26 hO, i1, i2, t1, t2, t3, e3, z, x, qL, qb, qbl, qadd, qmul, qsubm, qdm, qsub, qdiv, qcl, qlt, qle, qeq, nltT, nltF, nleT, nleF, neqT, neqF, or_false, false_or, or_true, true_or, or_self, and_true, true_and, and_false, false_and, and_self, not_true_eq_false, not_false_eq_true, ↓reduceIte]
            · have x : max (max B C) (A + 1) = A + 1 := by omega
              simp (disch := omega) only [f12_layCommon_c25, f12_layCommon_c122, f12_layCommon_c177, hM.1, g1, g2, o_331_26 hO, i1, i2, t1, t2, t3, e3, z, x, qL, qb, qbl, qadd, qmul, qsubm, qdm, qsub, qdiv, qcl, qlt, qle, qeq, nltT, nltF, nleT, nleF, neqT, neqF, or_false, false_or, or_true, true_or, or_self, and_true, true_and, and_false, false_and, and_self, not_true_eq_false, not_false_eq_true, ↓reduceIte]
    · intro m' s' ⟨k0, k1, k2⟩
      refine ⟨s', ⟨by omega, k1, fun i j hj h hi => k2 i j hj (by omega) hi⟩, ?_⟩
      show f12_layCommon_c25 n O (f12_layCommon_c10 n O m) (m' + 1) s' 331 (nI r) (nI q) (nI k) (nI 0 + -nI 1) = _
      have ng := neg1
      simp (disch := omega) only [f12_layCommon_c25, ng, qL, qb, qbl, qadd, qmul, qsubm, qdm, qsub, qdiv, qcl, qlt, qle, qeq, nltT, nltF, nleT, nleF, neqT, neqF, or_false, false_or, or_true, true_or, or_self, and_true, true_and, and_false, false_and, and_self, not_true_eq_false, not_false_eq_true, ↓reduceIte]
  · intro m s ⟨h0, h1, h2⟩
    refine ⟨s, ?_, h1, fun i j hj hi => h2 i j hj (by omega) hi⟩
    show f12_layCommon_c10 n O (m + 1) s 331 (nI r) (nI q) (nI 0 + -nI 1) = _
    have ng := neg1
    simp (disch := omega) only [f12_layCommon_c10, ng, qL, qb, qbl, qadd, qmul, qsubm, qdm, qsub, qdiv, qcl, qlt, qle, qeq, nltT, nltF, nleT, nleF, neqT, neqF, or_false, false_or, or_true, true_or, or_self, and_true, true_and, and_false, false_and, and_self, not_true_eq_false, not_false_eq_true, ↓reduceIte]
theorem m_firstLike (hn : 100000 ≤ n) (hM : MV J O N) (hB : WB N) {r q : Nat} (hr : r < N 0) (hq : q < N 0) {i f : Nat} (hi : i < Ln N r) (hf : f ≤ Ln N q) : f12_firstLike n J O 331 (nI r) (nI i) (nI q) (nI f) = some (nI (cfl (cu N r q) (Ln N q) i f)) := by
  have b1 := hB.1
  have l1 := hB.2.2.1 r (by omega)
  have l2 := hB.2.2.1 q (by omega)
  have el := m_len hM (r := q) (by omega)
  refine lpE (L := fun m k => f12_firstLike_c4 n J O m 331 (nI r) (nI i) (nI q) (nI k)) (cu N r q i) (Ln N q) (fun k => some (nI k)) ?_ ?_ (Ln N q - f) f n (by omega) (by omega)
  · intro m k hk
    have e3 := m_areOne hM hB (r := r) (i := i) (q := q) (j := k) (by omega) (by omega) (by omega) (by omega)
    have eu : cu N r q i k = shB (lv N r i) (lv N q k) := rfl
    rw [eu]
    cases z : shB (lv N r i) (lv N q k)
    · simp (disch := omega) only [f12_firstLike_c4, hM.1, el, e3, z, Bool.false_eq_true, qL, qb, qbl, qadd, qmul, qsubm, qdm, qsub, qdiv, qcl, qlt, qle, qeq, nltT, nltF, nleT, nleF, neqT, neqF, or_false, false_or, or_true, true_or, or_self, and_true, true_and, and_false, false_and, and_self, not_true_eq_false, not_false_eq_true, ↓reduceIte]
    · simp (disch := omega) only [f12_firstLike_c4, hM.1, el, e3, z, qL, qb, qbl, qadd, qmul, qsubm, qdm, qsub, qdiv, qcl, qlt, qle, qeq, nltT, nltF, nleT, nleF, neqT, neqF, or_false, false_or, or_true, true_or, or_self, and_true, true_and, and_false, false_and, and_self, not_true_eq_false, not_false_eq_true, ↓reduceIte]
  · intro m
    simp (disch := omega) only [f12_firstLike_c4, hM.1, el, qL, qb, qbl, qadd, qmul, qsubm, qdm, qsub, qdiv, qcl, qlt, qle, qeq, nltT, nltF, nleT, nleF, neqT, neqF, or_false, false_or, or_true, true_or, or_self, and_true, true_and, and_false, false_and, and_self, not_true_eq_false, not_false_eq_true, ↓reduceIte]
theorem m_pick (hn : 100000 ≤ n) (hO : OF O) (hM : MV J O N) (hB : WB N) {r q i : Nat} (hr : r < N 0) (hq : q < N 0) (hg : ∀ i j, j ≤ Ln N q → i ≤ Ln N r → J 341 (17 * i + j) = nI (cT (cu N r q) (Ln N r) (Ln N q) i j)) (hi : i < cT (cu N r q) (Ln N r) (Ln N q) 0 0) : f12_common_c70 n O n J 331 (nI r) (nI q) (nI i) (nI 0) (nI 0) (nI (cT (cu N r q) (Ln N r) (Ln N q) 0 0)) = some (nI ((pkS (cu N r q) (Ln N r) (Ln N q) (i + 1)).1 - 1), J) := by
  have b1 := hB.1
  have l1 := hB.2.2.1 r (by omega)
  have l2 := hB.2.2.1 q (by omega)
  have el := m_len hM (r := q) (by omega)
  have t0 := cT_le (cu N r q) (Ln N r) (Ln N q) 0 0
  have g0 := hg 0 0 (by omega) (by omega)
  have g0' : J 341 0 = nI (cT (cu N r q) (Ln N r) (Ln N q) 0 0) := g0
  refine lpR (L := fun m k (_ : Unit) => f12_common_c70 n O m J 331 (nI r) (nI q) (nI i) (nI (pkS (cu N r q) (Ln N r) (Ln N q) k).1) (nI (pkS (cu N r q) (Ln N r) (Ln N q) k).2) (nI (cT (cu N r q) (Ln N r) (Ln N q) 0 0 - k))) (fun _ _ => True) (fun res => res = some (nI ((pkS (cu N r q) (Ln N r) (Ln N q) (i + 1)).1 - 1), J)) (i + 1) ?_ ?_ (i + 1) 0 n () (by omega) (by omega) trivial
  · intro m k _ hk _
    left
    refine ⟨(), trivial, ?_⟩
    obtain ⟨p1, p2, p3⟩ := pkS_ok (u := cu N r q) (n := Ln N r) (m := Ln N q) k (by omega)
    have ex := cok_ex (u := cu N r q) (n := Ln N r) (m := Ln N q) (Ln N r - (pkS (cu N r q) (Ln N r) (Ln N q) k).1) _ _ _ (by omega) p2 p3 (by omega)
    have e1 : pkS (cu N r q) (Ln N r) (Ln N q) (k + 1) = (fnd (cok (cu N r q) (Ln N r) (Ln N q) (pkS (cu N r q) (Ln N r) (Ln N q) k).2 (cT (cu N r q) (Ln N r) (Ln N q) 0 0 - k)) (Ln N r - (pkS (cu N r q) (Ln N r) (Ln N q) k).1) (pkS (cu N r q) (Ln N r) (Ln N q) k).1 + 1, cfl (cu N r q) (Ln N q) (fnd (cok (cu N r q) (Ln N r) (Ln N q) (pkS (cu N r q) (Ln N r) (Ln N q) k).2 (cT (cu N r q) (Ln N r) (Ln N q) 0 0 - k)) (Ln N r - (pkS (cu N r q) (Ln N r) (Ln N q) k).1) (pkS (cu N r q) (Ln N r) (Ln N q) k).1) (pkS (cu N r q) (Ln N r) (Ln N q) k).2 + 1) := rfl
    show f12_common_c70 n O (m + 1) J 331 (nI r) (nI q) (nI i) (nI (pkS (cu N r q) (Ln N r) (Ln N q) k).1) (nI (pkS (cu N r q) (Ln N r) (Ln N q) k).2) (nI (cT (cu N r q) (Ln N r) (Ln N q) 0 0 - k)) = f12_common_c70 n O m J 331 (nI r) (nI q) (nI i) (nI (pkS (cu N r q) (Ln N r) (Ln N q) (k + 1)).1) (nI (pkS (cu N r q) (Ln N r) (Ln N q) (k + 1)).2) (nI (cT (cu N r q) (Ln N r) (Ln N q) 0 0 - (k + 1)))
    rw [e1]
    generalize hp : (pkS (cu N r q) (Ln N r) (Ln N q) k).1 = p at *
    generalize hf : (pkS (cu N r q) (Ln N r) (Ln N q) k).2 = f at *
    generalize hL : cT (cu N r q) (Ln N r) (Ln N q) 0 0 = T at *
    have st : f12_common_c70 n O (m + 1) J 331 (nI r) (nI q) (nI i) (nI p) (nI f) (nI (T - k)) = f12_common_c83 n O (f12_common_c70 n O m) n J 331 (nI r) (nI q) (nI i) (nI p) (nI f) (nI (T - k)) := by
      simp (disch := omega) only [f12_common_c70, o_331_26 hO, g0', qL, qb, qbl, qadd, qmul, qsubm, qdm, qsub, qdiv, qcl, qlt, qle, qeq, nltT, nltF, nleT, nleF, neqT, neqF, or_false, false_or, or_true, true_or, or_self, and_true, true_and, and_false, false_and, and_self, not_true_eq_false, not_false_eq_true, ↓reduceIte]
    rw [st]
    have key := lpE (L := fun m' x => f12_common_c83 n O (f12_common_c70 n O m) m' J 331 (nI r) (nI q) (nI i) (nI x) (nI f) (nI (T - k))) (cok (cu N r q) (Ln N r) (Ln N q) f (T - k)) (fnd (cok (cu N r q) (Ln N r) (Ln N q) f (T - k)) (Ln N r - p) p) (fun x => f12_common_c70 n O m J 331 (nI r) (nI q) (nI i) (nI (x + 1)) (nI (cfl (cu N r q) (Ln N q) x f + 1)) (nI (T - (k + 1))))
    have hstep : ∀ m' x, x < Ln N r → f12_common_c83 n O (f12_common_c70 n O m) (m' + 1) J 331 (nI r) (nI q) (nI i) (nI x) (nI f) (nI (T - k)) = if cok (cu N r q) (Ln N r) (Ln N q) f (T - k) x then f12_common_c70 n O m J 331 (nI r) (nI q) (nI i) (nI (x + 1)) (nI (cfl (cu N r q) (Ln N q) x f + 1)) (nI (T - (k + 1))) else f12_common_c83 n O (f12_common_c70 n O m) m' J 331 (nI r) (nI q) (nI i) (nI (x + 1)) (nI f) (nI (T - k)) := by
      intro m' x hx
      have fl := m_firstLike hn hM hB hr hq (i := x) (f := f) hx p2
      have fle := cfl_le (u := cu N r q) (m := Ln N q) (p := x) (f := f) p2
      have i3 : T - k - 1 = T - (k + 1) := by omega
      by_cases zj : cfl (cu N r q) (Ln N q) x f < Ln N q
      · have gg := hg (x + 1) (cfl (cu N r q) (Ln N q) x f + 1) (by omega) (by omega)
        have hw : nI (T - k) + -nI 1 = nI (T - (k + 1)) := by rw [qaddn (by omega), i3]
        have c3 : cT (cu N r q) (Ln N r) (Ln N q) (x + 1) (cfl (cu N r q) (Ln N q) x f + 1) ≤ 16 := by have := cT_le (cu N r q) (Ln N r) (Ln N q) (x + 1) (cfl (cu N r q) (Ln N q) x f + 1); omega
        unfold cok
        generalize cfl (cu N r q) (Ln N q) x f = j at *
        have i1 : 17 * (x + 1) + j + 1 = 17 * (x + 1) + (j + 1) := by omega
        by_cases zd : cT (cu N r q) (Ln N r) (Ln N q) (x + 1) (j + 1) + 1 = T - k
        · have zd' : cT (cu N r q) (Ln N r) (Ln N q) (x + 1) (j + 1) = T - (k + 1) := by omega
          rw [if_pos (decide_eq_true ⟨zj, zd⟩)]
          simp (disch := omega) only [f12_common_c83, hM.1, el, fl, i1, gg, o_331_26 hO, hw, i3, zd', qL, qb, qbl, qadd, qmul, qsubm, qdm, qsub, qdiv, qcl, qlt, qle, qeq, nltT, nltF, nleT, nleF, neqT, neqF, or_false, false_or, or_true, true_or, or_self, and_true, true_and, and_false, false_and, and_self, not_true_eq_false, not_false_eq_true, ↓reduceIte]
        · rw [if_neg (by rw [decide_eq_true_eq]; exact fun q => zd q.2)]
          simp (disch := omega) only [f12_common_c83, hM.1, el, fl, i1, gg, o_331_26 hO, hw, i3, qL, qb, qbl, qadd, qmul, qsubm, qdm, qsub, qdiv, qcl, qlt, qle, qeq, nltT, nltF, nleT, nleF, neqT, neqF, or_false, false_or, or_true, true_or, or_self, and_true, true_and, and_false, false_and, and_self, not_true_eq_false, not_false_eq_true, ↓reduceIte]
      · have zc : cok (cu N r q) (Ln N r) (Ln N q) f (T - k) x = false := decide_eq_false (fun q => zj q.1)
        have zj' : cfl (cu N r q) (Ln N q) x f = Ln N q := by omega
        rw [zc]
        simp (disch := omega) only [f12_common_c83, hM.1, el, fl, zj', Bool.false_eq_true, qL, qb, qbl, qadd, qmul, qsubm, qdm, qsub, qdiv, qcl, qlt, qle, qeq, nltT, nltF, nleT, nleF, neqT, neqF, or_false, false_or, or_true, true_or, or_self, and_true, true_and, and_false, false_and, and_self, not_true_eq_false, not_false_eq_true, ↓reduceIte]
    have lf := fnd_le (cok (cu N r q) (Ln N r) (Ln N q) f (T - k)) (Ln N r - p) p
    have hfnd : fnd (cok (cu N r q) (Ln N r) (Ln N q) f (T - k)) (fnd (cok (cu N r q) (Ln N r) (Ln N q) f (T - k)) (Ln N r - p) p - p) p = fnd (cok (cu N r q) (Ln N r) (Ln N q) f (T - k)) (Ln N r - p) p := by
      have a := fnd_le (cok (cu N r q) (Ln N r) (Ln N q) f (T - k)) (fnd (cok (cu N r q) (Ln N r) (Ln N q) f (T - k)) (Ln N r - p) p - p) p
      by_cases q3 : fnd (cok (cu N r q) (Ln N r) (Ln N q) f (T - k)) (fnd (cok (cu N r q) (Ln N r) (Ln N q) f (T - k)) (Ln N r - p) p - p) p < fnd (cok (cu N r q) (Ln N r) (Ln N q) f (T - k)) (Ln N r - p) p
      · have b := fnd_P (cok (cu N r q) (Ln N r) (Ln N q) f (T - k)) (fnd (cok (cu N r q) (Ln N r) (Ln N q) f (T - k)) (Ln N r - p) p - p) p (by omega)
        have c := fnd_lt (cok (cu N r q) (Ln N r) (Ln N q) f (T - k)) (Ln N r - p) p _ a.1 (by omega) b
        omega
      · omega
    have res := key (fun m' x hx => hstep m' x (by omega)) (fun m' => by
      show f12_common_c83 n O (f12_common_c70 n O m) (m' + 1) J 331 (nI r) (nI q) (nI i) (nI (fnd (cok (cu N r q) (Ln N r) (Ln N q) f (T - k)) (Ln N r - p) p)) (nI f) (nI (T - k)) = _
      rw [hstep m' _ ex, if_pos (fnd_P _ _ _ (by omega))]) (fnd (cok (cu N r q) (Ln N r) (Ln N q) f (T - k)) (Ln N r - p) p - p) p n (by omega) (by omega)
    rw [hfnd] at res
    exact res
  · intro m _ _
    obtain ⟨p1, p2⟩ := pkS_in (u := cu N r q) (n := Ln N r) (m := Ln N q) (k := i) hi
    have e1 : 1 ≤ (pkS (cu N r q) (Ln N r) (Ln N q) (i + 1)).1 := by show 1 ≤ fnd _ _ _ + 1; omega
    show f12_common_c70 n O (m + 1) J 331 (nI r) (nI q) (nI i) (nI (pkS (cu N r q) (Ln N r) (Ln N q) (i + 1)).1) (nI (pkS (cu N r q) (Ln N r) (Ln N q) (i + 1)).2) (nI (cT (cu N r q) (Ln N r) (Ln N q) 0 0 - (i + 1))) = _
    generalize (pkS (cu N r q) (Ln N r) (Ln N q) (i + 1)).1 = p at *
    simp (disch := omega) only [f12_common_c70, o_331_26 hO, g0', qL, qb, qbl, qadd, qmul, qsubm, qdm, qsub, qdiv, qcl, qlt, qle, qeq, nltT, nltF, nleT, nleF, neqT, neqF, or_false, false_or, or_true, true_or, or_self, and_true, true_and, and_false, false_and, and_self, not_true_eq_false, not_false_eq_true, ↓reduceIte]
theorem m_inM {x : Int32} {n : Nat} (hn : n < 2147483648) (hd : Decidable (x = -1 ∨ inR x n)) : f12_isIn x (-nI 1) (nI n - nI 1) = some (if x = -1 ∨ inR x n then nI 1 else nI 0) := by
  unfold f12_isIn
  have e1 : (nI n - nI 1).toInt = (n : Int) - 1 := qpred hn
  have e2 : (-nI 1).toInt = -1 := lm1
  by_cases a1 : x < -nI 1
  · rw [if_pos a1, if_neg]
    · rfl
    · rw [i_lt, e2] at a1
      rintro (q | q)
      · rw [q, lm1] at a1; omega
      · unfold inR at q; omega
  · rw [if_neg a1]
    rw [i_lt, e2] at a1
    by_cases a2 : nI n - nI 1 < x
    · rw [if_pos a2, if_neg]
      · rfl
      · rw [i_lt, e1] at a2
        rintro (q | q)
        · rw [q, lm1] at a2; omega
        · unfold inR at q; omega
    · rw [if_neg a2, if_pos]
      · rfl
      · rw [i_lt, e1] at a2
        by_cases q : x.toInt = -1
        · left; exact i_eq.mpr (by rw [q, lm1])
        · right; unfold inR; omega
theorem s_common (hn : 100000 ≤ n) (hT : TXst TX) (h : RE TX I O) (p1 p2 p3 : Int32) : ∃ (v : Int32) (I1 I2 : TI), f11_common n I O 1 p1 p2 p3 = some (v, I1) ∧ f12_common n I1 O 331 p1 p2 p3 = some (v, I2) ∧ RE TX I2 O := by
  obtain ⟨N, G, e, f, tp, h⟩ := h
  have hO := h.1
  have hV := RW_WV hO h.2.2.2.2.2.2.1
  have hN := h.2.2.2.1
  have hB := NB_WB hN
  have hM := h.2.1
  have hF := RW_fd h.2.2.2.2.2.2.1
  have b0 : N 0 ≤ 5 := hB.1
  have b1 : N 1 ≤ 4 := hB.2.1
  by_cases h1 : inR p1 (N 0)
  · obtain ⟨r, hr, rfl⟩ := inR_of h1
    by_cases h2 : inR p2 (N 0)
    · obtain ⟨q, hq, rfl⟩ := inR_of h2
      have l1 := hB.2.2.1 r (by omega)
      obtain ⟨I1, e1, x1, y1⟩ := x_shared hn hO hV hB hr hq
      have r1 := R0_x hT h x1
      have hM1 : MV I1 O N := r1.2.1
      obtain ⟨I2, e2, x2, y2⟩ := m_lay hn hO hM1 hB hr hq
      have r2 := R0_m hT r1 (MF_of 341 x2 (by omega))
      have hM2 : MV I2 O N := r2.2.1
      have t0 := cT_le (cu N r q) (Ln N r) (Ln N q) 0 0
      have g0 : I2 341 0 = nI (cT (cu N r q) (Ln N r) (Ln N q) 0 0) := y2 0 0 (by omega) (by omega)
      by_cases hm : p3 = -1
      · have hm' : p3 = -nI 1 := hm
        have q1 := m_inM (x := p3) (n := cT (cu N r q) (Ln N r) (Ln N q) 0 0) (by omega) (Classical.propDecidable _)
        rw [if_pos (Or.inl hm)] at q1
        refine ⟨nI (cT (cu N r q) (Ln N r) (Ln N q) 0 0), I1, I2, ?_, ?_, N, G, e, f, tp, r2⟩
        · simp (disch := omega) only [f11_common, o_1_0 hO, o_1_1 hO, o_1_2 hO, o_1_3 hO, o_1_4 hO, o_1_5 hO, o_1_6 hO, o_1_7 hO, o_1_8 hO, o_1_9 hO, o_2_0 hO, o_2_1 hO, o_2_2 hO, o_2_3 hO, o_2_4 hO, o_2_5 hO, o_3_0 hO, o_3_1 hO, o_3_2 hO, o_6_0 hO, o_6_1 hO, o_6_2 hO, o_10_0 hO, o_331_0 hO, x_hasRoll hV hB hr, x_hasRoll hV hB hq, e1, hm', qL, qb, qbl, qadd, qmul, qsubm, qdm, qsub, qdiv, qcl, qlt, qle, qeq, nltT, nltF, nleT, nleF, neqT, neqF, or_false, false_or, or_true, true_or, or_self, and_true, true_and, and_false, false_and, and_self, not_true_eq_false, not_false_eq_true, ↓reduceIte]
        · rw [hm'] at q1
          simp (disch := omega) only [f12_common, m_isRoll hM1 hB hr, m_isRoll hM1 hB hq, e2, o_331_26 hO, g0, q1, hm', qL, qb, qbl, qadd, qmul, qsubm, qdm, qsub, qdiv, qcl, qlt, qle, qeq, nltT, nltF, nleT, nleF, neqT, neqF, or_false, false_or, or_true, true_or, or_self, and_true, true_and, and_false, false_and, and_self, not_true_eq_false, not_false_eq_true, ↓reduceIte]
      · have hm' : ¬ p3 = -nI 1 := hm
        by_cases h3 : inR p3 (cT (cu N r q) (Ln N r) (Ln N q) 0 0)
        · have q1 := m_inM (x := p3) (n := cT (cu N r q) (Ln N r) (Ln N q) 0 0) (by omega) (Classical.propDecidable _)
          rw [if_pos (Or.inr h3)] at q1
          obtain ⟨i, hi, rfl⟩ := inR_of h3
          rw [qsub (show 1 ≤ cT (cu N r q) (Ln N r) (Ln N q) 0 0 by omega)] at q1
          have e3 := y1 i hi
          have e4 := m_pick hn hO hM2 hB hr hq y2 hi
          refine ⟨nI ((pkS (cu N r q) (Ln N r) (Ln N q) (i + 1)).1 - 1), I1, I2, ?_, ?_, N, G, e, f, tp, r2⟩
          · simp (disch := omega) only [f11_common, f2_sharedPlace, o_1_0 hO, o_1_1 hO, o_1_2 hO, o_1_3 hO, o_1_4 hO, o_1_5 hO, o_1_6 hO, o_1_7 hO, o_1_8 hO, o_1_9 hO, o_2_0 hO, o_2_1 hO, o_2_2 hO, o_2_3 hO, o_2_4 hO, o_2_5 hO, o_3_0 hO, o_3_1 hO, o_3_2 hO, o_6_0 hO, o_6_1 hO, o_6_2 hO, o_10_0 hO, o_331_0 hO, o_287_3 hO, x_hasRoll hV hB hr, x_hasRoll hV hB hq, e1, hm', e3, qL, qb, qbl, qadd, qmul, qsubm, qdm, qsub, qdiv, qcl, qlt, qle, qeq, nltT, nltF, nleT, nleF, neqT, neqF, or_false, false_or, or_true, true_or, or_self, and_true, true_and, and_false, false_and, and_self, not_true_eq_false, not_false_eq_true, ↓reduceIte]
          · simp (disch := omega) only [f12_common, m_isRoll hM1 hB hr, m_isRoll hM1 hB hq, e2, o_331_26 hO, g0, q1, hm', e4, qL, qb, qbl, qadd, qmul, qsubm, qdm, qsub, qdiv, qcl, qlt, qle, qeq, nltT, nltF, nleT, nleF, neqT, neqF, or_false, false_or, or_true, true_or, or_self, and_true, true_and, and_false, false_and, and_self, not_true_eq_false, not_false_eq_true, ↓reduceIte]
        · have q1 := m_inM (x := p3) (n := cT (cu N r q) (Ln N r) (Ln N q) 0 0) (by omega) (Classical.propDecidable _)
          rw [if_neg (fun z => z.elim hm h3)] at q1
          refine ⟨-2, I1, I2, ?_, ?_, N, G, e, f, tp, r2⟩
          · by_cases w : p3 < 0
            · have w' : p3 < nI 0 := w
              simp (disch := omega) only [f11_common, o_1_0 hO, o_1_1 hO, o_1_2 hO, o_1_3 hO, o_1_4 hO, o_1_5 hO, o_1_6 hO, o_1_7 hO, o_1_8 hO, o_1_9 hO, o_2_0 hO, o_2_1 hO, o_2_2 hO, o_2_3 hO, o_2_4 hO, o_2_5 hO, o_3_0 hO, o_3_1 hO, o_3_2 hO, o_6_0 hO, o_6_1 hO, o_6_2 hO, o_10_0 hO, o_331_0 hO, x_hasRoll hV hB hr, x_hasRoll hV hB hq, e1, hm', w', qL, qb, qbl, qadd, qmul, qsubm, qdm, qsub, qdiv, qcl, qlt, qle, qeq, nltT, nltF, nleT, nleF, neqT, neqF, or_false, false_or, or_true, true_or, or_self, and_true, true_and, and_false, false_and, and_self, not_true_eq_false, not_false_eq_true, ↓reduceIte]
            · obtain ⟨j, hj, rfl⟩ := nI_of w
              have hj2 : cT (cu N r q) (Ln N r) (Ln N q) 0 0 ≤ j := Nat.le_of_not_lt (fun w => h3 (inR_nI w hj))
              simp (disch := omega) only [f11_common, o_1_0 hO, o_1_1 hO, o_1_2 hO, o_1_3 hO, o_1_4 hO, o_1_5 hO, o_1_6 hO, o_1_7 hO, o_1_8 hO, o_1_9 hO, o_2_0 hO, o_2_1 hO, o_2_2 hO, o_2_3 hO, o_2_4 hO, o_2_5 hO, o_3_0 hO, o_3_1 hO, o_3_2 hO, o_6_0 hO, o_6_1 hO, o_6_2 hO, o_10_0 hO, o_331_0 hO, x_hasRoll hV hB hr, x_hasRoll hV hB hq, e1, hm', qL, qb, qbl, qadd, qmul, qsubm, qdm, qsub, qdiv, qcl, qlt, qle, qeq, nltT, nltF, nleT, nleF, neqT, neqF, or_false, false_or, or_true, true_or, or_self, and_true, true_and, and_false, false_and, and_self, not_true_eq_false, not_false_eq_true, ↓reduceIte]
          · simp (disch := omega) only [f12_common, m_isRoll hM1 hB hr, m_isRoll hM1 hB hq, e2, o_331_26 hO, g0, q1, qL, qb, qbl, qadd, qmul, qsubm, qdm, qsub, qdiv, qcl, qlt, qle, qeq, nltT, nltF, nleT, nleF, neqT, neqF, or_false, false_or, or_true, true_or, or_self, and_true, true_and, and_false, false_and, and_self, not_true_eq_false, not_false_eq_true, ↓reduceIte]
    · refine ⟨-2, I, I, ?_, ?_, N, G, e, f, tp, h⟩
      · simp (disch := omega) only [f11_common, o_1_0 hO, o_1_1 hO, o_1_2 hO, o_1_3 hO, o_1_4 hO, o_1_5 hO, o_1_6 hO, o_1_7 hO, o_1_8 hO, o_1_9 hO, o_2_0 hO, o_2_1 hO, o_2_2 hO, o_2_3 hO, o_2_4 hO, o_2_5 hO, o_3_0 hO, o_3_1 hO, o_3_2 hO, o_6_0 hO, o_6_1 hO, o_6_2 hO, o_10_0 hO, o_331_0 hO, x_hasRoll hV hB hr, x_noRoll hV hB h2, qL, qb, qbl, qadd, qmul, qsubm, qdm, qsub, qdiv, qcl, qlt, qle, qeq, nltT, nltF, nleT, nleF, neqT, neqF, or_false, false_or, or_true, true_or, or_self, and_true, true_and, and_false, false_and, and_self, not_true_eq_false, not_false_eq_true, ↓reduceIte]
      · simp (disch := omega) only [f12_common, m_isRoll hM hB hr, m_noRoll hM hB h2, qL, qb, qbl, qadd, qmul, qsubm, qdm, qsub, qdiv, qcl, qlt, qle, qeq, nltT, nltF, nleT, nleF, neqT, neqF, or_false, false_or, or_true, true_or, or_self, and_true, true_and, and_false, false_and, and_self, not_true_eq_false, not_false_eq_true, ↓reduceIte]
  · refine ⟨-2, I, I, ?_, ?_, N, G, e, f, tp, h⟩
    · simp (disch := omega) only [f11_common, o_1_0 hO, o_1_1 hO, o_1_2 hO, o_1_3 hO, o_1_4 hO, o_1_5 hO, o_1_6 hO, o_1_7 hO, o_1_8 hO, o_1_9 hO, o_2_0 hO, o_2_1 hO, o_2_2 hO, o_2_3 hO, o_2_4 hO, o_2_5 hO, o_3_0 hO, o_3_1 hO, o_3_2 hO, o_6_0 hO, o_6_1 hO, o_6_2 hO, o_10_0 hO, o_331_0 hO, x_noRoll hV hB h1, qL, qb, qbl, qadd, qmul, qsubm, qdm, qsub, qdiv, qcl, qlt, qle, qeq, nltT, nltF, nleT, nleF, neqT, neqF, or_false, false_or, or_true, true_or, or_self, and_true, true_and, and_false, false_and, and_self, not_true_eq_false, not_false_eq_true, ↓reduceIte]
    · simp (disch := omega) only [f12_common, m_noRoll hM hB h1, qL, qb, qbl, qadd, qmul, qsubm, qdm, qsub, qdiv, qcl, qlt, qle, qeq, nltT, nltF, nleT, nleF, neqT, neqF, or_false, false_or, or_true, true_or, or_self, and_true, true_and, and_false, false_and, and_self, not_true_eq_false, not_false_eq_true, ↓reduceIte]
end CD
