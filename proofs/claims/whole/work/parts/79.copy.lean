/-! wear told, image and back, the tape fed -/
def wrN (N : TN) (x w k : Nat) : TN := fun t => if t = x ∨ (231 ≤ t ∧ (t - 231) % 137 = x - 7 ∧ (t - 231) / 137 < k) then w else N t
section WO
variable {TX : TI → Nat → Prop} {I : TI} {O : TO} {n : Nat} {N : TN}
theorem mw43 : ∀ (d k m : Nat) (J : TI) {x w : Nat}, k + d = N 4 → N 4 ≤ 30 → d < m → 10 ≤ x → x < 90 → MV J O (wrN N x w k) → ∃ J', (∀ a, a ≠ 332 → J' a = J a) ∧ MV J' O (wrN N x w (N 4)) ∧ f12_worn_c43 n O m J 331 (nI w) (nI x) (nI k) = some (1, J') := by
  intro d
  induction d with
  | zero =>
    intro k m J x w hk h30 hm hx1 hx2 hJ
    obtain ⟨m', rfl⟩ : ∃ m', m = m' + 1 := ⟨m - 1, by omega⟩
    have : k = N 4 := by omega
    subst this
    have e4 : J 332 4 = nI (N 4) := by rw [hJ.2 4 (by omega)]; unfold wrN; rw [if_neg (by omega)]
    refine ⟨J, fun a ha => rfl, hJ, ?_⟩
    simp (disch := omega) only [f12_worn_c43, hJ.1, e4, qL, qb, qbl, qadd, qmul, qsubm, qdm, qsub, qdiv, qcl, qlt, qle, qeq, nltT, nltF, nleT, nleF, neqT, neqF, or_false, false_or, or_true, true_or, or_self, and_true, true_and, and_false, false_and, and_self, not_true_eq_false, not_false_eq_true, ↓reduceIte]
  | succ d ih =>
    intro k m J x w hk h30 hm hx1 hx2 hJ
    obtain ⟨m', rfl⟩ : ∃ m', m = m' + 1 := ⟨m - 1, by omega⟩
    have e4 : J 332 4 = nI (N 4) := by rw [hJ.2 4 (by omega)]; unfold wrN; rw [if_neg (by omega)]
    obtain ⟨J', h1, h2, h3⟩ := ih (k + 1) m' (sI J 332 (231 + 137 * k + x - 7) (nI w)) (x := x) (w := w) (by omega) h30 (by omega) hx1 hx2 (MV_ext (MV_up hJ) (fun t ht => by
      unfold upN wrN
      by_cases q : t = 231 + 137 * k + x - 7
      · rw [if_pos q, if_pos (Or.inr (by omega))]
      · rw [if_neg q]
        by_cases q2 : t = x ∨ (231 ≤ t ∧ (t - 231) % 137 = x - 7 ∧ (t - 231) / 137 < k)
        · rw [if_pos q2, if_pos (by omega)]
        · rw [if_neg q2, if_neg (by omega)]))
    refine ⟨J', fun a ha => by rw [h1 a ha, sI_o _ _ ha], h2, ?_⟩
    rw [← h3]
    simp (disch := omega) only [f12_worn_c43, hJ.1, e4, qL, qb, qbl, qadd, qmul, qsubm, qdm, qsub, qdiv, qcl, qlt, qle, qeq, nltT, nltF, nleT, nleF, neqT, neqF, or_false, false_or, or_true, true_or, or_self, and_true, true_and, and_false, false_and, and_self, not_true_eq_false, not_false_eq_true, ↓reduceIte]
theorem xw12 (hO : OF O) {pl w : Nat} (hp : pl < 80) : ∀ (d i m : Nat) (I : TI), i + d = 30 → d < m → ∃ I', f0_tellWear_c12 n O m I 10 (nI pl) (nI w) (nI i) = some I' ∧ (∀ j, i ≤ j → j < 30 → I' (12 + 4 * j + 1) pl = nI w) ∧ (∀ a k, (∀ j, i ≤ j → j < 30 → a = 12 + 4 * j + 1 → k ≠ pl) → I' a k = I a k) := by
  intro d
  induction d with
  | zero =>
    intro i m I hi hm
    obtain ⟨m', rfl⟩ : ∃ m', m = m' + 1 := ⟨m - 1, by omega⟩
    have : i = 30 := by omega
    subst this
    refine ⟨I, ?_, fun j h1 h2 => by omega, fun a k _ => rfl⟩
    simp (disch := omega) only [f0_tellWear_c12, qL, qb, qbl, qadd, qmul, qsubm, qdm, qsub, qdiv, qcl, qlt, qle, qeq, nltT, nltF, nleT, nleF, neqT, neqF, or_false, false_or, or_true, true_or, or_self, and_true, true_and, and_false, false_and, and_self, not_true_eq_false, not_false_eq_true, ↓reduceIte]
  | succ d ih =>
    intro i m I hi hm
    obtain ⟨m', rfl⟩ : ∃ m', m = m' + 1 := ⟨m - 1, by omega⟩
    obtain ⟨I', h1, h2, h3⟩ := ih (i + 1) m' (sI I (12 + 4 * i + 1) pl (nI w)) (by omega) (by omega)
    have o := hO.2.1 i (by omega)
    refine ⟨I', ?_, fun j q1 q2 => ?_, fun a k q => ?_⟩
    · rw [← h1]
      simp (disch := omega) only [f0_tellWear_c12, o_10_0 hO, o.1, o.2.1, qL, qb, qbl, qadd, qmul, qsubm, qdm, qsub, qdiv, qcl, qlt, qle, qeq, nltT, nltF, nleT, nleF, neqT, neqF, or_false, false_or, or_true, true_or, or_self, and_true, true_and, and_false, false_and, and_self, not_true_eq_false, not_false_eq_true, ↓reduceIte]
    · by_cases qj : j = i
      · subst qj; rw [h3 _ _ (fun j' p1 p2 p3 => by omega), sI_s]
      · exact h2 j (by omega) q2
    · rw [h3 a k (fun j p1 p2 p3 => q j (by omega) p2 p3), sI_e]
      by_cases qa : a = 12 + 4 * i + 1
      · exact Or.inr (q i (by omega) (by omega) qa)
      · exact Or.inl qa
theorem s_worn (hn : 100000 ≤ n) (hT : TXst TX) (h : RE TX I O) (p1 p2 p3 : Int32) : ∃ (v : Int32) (I1 I2 : TI), f11_worn n I O 1 p1 p2 p3 = some (v, I1) ∧ f12_worn n I1 O 331 p1 p2 p3 = some (v, I2) ∧ RE TX I2 O := by
  obtain ⟨N, G, e, f, tp, h⟩ := h
  have hO := h.1
  have hV := RW_WV hO h.2.2.2.2.2.2.1
  have hN := h.2.2.2.1
  have hB := NB_WB hN
  have hM := h.2.1
  have hF := RW_fd h.2.2.2.2.2.2.1
  have b0 : N 0 ≤ 5 := hB.1
  have b1 : N 1 ≤ 4 := hB.2.1
  have b4 : N 4 ≤ 30 := hN.2.2.2.2.1
  by_cases h1 : inR p1 (N 0)
  · obtain ⟨r, hr, rfl⟩ := inR_of h1
    by_cases h2 : inR p2 (Ln N r)
    · obtain ⟨p, hp, rfl⟩ := inR_of h2
      obtain ⟨b5, b6⟩ := place_lt hB hr hp
      have ex := x_hasPlace hV hB hr hp
      by_cases h3 : ((0 : Nat) : Int) ≤ p3.toInt ∧ p3.toInt ≤ ((9 : Nat) : Int)
      · obtain ⟨w, -, hw, rfl⟩ := inB h3
        have hl := la_W b5 b6
        obtain ⟨I1, t1, t2, t3⟩ := xw12 (n := n) hO (pl := r * 16 + p) (w := w) (by omega) 30 0 n (sI I 7 (r * 16 + p) (nI w)) (by omega) (by omega)
        have fr : ∀ a, a < 2 ∨ 136 ≤ a → I1 a = I a := fun a ha => funext fun k => by rw [t3 a k (fun j _ _ q => by omega), sI_o _ _ (by omega)]
        have hM1 : MV I1 O N := MV_fr hM (fr 332 (by omega))
        obtain ⟨J', j1, j2, j3⟩ := mw43 (n := n) (N := N) (N 4) 0 n (sI I1 332 (10 + 16 * r + p) (nI w)) (x := 10 + 16 * r + p) (w := w) (by omega) b4 (by omega) (by omega) (by omega) (MV_ext (MV_up hM1) (fun t ht => by
          unfold upN wrN
          by_cases q : t = 10 + 16 * r + p
          · rw [if_pos q, if_pos (Or.inl q)]
          · rw [if_neg q, if_neg (by omega)]))
        have hl0 := h.2.2.2.2.2.2.1
        have eN : ∀ t, t < 231 ∨ 4341 ≤ t → wrN N (10 + 16 * r + p) w (N 4) t = upN N (10 + 16 * r + p) w t := fun t ht => by
          unfold upN wrN
          by_cases q : t = 10 + 16 * r + p
          · rw [if_pos q, if_pos (Or.inl q)]
          · rw [if_neg q, if_neg (by omega)]
        have hX : RW I1 2 e (wrN N (10 + 16 * r + p) w (N 4)) := by
          have hw0 := RW_up (v := w) hl0 b4 (t := 10 + 16 * r + p) (Or.inl (by omega)) (by omega) 7 (r * 16 + p) hl.1 hl.2
          refine ⟨fun t ht => ?_, ?_, hw0.2.2.1, fun k hk u hu => ?_⟩
          · have rg := la_rng (wh := 2) ht
            rw [t3 _ _ (fun j _ _ q => by omega), eN t (by unfold dm at ht; omega)]
            exact hw0.1 t ht
          · rw [t3 _ _ (fun j _ _ q => by omega)]; exact hw0.2.1
          · have hk' : k < N 4 := by rw [eN 4 (by omega), upN_o _ (by omega)] at hk; exact hk
            by_cases qu : u = 3 + (r * 16 + p)
            · subst qu
              have s1 : sa (3 + (r * 16 + p)) = 1 := by simp (disch := omega) only [sa, qL, qb, qbl, qadd, qmul, qsubm, qdm, qsub, qdiv, qcl, qlt, qle, qeq, nltT, nltF, nleT, nleF, neqT, neqF, or_false, false_or, or_true, true_or, or_self, and_true, true_and, and_false, false_and, and_self, not_true_eq_false, not_false_eq_true, ↓reduceIte]
              have s2 : sk (3 + (r * 16 + p)) = r * 16 + p := by simp (disch := omega) only [sk, qL, qb, qbl, qadd, qmul, qsubm, qdm, qsub, qdiv, qcl, qlt, qle, qeq, nltT, nltF, nleT, nleF, neqT, neqF, or_false, false_or, or_true, true_or, or_self, and_true, true_and, and_false, false_and, and_self, not_true_eq_false, not_false_eq_true, ↓reduceIte] <;> omega
              have z : wrN N (10 + 16 * r + p) w (N 4) (231 + 137 * k + (3 + (r * 16 + p))) = w := by unfold wrN; rw [if_pos (Or.inr (by omega))]
              rw [s1, s2, z]
              exact t2 _ (by omega) (Nat.mod_lt _ (by omega))
            · have z : wrN N (10 + 16 * r + p) w (N 4) (231 + 137 * k + u) = N (231 + 137 * k + u) := by unfold wrN; rw [if_neg (by omega)]
              rw [z, t3 _ _ (fun j _ q1 q => ?_), sI_o _ _ (by have := sa_le u; omega)]
              · exact hl0.2.2.2 k hk' u hu
              · have hsa := sa_le u
                have s1 : sa u = 1 := by omega
                have h3 : 3 ≤ u := by rcases Nat.lt_or_ge u 3 with q | q
                                      · have : sa u = 0 := by simp (disch := omega) only [sa, qL, qb, qbl, qadd, qmul, qsubm, qdm, qsub, qdiv, qcl, qlt, qle, qeq, nltT, nltF, nleT, nleF, neqT, neqF, or_false, false_or, or_true, true_or, or_self, and_true, true_and, and_false, false_and, and_self, not_true_eq_false, not_false_eq_true, ↓reduceIte]
                                        omega
                                      · exact q
                have h83 : u < 83 := by
                  rcases Nat.lt_or_ge u 83 with q | q
                  · exact q
                  · rcases Nat.lt_or_ge u 107 with q2 | q2
                    · have : sa u = 2 := by simp (disch := omega) only [sa, qL, qb, qbl, qadd, qmul, qsubm, qdm, qsub, qdiv, qcl, qlt, qle, qeq, nltT, nltF, nleT, nleF, neqT, neqF, or_false, false_or, or_true, true_or, or_self, and_true, true_and, and_false, false_and, and_self, not_true_eq_false, not_false_eq_true, ↓reduceIte]
                      omega
                    · have : sa u = 3 := by simp (disch := omega) only [sa, qL, qb, qbl, qadd, qmul, qsubm, qdm, qsub, qdiv, qcl, qlt, qle, qeq, nltT, nltF, nleT, nleF, neqT, neqF, or_false, false_or, or_true, true_or, or_self, and_true, true_and, and_false, false_and, and_self, not_true_eq_false, not_false_eq_true, ↓reduceIte]
                      omega
                have s2 : sk u = u - 3 := by simp (disch := omega) only [sk, qL, qb, qbl, qadd, qmul, qsubm, qdm, qsub, qdiv, qcl, qlt, qle, qeq, nltT, nltF, nleT, nleF, neqT, neqF, or_false, false_or, or_true, true_or, or_self, and_true, true_and, and_false, false_and, and_self, not_true_eq_false, not_false_eq_true, ↓reduceIte]
                omega
        have hNB : NB (wrN N (10 + 16 * r + p) w (N 4)) := by
          have h1 : NB (upN N (10 + 16 * r + p) w) := NB_up hN ⟨by omega, by omega, by omega, by omega, by omega, by omega, by omega⟩ ⟨by omega, by omega, by omega, by omega, by omega, by omega, by omega, by omega, by omega, by omega, by omega⟩
          obtain ⟨c0, c1, c2, c3, c4, c5, c6, c7, c8, c9, c10, c11, c12, c13⟩ := h1
          have eL : ∀ r', r' < 5 → Ln (wrN N (10 + 16 * r + p) w (N 4)) r' = Ln (upN N (10 + 16 * r + p) w) r' := fun r' hr' => eN (114 + r') (by omega)
          have e0 := eN 0 (by omega)
          have e1 := eN 1 (by omega)
          have e2 := eN 2 (by omega)
          have e3 := eN 3 (by omega)
          have e4 := eN 4 (by omega)
          have e5 := eN 5 (by omega)
          have e6 := eN 6 (by omega)
          refine ⟨by rw [e0]; exact c0, by rw [e1]; exact c1, by rw [e2]; exact c2, by rw [e3, e2]; exact c3, by rw [e4]; exact c4, by rw [e5]; exact c5, by rw [e6]; exact c6, fun r' hr' => by rw [eL r' hr']; exact c7 r' hr', fun r' hr' => ?_, fun k hk => by rw [eN _ (by omega)]; exact c9 k hk, fun k hk => by rw [eN _ (by omega)]; exact c10 k hk, fun k hk => ?_, ?_, fun k hk => ?_⟩
          · rw [e0] at hr'; rw [eL r' (by omega)]; exact c8 r' hr'
          · rw [e6] at hk; have c6' := c6; rw [e1, eN (207 + 3 * k) (by omega), eN (208 + 3 * k) (by omega), eN (209 + 3 * k) (by omega)]; exact c11 k hk
          · exact SB_ext c12 (fun u hu => eN _ (by unfold ts; split <;> omega))
          · have hk' : k < N 4 := by rw [e4, upN_o _ (by omega)] at hk; exact hk
            obtain ⟨s0, s1, s2, s3, s4, s5, s6⟩ := hN.2.2.2.2.2.2.2.2.2.2.2.2.2 k hk'
            have z : ∀ u, u < 137 → u ≠ 3 + (r * 16 + p) → wrN N (10 + 16 * r + p) w (N 4) (231 + 137 * k + u) = N (231 + 137 * k + u) := fun u hu qu => by unfold wrN; rw [if_neg (by omega)]
            refine ⟨?_, ?_, ?_, fun j hj => ?_, fun j hj => ?_, fun j hj => ?_, fun j hj => ?_⟩
            · show wrN _ _ _ _ _ ≤ _; rw [z 0 (by omega) (by omega)]; exact s0
            · show wrN _ _ _ _ _ < _; rw [z 1 (by omega) (by omega)]; exact s1
            · show wrN _ _ _ _ _ ≤ _; rw [z 2 (by omega) (by omega)]; exact s2
            · by_cases qj : j = r * 16 + p
              · subst qj
                have z1 : wrN N (10 + 16 * r + p) w (N 4) (231 + 137 * k + (3 + (r * 16 + p))) = w := by unfold wrN; rw [if_pos (Or.inr (by omega))]
                show wrN _ _ _ _ _ ≤ _; rw [z1]; exact hw
              · show wrN _ _ _ _ _ ≤ _; rw [z _ (by omega) (by omega)]; exact s3 j hj
            · show wrN _ _ _ _ _ ≤ _; rw [z _ (by omega) (by omega)]; exact s4 j hj
            · show wrN _ _ _ _ _ = _; rw [z _ (by omega) (by omega)]; exact s5 j hj
            · show wrN _ _ _ _ _ < _; rw [z _ (by omega) (by omega)]; exact s6 j hj
        refine ⟨1, I1, J', ?_, ?_, _, G, e, f, tp, R0_mut hT h (fun a q1 q2 => by rw [j1 a q2, sI_o _ _ q2, fr a q1]) (RW_fr hX (fun a q1 q2 => by rw [j1 a (by omega), sI_o _ _ (by omega)])) j2 hNB ?_⟩
        · simp (disch := omega) only [f11_worn, f0_tellWear, o_1_0 hO, o_1_1 hO, o_1_2 hO, o_1_3 hO, o_1_4 hO, o_1_5 hO, o_1_6 hO, o_1_7 hO, o_1_8 hO, o_1_9 hO, o_2_0 hO, o_2_1 hO, o_2_2 hO, o_2_3 hO, o_2_4 hO, o_2_5 hO, o_3_0 hO, o_3_1 hO, o_3_2 hO, o_6_0 hO, o_6_1 hO, o_6_2 hO, o_10_0 hO, o_331_0 hO, ex, t1, qL, qb, qbl, qadd, qmul, qsubm, qdm, qsub, qdiv, qcl, qlt, qle, qeq, nltT, nltF, nleT, nleF, neqT, neqF, or_false, false_or, or_true, true_or, or_self, and_true, true_and, and_false, false_and, and_self, not_true_eq_false, not_false_eq_true, ↓reduceIte]
        · rw [← j3]
          simp (disch := omega) only [f12_worn, m_isPlace hM1 hB hr hp, m_inT (Nat.zero_le w) hw, hM.1, qL, qb, qbl, qadd, qmul, qsubm, qdm, qsub, qdiv, qcl, qlt, qle, qeq, nltT, nltF, nleT, nleF, neqT, neqF, or_false, false_or, or_true, true_or, or_self, and_true, true_and, and_false, false_and, and_self, not_true_eq_false, not_false_eq_true, ↓reduceIte]
        · rw [eN 2 (by omega), upN_o _ (by omega)]
      · refine ⟨0, I, I, ?_, ?_, N, G, e, f, tp, h⟩
        · rcases outB (by omega) (by omega) h3 with q | ⟨q, q'⟩
          · simp (disch := omega) only [f11_worn, o_1_0 hO, o_1_1 hO, o_1_2 hO, o_1_3 hO, o_1_4 hO, o_1_5 hO, o_1_6 hO, o_1_7 hO, o_1_8 hO, o_1_9 hO, o_2_0 hO, o_2_1 hO, o_2_2 hO, o_2_3 hO, o_2_4 hO, o_2_5 hO, o_3_0 hO, o_3_1 hO, o_3_2 hO, o_6_0 hO, o_6_1 hO, o_6_2 hO, o_10_0 hO, o_331_0 hO, ex, q, qL, qb, qbl, qadd, qmul, qsubm, qdm, qsub, qdiv, qcl, qlt, qle, qeq, nltT, nltF, nleT, nleF, neqT, neqF, or_false, false_or, or_true, true_or, or_self, and_true, true_and, and_false, false_and, and_self, not_true_eq_false, not_false_eq_true, ↓reduceIte]
          · have q2 : ¬ p3 ≤ nI 9 := fun z => by rw [i_le] at z; rw [i_lt] at q'; omega
            simp (disch := omega) only [f11_worn, o_1_0 hO, o_1_1 hO, o_1_2 hO, o_1_3 hO, o_1_4 hO, o_1_5 hO, o_1_6 hO, o_1_7 hO, o_1_8 hO, o_1_9 hO, o_2_0 hO, o_2_1 hO, o_2_2 hO, o_2_3 hO, o_2_4 hO, o_2_5 hO, o_3_0 hO, o_3_1 hO, o_3_2 hO, o_6_0 hO, o_6_1 hO, o_6_2 hO, o_10_0 hO, o_331_0 hO, ex, q, q2, qL, qb, qbl, qadd, qmul, qsubm, qdm, qsub, qdiv, qcl, qlt, qle, qeq, nltT, nltF, nleT, nleF, neqT, neqF, or_false, false_or, or_true, true_or, or_self, and_true, true_and, and_false, false_and, and_self, not_true_eq_false, not_false_eq_true, ↓reduceIte]
        · simp (disch := omega) only [f12_worn, m_isPlace hM hB hr hp, m_inF h3, qL, qb, qbl, qadd, qmul, qsubm, qdm, qsub, qdiv, qcl, qlt, qle, qeq, nltT, nltF, nleT, nleF, neqT, neqF, or_false, false_or, or_true, true_or, or_self, and_true, true_and, and_false, false_and, and_self, not_true_eq_false, not_false_eq_true, ↓reduceIte]
    · refine ⟨0, I, I, ?_, ?_, N, G, e, f, tp, h⟩
      · simp (disch := omega) only [f11_worn, o_1_0 hO, o_1_1 hO, o_1_2 hO, o_1_3 hO, o_1_4 hO, o_1_5 hO, o_1_6 hO, o_1_7 hO, o_1_8 hO, o_1_9 hO, o_2_0 hO, o_2_1 hO, o_2_2 hO, o_2_3 hO, o_2_4 hO, o_2_5 hO, o_3_0 hO, o_3_1 hO, o_3_2 hO, o_6_0 hO, o_6_1 hO, o_6_2 hO, o_10_0 hO, o_331_0 hO, x_noPlace hV hB hr h2, qL, qb, qbl, qadd, qmul, qsubm, qdm, qsub, qdiv, qcl, qlt, qle, qeq, nltT, nltF, nleT, nleF, neqT, neqF, or_false, false_or, or_true, true_or, or_self, and_true, true_and, and_false, false_and, and_self, not_true_eq_false, not_false_eq_true, ↓reduceIte]
      · simp (disch := omega) only [f12_worn, m_noPlace hM hB hr h2, qL, qb, qbl, qadd, qmul, qsubm, qdm, qsub, qdiv, qcl, qlt, qle, qeq, nltT, nltF, nleT, nleF, neqT, neqF, or_false, false_or, or_true, true_or, or_self, and_true, true_and, and_false, false_and, and_self, not_true_eq_false, not_false_eq_true, ↓reduceIte]
  · refine ⟨0, I, I, ?_, ?_, N, G, e, f, tp, h⟩
    · simp (disch := omega) only [f11_worn, o_1_0 hO, o_1_1 hO, o_1_2 hO, o_1_3 hO, o_1_4 hO, o_1_5 hO, o_1_6 hO, o_1_7 hO, o_1_8 hO, o_1_9 hO, o_2_0 hO, o_2_1 hO, o_2_2 hO, o_2_3 hO, o_2_4 hO, o_2_5 hO, o_3_0 hO, o_3_1 hO, o_3_2 hO, o_6_0 hO, o_6_1 hO, o_6_2 hO, o_10_0 hO, o_331_0 hO, x_noPlaceR hV hB h1, qL, qb, qbl, qadd, qmul, qsubm, qdm, qsub, qdiv, qcl, qlt, qle, qeq, nltT, nltF, nleT, nleF, neqT, neqF, or_false, false_or, or_true, true_or, or_self, and_true, true_and, and_false, false_and, and_self, not_true_eq_false, not_false_eq_true, ↓reduceIte]
    · simp (disch := omega) only [f12_worn, m_noPlaceR hM hB h1, qL, qb, qbl, qadd, qmul, qsubm, qdm, qsub, qdiv, qcl, qlt, qle, qeq, nltT, nltF, nleT, nleF, neqT, neqF, or_false, false_or, or_true, true_or, or_self, and_true, true_and, and_false, false_and, and_self, not_true_eq_false, not_false_eq_true, ↓reduceIte]
end WO
