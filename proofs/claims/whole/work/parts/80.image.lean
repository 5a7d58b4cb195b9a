/-! image and back, the tape fed -/
def OW (O : TO) (wh : Nat) : Prop := (rO O wh 0 = wh + 1 ∧ rO O wh 1 = wh + 8 ∧ rO O wh 2 = wh + 130 ∧ rO O wh 3 = wh + 131 ∧ rO O wh 4 = wh + 132 ∧ rO O wh 5 = wh + 133) ∧ (rO O (wh + 1) 0 = wh + 2 ∧ rO O (wh + 1) 1 = wh + 3 ∧ rO O (wh + 1) 2 = wh + 4) ∧ (rO O (wh + 4) 0 = wh + 4 + 1 ∧ rO O (wh + 4) 1 = wh + 4 + 2 ∧ rO O (wh + 4) 2 = wh + 4 + 3) ∧ rO O (wh + 8) 0 = wh + 9 ∧ ∀ k, k < 30 → rO O (wh + 9) k = wh + 10 + 4 * k ∧ rO O (wh + 10 + 4 * k) 0 = wh + 10 + 4 * k + 1 ∧ rO O (wh + 10 + 4 * k) 1 = wh + 10 + 4 * k + 2 ∧ rO O (wh + 10 + 4 * k) 2 = wh + 10 + 4 * k + 3
theorem OW_2 {O : TO} (h : OF O) : OW O 2 := ⟨⟨o_2_0 h, o_2_1 h, o_2_2 h, o_2_3 h, o_2_4 h, o_2_5 h⟩, ⟨o_3_0 h, o_3_1 h, o_3_2 h⟩, ⟨o_6_0 h, o_6_1 h, o_6_2 h⟩, o_10_0 h, h.2.1⟩
theorem OW_136 {O : TO} (h : OF O) : OW O 136 := ⟨⟨o_136_0 h, o_136_1 h, o_136_2 h, o_136_3 h, o_136_4 h, o_136_5 h⟩, ⟨o_137_0 h, o_137_1 h, o_137_2 h⟩, ⟨o_140_0 h, o_140_1 h, o_140_2 h⟩, o_144_0 h, h.2.2.1⟩
section IM
variable {TX : TI → Nat → Prop} {I : TI} {O : TO} {n : Nat} {N : TN}
theorem takeW {wa wb : Nat} (ha : rO O wa 0 = wa + 1 ∧ rO O wa 1 = wa + 2 ∧ rO O wa 2 = wa + 3) (ha' : rO O (wa + 3) 0 = wa + 3 + 1 ∧ rO O (wa + 3) 1 = wa + 3 + 2 ∧ rO O (wa + 3) 2 = wa + 3 + 3) (hb : rO O wb 0 = wb + 1 ∧ rO O wb 1 = wb + 2 ∧ rO O wb 2 = wb + 3) (hb' : rO O (wb + 3) 0 = wb + 3 + 1 ∧ rO O (wb + 3) 1 = wb + 3 + 2 ∧ rO O (wb + 3) 2 = wb + 3 + 3) (hd : wa + 6 < wb ∨ wb + 6 < wa) : ∃ I1, f10_take I O wa wb = some I1 ∧ (∀ r, r < 5 → I1 (wa + 1) r = I (wb + 1) r) ∧ (∀ k, k < 80 → I1 (wa + 2) k = I (wb + 2) k) ∧ (∀ u, u < 137 → I1 (wa + 3 + sa u) (sk u) = I (wb + 3 + sa u) (sk u)) ∧ I1 wa 3 = I wb 3 ∧ I1 wa 4 = I wb 4 ∧ ∀ a, a < wa ∨ wa + 6 < a → I1 a = I a := by
  obtain ⟨I', t1, t2, t3⟩ := take_ok (I := cpI (cpI I (wb + 1) (wa + 1) 0 0 5) (wb + 2) (wa + 2) 0 0 80) ha' hb' (by omega)
  refine ⟨sI (sI I' wa 3 (I wb 3)) wa 4 (I wb 4), ?_, fun r hr => ?_, fun k hk => ?_, fun u hu => ?_, ?_, ?_, fun a h => ?_⟩
  · have e1 : I' wb 3 = I wb 3 := by rw [t3 wb (by omega), cp_o _ (by omega), cp_o _ (by omega)]
    have e2 : I' wb 4 = I wb 4 := by rw [t3 wb (by omega), cp_o _ (by omega), cp_o _ (by omega)]
    simp (disch := omega) only [f10_take, ha.1, ha.2.1, ha.2.2, hb.1, hb.2.1, hb.2.2, t1, e1, sI_o, e2, qL, qb, qbl, qadd, qmul, qsubm, qdm, qsub, qdiv, qcl, qlt, qle, qeq, nltT, nltF, nleT, nleF, neqT, neqF, or_false, false_or, or_true, true_or, or_self, and_true, true_and, and_false, false_and, and_self, not_true_eq_false, not_false_eq_true, ↓reduceIte]
  · rw [sI_o _ _ (by omega), sI_o _ _ (by omega), t3 _ (by omega), cp_o _ (by omega), cp_s _ hr]
  · rw [sI_o _ _ (by omega), sI_o _ _ (by omega), t3 _ (by omega), cp_s _ hk, cp_o _ (by omega)]
  · have := sa_le u
    rw [sI_o _ _ (by omega), sI_o _ _ (by omega), t2 u hu, cp_o _ (by omega), cp_o _ (by omega)]
  · rw [sI_k _ _ (by omega), sI_s]
  · rw [sI_s]
  · rw [sI_o _ _ (by omega), sI_o _ _ (by omega), t3 _ (by omega), cp_o _ (by omega), cp_o _ (by omega)]
theorem takeHl {d s e M : Nat} (hd : OW O d) (hs : OW O s) (hx : d + 134 ≤ s ∨ s + 134 ≤ d) (he : e < 30) (hM : M ≤ 30) : ∀ (c i m : Nat) (I : TI), i + c = M → c < m → I (d + 8) 1 = nI e → I (d + 8) 2 = nI M → ∃ I2, f0_take_c18 n O m I (d + 8) (s + 8) (nI i) = some I2 ∧ (∀ k, i ≤ k → k < M → ∀ u, u < 137 → I2 (d + 10 + 4 * ((e + k) % 30) + sa u) (sk u) = I (s + 10 + 4 * ((e + k) % 30) + sa u) (sk u)) ∧ (∀ k, k < i → ∀ j, j < 4 → I2 (d + 10 + 4 * ((e + k) % 30) + j) = I (d + 10 + 4 * ((e + k) % 30) + j)) ∧ ∀ a, a < d + 10 ∨ d + 130 ≤ a → I2 a = I a := by
  intro c
  induction c with
  | zero =>
    intro i m I hi hm h1 h2
    obtain ⟨m', rfl⟩ : ∃ m', m = m' + 1 := ⟨m - 1, by omega⟩
    refine ⟨I, ?_, fun k q1 q2 => by omega, fun k _ j _ => rfl, fun a _ => rfl⟩
    simp (disch := omega) only [f0_take_c18, h2, qL, qb, qbl, qadd, qmul, qsubm, qdm, qsub, qdiv, qcl, qlt, qle, qeq, nltT, nltF, nleT, nleF, neqT, neqF, or_false, false_or, or_true, true_or, or_self, and_true, true_and, and_false, false_and, and_self, not_true_eq_false, not_false_eq_true, ↓reduceIte]
  | succ c ih =>
    intro i m I hi hm h1 h2
    obtain ⟨m', rfl⟩ : ∃ m', m = m' + 1 := ⟨m - 1, by omega⟩
    have hq : (e + i) % 30 < 30 := Nat.mod_lt _ (by omega)
    obtain ⟨od, od'⟩ := hd.2.2.2.2 _ hq
    obtain ⟨os, os'⟩ := hs.2.2.2.2 _ hq
    obtain ⟨I', t1, t2, t3⟩ := take_ok (I := I) od' os' (by omega)
    have g1 : I' (d + 8) 1 = nI e := by rw [t3 _ (by omega)]; exact h1
    have g2 : I' (d + 8) 2 = nI M := by rw [t3 _ (by omega)]; exact h2
    obtain ⟨I2, a1, a2, a3, a4⟩ := ih (i + 1) m' I' (by omega) (by omega) g1 g2
    refine ⟨I2, ?_, fun k q1 q2 u hu => ?_, fun k q1 j hj => ?_, fun a ha => ?_⟩
    · have sl := slot_ok h1 he (i := i) (by omega)
      rw [← a1]
      simp (disch := omega) only [f0_take_c18, h2, sl, hd.2.2.2.1, hs.2.2.2.1, od, os, t1, qL, qb, qbl, qadd, qmul, qsubm, qdm, qsub, qdiv, qcl, qlt, qle, qeq, nltT, nltF, nleT, nleF, neqT, neqF, or_false, false_or, or_true, true_or, or_self, and_true, true_and, and_false, false_and, and_self, not_true_eq_false, not_false_eq_true, ↓reduceIte]
    · have hsa := sa_le u
      by_cases qk : k = i
      · subst qk
        rw [a3 k (by omega) (sa u) (by omega), t2 u hu]
      · rw [a2 k (by omega) q2 u hu, t3 _ (by omega)]
    · rw [a3 k (by omega) j hj, t3 _ (by omega)]
    · rw [a4 a ha, t3 _ (by omega)]
theorem takeAll (hn : 100000 ≤ n) {d s e : Nat} (hd : OW O d) (hs : OW O s) (hx : d + 134 ≤ s ∨ s + 134 ≤ d) (h : RW I s e N) (h30 : N 4 ≤ 30) : ∃ I', f9_take n I O d s = some I' ∧ RW I' d e N ∧ ∀ a, a < d ∨ d + 134 ≤ a → I' a = I a := by
  obtain ⟨hw, hs1, he, hst⟩ := h
  obtain ⟨I1, a1, a2, a3, a4, a5, a6, a7⟩ := takeW (I := I) (wa := d + 1) (wb := s + 1) hd.2.1 hd.2.2.1 hs.2.1 hs.2.2.1 (by omega)
  have m4 : I (s + 8) 2 = nI (N 4) := hw 4 (Or.inl (by omega))
  obtain ⟨I2, c1, c2, -, c4⟩ := takeHl (n := n) hd hs hx he h30 (N 4) 0 n (sI (sI I1 (d + 8) 1 (nI e)) (d + 8) 2 (nI (N 4))) (by omega) (by omega) (by rw [sI_k _ _ (by omega), sI_s]) (sI_s _ _ _ _)
  have c2' : ∀ k, k < N 4 → ∀ u, u < 137 → I2 (d + 10 + 4 * ((e + k) % 30) + sa u) (sk u) = nI (N (231 + 137 * k + u)) := fun k hk u hu => by
    have hsa := sa_le u
    have hq : (e + k) % 30 < 30 := Nat.mod_lt _ (by omega)
    rw [c2 k (by omega) hk u hu, sI_o _ _ (by omega), sI_o _ _ (by omega), a7 _ (by omega)]; exact hst k hk u hu
  have fr : ∀ a, (a < d + 10 ∨ d + 130 ≤ a) → a ≠ d + 8 → (a < d + 1 ∨ d + 7 < a) → I2 a = I a := fun a q1 q2 q3 => by
    rw [c4 a q1, sI_o _ _ q2, sI_o _ _ q2, a7 a (by omega)]
  have fr1 : ∀ a, (d + 1 ≤ a ∧ a ≤ d + 7) → I2 a = I1 a := fun a q => by
    rw [c4 a (by omega), sI_o _ _ (by omega), sI_o _ _ (by omega)]
  have h81 : I2 (d + 8) 1 = nI e := by rw [c4 _ (by omega), sI_k _ _ (by omega), sI_s]
  have h82 : I2 (d + 8) 2 = nI (N 4) := by rw [c4 _ (by omega), sI_s]
  have g : ∀ t, dm t → I (la s t) (lk t) = nI (N t) := hw
  have fs : ∀ a, s ≤ a → a < s + 134 → I2 a = I a := fun a q1 q2 => fr a (by omega) (by omega) (by omega)
  refine ⟨sI (sI (sI (sI (cpI (cpI (cpI (cpI I2 (s + 130) (d + 130) 0 0 8) (s + 131) (d + 131) 0 0 8) (s + 132) (d + 132) 0 0 8) (s + 133) (d + 133) 0 0 8) d 6 (nI (N 5))) d 7 (nI (N 6))) d 8 (nI (N 2))) d 9 (nI (N 3)), ?_, ⟨fun t ht => ?_, ?_, he, fun k hk u hu => ?_⟩, fun a ha => ?_⟩
  · have e1 : I1 (s + 8) 1 = nI e := by rw [a7 _ (by omega)]; exact hs1
    have e2 : I1 (s + 8) 2 = nI (N 4) := by rw [a7 _ (by omega)]; exact m4
    have f5 : I2 s 6 = nI (N 5) := by rw [fs s (by omega) (by omega)]; exact g 5 (Or.inl (by omega))
    have f6 : I2 s 7 = nI (N 6) := by rw [fs s (by omega) (by omega)]; exact g 6 (Or.inl (by omega))
    have f2 : I2 s 8 = nI (N 2) := by rw [fs s (by omega) (by omega)]; exact g 2 (Or.inl (by omega))
    have f3 : I2 s 9 = nI (N 3) := by rw [fs s (by omega) (by omega)]; exact g 3 (Or.inl (by omega))
    simp (disch := omega) only [f9_take, hd.1.1, hs.1.1, a1, f0_take, hd.1.2.1, hs.1.2.1, e1, sI_o, e2, c1, hd.1.2.2.1, hs.1.2.2.1, hd.1.2.2.2.1, hs.1.2.2.2.1, hd.1.2.2.2.2.1, hs.1.2.2.2.2.1, hd.1.2.2.2.2.2, hs.1.2.2.2.2.2, cp_o, f5, f6, f2, f3, qL, qb, qbl, qadd, qmul, qsubm, qdm, qsub, qdiv, qcl, qlt, qle, qeq, nltT, nltF, nleT, nleF, neqT, neqF, or_false, false_or, or_true, true_or, or_self, and_true, true_and, and_false, false_and, and_self, not_true_eq_false, not_false_eq_true, ↓reduceIte]
  · have q := g t ht
    unfold dm at ht
    by_cases h1 : t < 2
    · have z : t = 0 ∨ t = 1 := by omega
      rcases z with rfl | rfl
      · show _ = _
        have q' : I (s + 1) 3 = nI (N 0) := q
        have e1 : la d 0 = d + 1 := rfl
        have e2 : lk 0 = 3 := rfl
        simp (disch := omega) only [e1, e2, sI_o, cp_o, fr1, a5, q', qL, qb, qbl, qadd, qmul, qsubm, qdm, qsub, qdiv, qcl, qlt, qle, qeq, nltT, nltF, nleT, nleF, neqT, neqF, or_false, false_or, or_true, true_or, or_self, and_true, true_and, and_false, false_and, and_self, not_true_eq_false, not_false_eq_true, ↓reduceIte]
      · have q' : I (s + 1) 4 = nI (N 1) := q
        have e1 : la d 1 = d + 1 := rfl
        have e2 : lk 1 = 4 := rfl
        simp (disch := omega) only [e1, e2, sI_o, cp_o, fr1, a6, q', qL, qb, qbl, qadd, qmul, qsubm, qdm, qsub, qdiv, qcl, qlt, qle, qeq, nltT, nltF, nleT, nleF, neqT, neqF, or_false, false_or, or_true, true_or, or_self, and_true, true_and, and_false, false_and, and_self, not_true_eq_false, not_false_eq_true, ↓reduceIte]
    by_cases h2 : t < 4
    · have z : t = 2 ∨ t = 3 := by omega
      rcases z with rfl | rfl
      · have e1 : la d 2 = d := rfl
        have e2 : lk 2 = 8 := rfl
        simp (disch := omega) only [e1, e2, sI_s, sI_k, qL, qb, qbl, qadd, qmul, qsubm, qdm, qsub, qdiv, qcl, qlt, qle, qeq, nltT, nltF, nleT, nleF, neqT, neqF, or_false, false_or, or_true, true_or, or_self, and_true, true_and, and_false, false_and, and_self, not_true_eq_false, not_false_eq_true, ↓reduceIte]
      · have e1 : la d 3 = d := rfl
        have e2 : lk 3 = 9 := rfl
        simp (disch := omega) only [e1, e2, sI_s, sI_k, qL, qb, qbl, qadd, qmul, qsubm, qdm, qsub, qdiv, qcl, qlt, qle, qeq, nltT, nltF, nleT, nleF, neqT, neqF, or_false, false_or, or_true, true_or, or_self, and_true, true_and, and_false, false_and, and_self, not_true_eq_false, not_false_eq_true, ↓reduceIte]
    by_cases h3 : t < 5
    · have z : t = 4 := by omega
      subst z
      have e1 : la d 4 = d + 8 := rfl
      have e2 : lk 4 = 2 := rfl
      simp (disch := omega) only [e1, e2, sI_o, cp_o, h82, qL, qb, qbl, qadd, qmul, qsubm, qdm, qsub, qdiv, qcl, qlt, qle, qeq, nltT, nltF, nleT, nleF, neqT, neqF, or_false, false_or, or_true, true_or, or_self, and_true, true_and, and_false, false_and, and_self, not_true_eq_false, not_false_eq_true, ↓reduceIte]
    by_cases h4 : t < 7
    · have z : t = 5 ∨ t = 6 := by omega
      rcases z with rfl | rfl
      · have e1 : la d 5 = d := rfl
        have e2 : lk 5 = 6 := rfl
        simp (disch := omega) only [e1, e2, sI_s, sI_k, qL, qb, qbl, qadd, qmul, qsubm, qdm, qsub, qdiv, qcl, qlt, qle, qeq, nltT, nltF, nleT, nleF, neqT, neqF, or_false, false_or, or_true, true_or, or_self, and_true, true_and, and_false, false_and, and_self, not_true_eq_false, not_false_eq_true, ↓reduceIte]
      · have e1 : la d 6 = d := rfl
        have e2 : lk 6 = 7 := rfl
        simp (disch := omega) only [e1, e2, sI_s, sI_k, qL, qb, qbl, qadd, qmul, qsubm, qdm, qsub, qdiv, qcl, qlt, qle, qeq, nltT, nltF, nleT, nleF, neqT, neqF, or_false, false_or, or_true, true_or, or_self, and_true, true_and, and_false, false_and, and_self, not_true_eq_false, not_false_eq_true, ↓reduceIte]
    by_cases h5 : t < 114 ∨ 231 ≤ t
    · obtain ⟨u, hu, rfl⟩ : ∃ u, u < 137 ∧ t = ts u := by
        by_cases z : t < 114
        · exact ⟨t - 7, by omega, by unfold ts; rw [if_pos (by omega)]; omega⟩
        · exact ⟨t - 4234, by omega, by unfold ts; rw [if_neg (by omega)]; omega⟩
      have r1 := ts_la (wh := d) hu
      have r2 := ts_la (wh := s) hu
      rw [r2.1, r2.2.1] at q
      have hsa := sa_le u
      have w := a4 u hu
      rw [r1.1, r1.2.1]
      have w' : I1 (d + 4 + sa u) (sk u) = nI (N (ts u)) := by rw [← q]; exact w
      simp (disch := omega) only [sI_o, cp_o, fr1, w', qL, qb, qbl, qadd, qmul, qsubm, qdm, qsub, qdiv, qcl, qlt, qle, qeq, nltT, nltF, nleT, nleF, neqT, neqF, or_false, false_or, or_true, true_or, or_self, and_true, true_and, and_false, false_and, and_self, not_true_eq_false, not_false_eq_true, ↓reduceIte]
    by_cases h6 : t < 119
    · have e1 : la d t = d + 2 := by simp (disch := omega) only [la, qL, qb, qbl, qadd, qmul, qsubm, qdm, qsub, qdiv, qcl, qlt, qle, qeq, nltT, nltF, nleT, nleF, neqT, neqF, or_false, false_or, or_true, true_or, or_self, and_true, true_and, and_false, false_and, and_self, not_true_eq_false, not_false_eq_true, ↓reduceIte]
      have e2 : la s t = s + 2 := by simp (disch := omega) only [la, qL, qb, qbl, qadd, qmul, qsubm, qdm, qsub, qdiv, qcl, qlt, qle, qeq, nltT, nltF, nleT, nleF, neqT, neqF, or_false, false_or, or_true, true_or, or_self, and_true, true_and, and_false, false_and, and_self, not_true_eq_false, not_false_eq_true, ↓reduceIte]
      have e3 : lk t = t - 114 := by simp (disch := omega) only [lk, qL, qb, qbl, qadd, qmul, qsubm, qdm, qsub, qdiv, qcl, qlt, qle, qeq, nltT, nltF, nleT, nleF, neqT, neqF, or_false, false_or, or_true, true_or, or_self, and_true, true_and, and_false, false_and, and_self, not_true_eq_false, not_false_eq_true, ↓reduceIte]
      rw [e2, e3] at q
      have w := a2 (t - 114) (by omega)
      have w' : I1 (d + 2) (t - 114) = nI (N t) := by rw [← q]; exact w
      simp (disch := omega) only [e1, e3, sI_o, cp_o, fr1, w', qL, qb, qbl, qadd, qmul, qsubm, qdm, qsub, qdiv, qcl, qlt, qle, qeq, nltT, nltF, nleT, nleF, neqT, neqF, or_false, false_or, or_true, true_or, or_self, and_true, true_and, and_false, false_and, and_self, not_true_eq_false, not_false_eq_true, ↓reduceIte]
    by_cases h7 : t < 199
    · have e1 : la d t = d + 3 := by simp (disch := omega) only [la, qL, qb, qbl, qadd, qmul, qsubm, qdm, qsub, qdiv, qcl, qlt, qle, qeq, nltT, nltF, nleT, nleF, neqT, neqF, or_false, false_or, or_true, true_or, or_self, and_true, true_and, and_false, false_and, and_self, not_true_eq_false, not_false_eq_true, ↓reduceIte]
      have e2 : la s t = s + 3 := by simp (disch := omega) only [la, qL, qb, qbl, qadd, qmul, qsubm, qdm, qsub, qdiv, qcl, qlt, qle, qeq, nltT, nltF, nleT, nleF, neqT, neqF, or_false, false_or, or_true, true_or, or_self, and_true, true_and, and_false, false_and, and_self, not_true_eq_false, not_false_eq_true, ↓reduceIte]
      have e3 : lk t = t - 119 := by simp (disch := omega) only [lk, qL, qb, qbl, qadd, qmul, qsubm, qdm, qsub, qdiv, qcl, qlt, qle, qeq, nltT, nltF, nleT, nleF, neqT, neqF, or_false, false_or, or_true, true_or, or_self, and_true, true_and, and_false, false_and, and_self, not_true_eq_false, not_false_eq_true, ↓reduceIte]
      rw [e2, e3] at q
      have w := a3 (t - 119) (by omega)
      have w' : I1 (d + 3) (t - 119) = nI (N t) := by rw [← q]; exact w
      simp (disch := omega) only [e1, e3, sI_o, cp_o, fr1, w', qL, qb, qbl, qadd, qmul, qsubm, qdm, qsub, qdiv, qcl, qlt, qle, qeq, nltT, nltF, nleT, nleF, neqT, neqF, or_false, false_or, or_true, true_or, or_self, and_true, true_and, and_false, false_and, and_self, not_true_eq_false, not_false_eq_true, ↓reduceIte]
    by_cases h8 : t < 207
    · have e1 : la d t = d + 130 := by simp (disch := omega) only [la, qL, qb, qbl, qadd, qmul, qsubm, qdm, qsub, qdiv, qcl, qlt, qle, qeq, nltT, nltF, nleT, nleF, neqT, neqF, or_false, false_or, or_true, true_or, or_self, and_true, true_and, and_false, false_and, and_self, not_true_eq_false, not_false_eq_true, ↓reduceIte]
      have e2 : la s t = s + 130 := by simp (disch := omega) only [la, qL, qb, qbl, qadd, qmul, qsubm, qdm, qsub, qdiv, qcl, qlt, qle, qeq, nltT, nltF, nleT, nleF, neqT, neqF, or_false, false_or, or_true, true_or, or_self, and_true, true_and, and_false, false_and, and_self, not_true_eq_false, not_false_eq_true, ↓reduceIte]
      have e3 : lk t = t - 199 := by simp (disch := omega) only [lk, qL, qb, qbl, qadd, qmul, qsubm, qdm, qsub, qdiv, qcl, qlt, qle, qeq, nltT, nltF, nleT, nleF, neqT, neqF, or_false, false_or, or_true, true_or, or_self, and_true, true_and, and_false, false_and, and_self, not_true_eq_false, not_false_eq_true, ↓reduceIte]
      rw [e2, e3] at q
      simp (disch := omega) only [e1, e3, sI_o, cp_o, cp_s, fs, q, qL, qb, qbl, qadd, qmul, qsubm, qdm, qsub, qdiv, qcl, qlt, qle, qeq, nltT, nltF, nleT, nleF, neqT, neqF, or_false, false_or, or_true, true_or, or_self, and_true, true_and, and_false, false_and, and_self, not_true_eq_false, not_false_eq_true, ↓reduceIte]
    · have z : (t - 207) % 3 = 0 ∨ (t - 207) % 3 = 1 ∨ (t - 207) % 3 = 2 := by omega
      have e3 : lk t = (t - 207) / 3 := by simp (disch := omega) only [lk, qL, qb, qbl, qadd, qmul, qsubm, qdm, qsub, qdiv, qcl, qlt, qle, qeq, nltT, nltF, nleT, nleF, neqT, neqF, or_false, false_or, or_true, true_or, or_self, and_true, true_and, and_false, false_and, and_self, not_true_eq_false, not_false_eq_true, ↓reduceIte]
      rcases z with z | z | z
      · have e1 : la d t = d + 131 := by simp (disch := omega) only [la, z, qL, qb, qbl, qadd, qmul, qsubm, qdm, qsub, qdiv, qcl, qlt, qle, qeq, nltT, nltF, nleT, nleF, neqT, neqF, or_false, false_or, or_true, true_or, or_self, and_true, true_and, and_false, false_and, and_self, not_true_eq_false, not_false_eq_true, ↓reduceIte]
        have e2 : la s t = s + 131 := by simp (disch := omega) only [la, z, qL, qb, qbl, qadd, qmul, qsubm, qdm, qsub, qdiv, qcl, qlt, qle, qeq, nltT, nltF, nleT, nleF, neqT, neqF, or_false, false_or, or_true, true_or, or_self, and_true, true_and, and_false, false_and, and_self, not_true_eq_false, not_false_eq_true, ↓reduceIte]
        rw [e2, e3] at q
        simp (disch := omega) only [e1, e3, sI_o, cp_o, cp_s, fs, q, qL, qb, qbl, qadd, qmul, qsubm, qdm, qsub, qdiv, qcl, qlt, qle, qeq, nltT, nltF, nleT, nleF, neqT, neqF, or_false, false_or, or_true, true_or, or_self, and_true, true_and, and_false, false_and, and_self, not_true_eq_false, not_false_eq_true, ↓reduceIte]
      · have e1 : la d t = d + 132 := by simp (disch := omega) only [la, z, qL, qb, qbl, qadd, qmul, qsubm, qdm, qsub, qdiv, qcl, qlt, qle, qeq, nltT, nltF, nleT, nleF, neqT, neqF, or_false, false_or, or_true, true_or, or_self, and_true, true_and, and_false, false_and, and_self, not_true_eq_false, not_false_eq_true, ↓reduceIte]
        have e2 : la s t = s + 132 := by simp (disch := omega) only [la, z, qL, qb, qbl, qadd, qmul, qsubm, qdm, qsub, qdiv, qcl, qlt, qle, qeq, nltT, nltF, nleT, nleF, neqT, neqF, or_false, false_or, or_true, true_or, or_self, and_true, true_and, and_false, false_and, and_self, not_true_eq_false, not_false_eq_true, ↓reduceIte]
        rw [e2, e3] at q
        simp (disch := omega) only [e1, e3, sI_o, cp_o, cp_s, fs, q, qL, qb, qbl, qadd, qmul, qsubm, qdm, qsub, qdiv, qcl, qlt, qle, qeq, nltT, nltF, nleT, nleF, neqT, neqF, or_false, false_or, or_true, true_or, or_self, and_true, true_and, and_false, false_and, and_self, not_true_eq_false, not_false_eq_true, ↓reduceIte]
      · have e1 : la d t = d + 133 := by simp (disch := omega) only [la, z, qL, qb, qbl, qadd, qmul, qsubm, qdm, qsub, qdiv, qcl, qlt, qle, qeq, nltT, nltF, nleT, nleF, neqT, neqF, or_false, false_or, or_true, true_or, or_self, and_true, true_and, and_false, false_and, and_self, not_true_eq_false, not_false_eq_true, ↓reduceIte]
        have e2 : la s t = s + 133 := by simp (disch := omega) only [la, z, qL, qb, qbl, qadd, qmul, qsubm, qdm, qsub, qdiv, qcl, qlt, qle, qeq, nltT, nltF, nleT, nleF, neqT, neqF, or_false, false_or, or_true, true_or, or_self, and_true, true_and, and_false, false_and, and_self, not_true_eq_false, not_false_eq_true, ↓reduceIte]
        rw [e2, e3] at q
        simp (disch := omega) only [e1, e3, sI_o, cp_o, cp_s, fs, q, qL, qb, qbl, qadd, qmul, qsubm, qdm, qsub, qdiv, qcl, qlt, qle, qeq, nltT, nltF, nleT, nleF, neqT, neqF, or_false, false_or, or_true, true_or, or_self, and_true, true_and, and_false, false_and, and_self, not_true_eq_false, not_false_eq_true, ↓reduceIte]
  · simp (disch := omega) only [sI_o, cp_o, h81, qL, qb, qbl, qadd, qmul, qsubm, qdm, qsub, qdiv, qcl, qlt, qle, qeq, nltT, nltF, nleT, nleF, neqT, neqF, or_false, false_or, or_true, true_or, or_self, and_true, true_and, and_false, false_and, and_self, not_true_eq_false, not_false_eq_true, ↓reduceIte]
  · have hsa := sa_le u
    have hq : (e + k) % 30 < 30 := Nat.mod_lt _ (by omega)
    have w := c2' k hk u hu
    simp (disch := omega) only [sI_o, cp_o, w, qL, qb, qbl, qadd, qmul, qsubm, qdm, qsub, qdiv, qcl, qlt, qle, qeq, nltT, nltF, nleT, nleF, neqT, neqF, or_false, false_or, or_true, true_or, or_self, and_true, true_and, and_false, false_and, and_self, not_true_eq_false, not_false_eq_true, ↓reduceIte]
  · simp (disch := omega) only [sI_o, cp_o, fr, qL, qb, qbl, qadd, qmul, qsubm, qdm, qsub, qdiv, qcl, qlt, qle, qeq, nltT, nltF, nleT, nleF, neqT, neqF, or_false, false_or, or_true, true_or, or_self, and_true, true_and, and_false, false_and, and_self, not_true_eq_false, not_false_eq_true, ↓reduceIte]
theorem copyM {a b : Nat} (hab : a ≠ b) : ∀ (d k m : Nat) (J : TI), k + d = 4371 → d < m → ∃ J', f12_copy_c2 n m J a b (nI k) = some J' ∧ (∀ t, k ≤ t → t < 4371 → J' b t = J a t) ∧ (∀ t, t < k → J' b t = J b t) ∧ ∀ c, c ≠ b → J' c = J c := by
  intro d
  induction d with
  | zero =>
    intro k m J hk hm
    obtain ⟨m', rfl⟩ : ∃ m', m = m' + 1 := ⟨m - 1, by omega⟩
    refine ⟨J, ?_, fun t q1 q2 => by omega, fun t _ => rfl, fun c _ => rfl⟩
    simp (disch := omega) only [f12_copy_c2, qL, qb, qbl, qadd, qmul, qsubm, qdm, qsub, qdiv, qcl, qlt, qle, qeq, nltT, nltF, nleT, nleF, neqT, neqF, or_false, false_or, or_true, true_or, or_self, and_true, true_and, and_false, false_and, and_self, not_true_eq_false, not_false_eq_true, ↓reduceIte]
  | succ d ih =>
    intro k m J hk hm
    obtain ⟨m', rfl⟩ : ∃ m', m = m' + 1 := ⟨m - 1, by omega⟩
    obtain ⟨J', h1, h2, h3, h4⟩ := ih (k + 1) m' (sI J b k (J a k)) (by omega) (by omega)
    refine ⟨J', ?_, fun t q1 q2 => ?_, fun t q => ?_, fun c hc => ?_⟩
    · rw [← h1]
      simp (disch := omega) only [f12_copy_c2, qL, qb, qbl, qadd, qmul, qsubm, qdm, qsub, qdiv, qcl, qlt, qle, qeq, nltT, nltF, nleT, nleF, neqT, neqF, or_false, false_or, or_true, true_or, or_self, and_true, true_and, and_false, false_and, and_self, not_true_eq_false, not_false_eq_true, ↓reduceIte]
    · by_cases qt : t = k
      · subst qt; rw [h3 t (by omega), sI_s]
      · rw [h2 t (by omega) q2, sI_o _ _ hab]
    · rw [h3 t (by omega), sI_k _ _ (by omega)]
    · rw [h4 c hc, sI_o _ _ hc]
theorem copyM0 (hn : 100000 ≤ n) {a b : Nat} (hab : a ≠ b) (J : TI) : ∃ J', f12_copy n J a b = some J' ∧ (∀ t, t < 4371 → J' b t = J a t) ∧ ∀ c, c ≠ b → J' c = J c := by
  obtain ⟨J', h1, h2, -, h4⟩ := copyM (n := n) hab 4371 0 n J (by omega) (by omega)
  refine ⟨J', ?_, fun t ht => h2 t (by omega) ht, h4⟩
  rw [← h1]
  simp (disch := omega) only [f12_copy, qL, qb, qbl, qadd, qmul, qsubm, qdm, qsub, qdiv, qcl, qlt, qle, qeq, nltT, nltF, nleT, nleF, neqT, neqF, or_false, false_or, or_true, true_or, or_self, and_true, true_and, and_false, false_and, and_self, not_true_eq_false, not_false_eq_true, ↓reduceIte]
theorem s_image (hn : 100000 ≤ n) (hT : TXst TX) (h : RE TX I O) : ∃ (v : Int32) (I1 I2 : TI), f11_image n I O 1 = some (v, I1) ∧ f12_image n I1 O 331 = some (v, I2) ∧ RE TX I2 O := by
  obtain ⟨N, G, e, f, tp, h⟩ := h
  have hO := h.1
  have hV := RW_WV hO h.2.2.2.2.2.2.1
  have hN := h.2.2.2.1
  have hB := NB_WB hN
  have hM := h.2.1
  have hF := RW_fd h.2.2.2.2.2.2.1
  have b0 : N 0 ≤ 5 := hB.1
  have b1 : N 1 ≤ 4 := hB.2.1
  obtain ⟨I1, a1, a2, a3⟩ := takeAll hn (OW_136 hO) (OW_2 hO) (by omega) h.2.2.2.2.2.2.1 hN.2.2.2.2.1
  have hM1 : MV I1 O N := MV_fr hM (a3 332 (by omega))
  obtain ⟨J', j1, j2, j3⟩ := copyM0 hn (a := 332) (b := 333) (by omega) I1
  refine ⟨nI (N 7), I1, J', ?_, ?_, N, N, e, e, tp, ?_⟩
  · have v7 : I1 6 4 = nI (N 7) := by rw [a3 6 (by omega)]; exact hV.2.2.2.2.2.2.2.1
    simp (disch := omega) only [f11_image, o_1_0 hO, o_1_1 hO, o_1_2 hO, o_1_3 hO, o_1_4 hO, o_1_5 hO, o_1_6 hO, o_1_7 hO, o_1_8 hO, o_1_9 hO, o_2_0 hO, o_2_1 hO, o_2_2 hO, o_2_3 hO, o_2_4 hO, o_2_5 hO, o_3_0 hO, o_3_1 hO, o_3_2 hO, o_6_0 hO, o_6_1 hO, o_6_2 hO, o_10_0 hO, o_331_0 hO, a1, v7, qL, qb, qbl, qadd, qmul, qsubm, qdm, qsub, qdiv, qcl, qlt, qle, qeq, nltT, nltF, nleT, nleF, neqT, neqF, or_false, false_or, or_true, true_or, or_self, and_true, true_and, and_false, false_and, and_self, not_true_eq_false, not_false_eq_true, ↓reduceIte]
  · have e7 : J' 332 7 = nI (N 7) := by rw [j3 332 (by omega)]; exact hM1.2 7 (by omega)
    simp (disch := omega) only [f12_image, o_331_0 hO, o_331_1 hO, j1, e7, qL, qb, qbl, qadd, qmul, qsubm, qdm, qsub, qdiv, qcl, qlt, qle, qeq, nltT, nltF, nleT, nleF, neqT, neqF, or_false, false_or, or_true, true_or, or_self, and_true, true_and, and_false, false_and, and_self, not_true_eq_false, not_false_eq_true, ↓reduceIte]
  · obtain ⟨c1, c2, c3, c4, c5, c6, c7, c8, c9, c10, c11, c12⟩ := h
    have fr : ∀ a, (a < 136 ∨ 270 ≤ a) → a ≠ 333 → J' a = I a := fun a q1 q2 => by rw [j3 a q2, a3 a (by omega)]
    refine ⟨c1, MV_fr hM (fr 332 (by omega) (by omega)), fun t ht => by rw [j2 t ht]; exact hM1.2 t ht, c4, c4, Nat.le_refl _, RW_fr c7 (fun a q1 q2 => fr a (by omega) (by omega)), RW_fr a2 (fun a q1 q2 => j3 a (by omega)), ?_, ?_, by rw [fr 331 (by omega) (by omega)]; exact c11, fun t ht => hT I _ t (fun a q1 q2 => fr a (by omega) (by omega)) (fr 334 (by omega) (by omega)) (c12 t ht)⟩
    · unfold TP at *; rw [fr 278 (by omega) (by omega), fr 279 (by omega) (by omega), fr 331 (by omega) (by omega), fr 335 (by omega) (by omega)]; exact c9
    · unfold FV at *; rw [fr 1 (by omega) (by omega), fr 331 (by omega) (by omega), fr 324 (by omega) (by omega)]; exact c10
theorem s_back (hn : 100000 ≤ n) (hT : TXst TX) (h : RE TX I O) : ∃ (v : Int32) (I1 I2 : TI), f11_back n I O 1 = some (v, I1) ∧ f12_back n I1 O 331 = some (v, I2) ∧ RE TX I2 O := by
  obtain ⟨N, G, e, f, tp, h⟩ := h
  have hO := h.1
  have hV := RW_WV hO h.2.2.2.2.2.2.1
  have hN := h.2.2.2.1
  have hB := NB_WB hN
  have hM := h.2.1
  have hF := RW_fd h.2.2.2.2.2.2.1
  have b0 : N 0 ≤ 5 := hB.1
  have b1 : N 1 ≤ 4 := hB.2.1
  have hG : NB G := h.2.2.2.2.1
  obtain ⟨I1, a1, a2, a3⟩ := takeAll hn (OW_2 hO) (OW_136 hO) (by omega) h.2.2.2.2.2.2.2.1 hG.2.2.2.2.1
  obtain ⟨J', j1, j2, j3⟩ := copyM0 hn (a := 333) (b := 332) (by omega) I1
  have g333 : ∀ t, t < 4371 → I1 333 t = nI (G t) := fun t ht => by rw [a3 333 (by omega)]; exact h.2.2.1 t ht
  refine ⟨nI (G 7), I1, J', ?_, ?_, G, G, f, f, tp, ?_⟩
  · have v7 : I1 6 4 = nI (G 7) := (RW_WV hO a2).2.2.2.2.2.2.2.1
    simp (disch := omega) only [f11_back, o_1_0 hO, o_1_1 hO, o_1_2 hO, o_1_3 hO, o_1_4 hO, o_1_5 hO, o_1_6 hO, o_1_7 hO, o_1_8 hO, o_1_9 hO, o_2_0 hO, o_2_1 hO, o_2_2 hO, o_2_3 hO, o_2_4 hO, o_2_5 hO, o_3_0 hO, o_3_1 hO, o_3_2 hO, o_6_0 hO, o_6_1 hO, o_6_2 hO, o_10_0 hO, o_331_0 hO, a1, v7, qL, qb, qbl, qadd, qmul, qsubm, qdm, qsub, qdiv, qcl, qlt, qle, qeq, nltT, nltF, nleT, nleF, neqT, neqF, or_false, false_or, or_true, true_or, or_self, and_true, true_and, and_false, false_and, and_self, not_true_eq_false, not_false_eq_true, ↓reduceIte]
  · have e7 : J' 332 7 = nI (G 7) := by rw [j2 7 (by omega)]; exact g333 7 (by omega)
    simp (disch := omega) only [f12_back, o_331_0 hO, o_331_1 hO, j1, e7, qL, qb, qbl, qadd, qmul, qsubm, qdm, qsub, qdiv, qcl, qlt, qle, qeq, nltT, nltF, nleT, nleF, neqT, neqF, or_false, false_or, or_true, true_or, or_self, and_true, true_and, and_false, false_and, and_self, not_true_eq_false, not_false_eq_true, ↓reduceIte]
  · obtain ⟨c1, c2, c3, c4, c5, c6, c7, c8, c9, c10, c11, c12⟩ := h
    have fr : ∀ a, (a < 2 ∨ 136 ≤ a) → a ≠ 332 → J' a = I a := fun a q1 q2 => by rw [j3 a q2, a3 a (by omega)]
    refine ⟨c1, ⟨hM.1, fun t ht => by rw [j2 t ht]; exact g333 t ht⟩, fun t ht => by rw [fr 333 (by omega) (by omega)]; exact c3 t ht, c5, c5, Nat.le_refl _, RW_fr a2 (fun a q1 q2 => j3 a (by omega)), RW_fr c8 (fun a q1 q2 => fr a (by omega) (by omega)), ?_, ?_, by rw [fr 331 (by omega) (by omega)]; exact c11, fun t ht => hT I _ t (fun a q1 q2 => fr a (by omega) (by omega)) (fr 334 (by omega) (by omega)) (c12 t (by omega))⟩
    · unfold TP at *; rw [fr 278 (by omega) (by omega), fr 279 (by omega) (by omega), fr 331 (by omega) (by omega), fr 335 (by omega) (by omega)]; exact c9
    · unfold FV at *; rw [fr 1 (by omega) (by omega), fr 331 (by omega) (by omega), fr 324 (by omega) (by omega)]; exact c10
end IM
