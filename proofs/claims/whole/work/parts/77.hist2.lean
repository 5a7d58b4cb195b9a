/-! the class's steps -/
theorem la_8 {wh t : Nat} (ht : dm t) (h : la wh t = wh + 8) : t = 4 := by
  have q := li_la (wh := wh) ht
  rw [h] at q
  unfold li at q
  rw [if_neg (by omega), if_neg (by omega), if_pos rfl] at q
  exact q.symm
section KX
variable {I : TI} {O : TO} {N : TN} {e : Nat}
theorem mo_o (hO : OF O) : rO O 6 0 = 6 + 1 ∧ rO O 6 1 = 6 + 2 ∧ rO O 6 2 = 6 + 3 := ⟨o_6_0 hO, o_6_1 hO, o_6_2 hO⟩
theorem kx24 (hO : OF O) {s : Nat} (h1 : I 10 1 = nI e) (he : e < 30) (h2 : I 10 2 = nI s) (hs : s < 30) : ∃ I1, f0_keep_c24 O I 10 6 = some I1 ∧ (∀ u, u < 137 → I1 (12 + 4 * ((e + s) % 30) + sa u) (sk u) = I (6 + sa u) (sk u)) ∧ (∀ a, a ≠ 10 → (a < 12 + 4 * ((e + s) % 30) ∨ 12 + 4 * ((e + s) % 30) + 3 < a) → I1 a = I a) ∧ I1 10 1 = nI e ∧ I1 10 2 = nI (s + 1) := by
  have hq : (e + s) % 30 < 30 := Nat.mod_lt _ (by omega)
  obtain ⟨o1, o2⟩ := hO.2.1 _ hq
  obtain ⟨I', t1, t2, t3⟩ := take_ok (I := I) o2 (mo_o hO) (by omega)
  have e10 : I' 10 = I 10 := t3 10 (by omega)
  refine ⟨sI I' 10 2 (nI (s + 1)), ?_, fun u hu => ?_, fun a ha hb => ?_, ?_, ?_⟩
  · have sl := slot_ok h1 he (i := s) (by omega)
    simp (disch := omega) only [f0_keep_c24, h2, sl, o_10_0 hO, o1, t1, e10, qL, qb, qbl, qadd, qmul, qsubm, qdm, qsub, qdiv, qcl, qlt, qle, qeq, nltT, nltF, nleT, nleF, neqT, neqF, or_false, false_or, or_true, true_or, or_self, and_true, true_and, and_false, false_and, and_self, not_true_eq_false, not_false_eq_true, ↓reduceIte]
  · have := sa_le u
    rw [sI_o _ _ (by omega)]; exact t2 u hu
  · rw [sI_o _ _ ha]; exact t3 a hb
  · rw [sI_k _ _ (by omega), e10]; exact h1
  · rw [sI_s]
theorem keepX (hO : OF O) (h : RW I 2 e N) (h30 : N 4 ≤ 30) : ∃ I1 e', f9_keepStep I O 2 = some I1 ∧ RW I1 2 e' (keepN N) ∧ ∀ a, a < 2 ∨ 136 ≤ a → I1 a = I a := by
  obtain ⟨hn, hs1, he, hs⟩ := h
  have f4 : I 10 2 = nI (N 4) := hn 4 (Or.inl (by omega))
  have h1 : I 10 1 = nI e := hs1
  have e4 := keepN_4 (N := N) h30
  by_cases q : N 4 = 30
  · rw [if_pos q] at e4
    have g1 : (sI (sI I 10 1 (nI ((e + 1) % 30))) 10 2 (nI 29)) 10 1 = nI ((e + 1) % 30) := by rw [sI_k _ _ (by omega), sI_s]
    have g2 : (sI (sI I 10 1 (nI ((e + 1) % 30))) 10 2 (nI 29)) 10 2 = nI 29 := sI_s _ _ _ _
    obtain ⟨I1, a1, a2, a3, a4, a5⟩ := kx24 hO g1 (Nat.mod_lt _ (by omega)) g2 (by omega)
    have fr : ∀ a, a ≠ 10 → (sI (sI I 10 1 (nI ((e + 1) % 30))) 10 2 (nI 29)) a = I a := fun a ha => by rw [sI_o _ _ ha, sI_o _ _ ha]
    refine ⟨I1, (e + 1) % 30, ?_, ⟨fun t ht => ?_, a4, Nat.mod_lt _ (by omega), fun k hk u hu => ?_⟩, fun a ha => ?_⟩
    · have sl := slot_ok h1 he (i := 1) (by omega)
      simp (disch := omega) only [f9_keepStep, f0_keep, o_2_0 hO, o_2_1 hO, o_3_2 hO, f4, sl, a1, qL, qb, qbl, qadd, qmul, qsubm, qdm, qsub, qdiv, qcl, qlt, qle, qeq, nltT, nltF, nleT, nleF, neqT, neqF, or_false, false_or, or_true, true_or, or_self, and_true, true_and, and_false, false_and, and_self, not_true_eq_false, not_false_eq_true, ↓reduceIte]
    · have r := la_rng (wh := 2) ht
      by_cases q4 : t = 4
      · subst q4; rw [e4]; exact a5
      · have l8 : la 2 t ≠ 10 := fun z => q4 (la_8 ht z)
        rw [a3 _ l8 (by omega), fr _ l8, keepN_o (by unfold dm at ht; omega) q4 h30]; exact hn t ht
    · rw [keepN_s h30 hu hk]
      rw [e4] at hk ⊢
      have hsa := sa_le u
      by_cases q2 : k + 1 = 30
      · rw [if_pos q2]
        have : k = 29 := by omega
        subst this
        have := a2 u hu
        rw [fr _ (by omega)] at this
        rw [show 2 + 10 = 12 from rfl, this]
        have r := ts_la (wh := 2) hu
        have w := hn (ts u) r.2.2
        rw [r.1, r.2.1] at w; exact w
      · rw [if_neg q2, if_pos q, a3 _ (by omega) (by omega), fr _ (by omega)]
        have w := hs (k + 1) (by omega) u hu
        have em : (e + (k + 1)) % 30 = ((e + 1) % 30 + k) % 30 := by omega
        rw [em] at w; exact w
    · rw [a3 a (by omega) (by omega), fr _ (by omega)]
  · rw [if_neg q] at e4
    obtain ⟨I1, a1, a2, a3, a4, a5⟩ := kx24 hO h1 he f4 (by omega)
    refine ⟨I1, e, ?_, ⟨fun t ht => ?_, a4, he, fun k hk u hu => ?_⟩, fun a ha => ?_⟩
    · simp (disch := omega) only [f9_keepStep, f0_keep, o_2_0 hO, o_2_1 hO, o_3_2 hO, f4, a1, qL, qb, qbl, qadd, qmul, qsubm, qdm, qsub, qdiv, qcl, qlt, qle, qeq, nltT, nltF, nleT, nleF, neqT, neqF, or_false, false_or, or_true, true_or, or_self, and_true, true_and, and_false, false_and, and_self, not_true_eq_false, not_false_eq_true, ↓reduceIte]
    · have r := la_rng (wh := 2) ht
      by_cases q4 : t = 4
      · subst q4; rw [e4]; exact a5
      · have l8 : la 2 t ≠ 10 := fun z => q4 (la_8 ht z)
        rw [a3 _ l8 (by omega), keepN_o (by unfold dm at ht; omega) q4 h30]; exact hn t ht
    · rw [keepN_s h30 hu hk]
      rw [e4] at hk ⊢
      have hsa := sa_le u
      by_cases q2 : k + 1 = N 4 + 1
      · rw [if_pos q2]
        have : k = N 4 := by omega
        subst this
        rw [show 2 + 10 = 12 from rfl, a2 u hu]
        have r := ts_la (wh := 2) hu
        have w := hn (ts u) r.2.2
        rw [r.1, r.2.1] at w; exact w
      · rw [if_neg q2, if_neg q, a3 _ (by omega) (by omega)]
        exact hs k (by omega) u hu
    · rw [a3 a (by omega) (by omega)]
end KX
/-- after keeping: what the class has, and that the reference comes to the same -/
def unN (N : TN) : TN := fun t => if t = 4 then N 4 - 1 else if (7 ≤ t ∧ t < 114) then N (231 + 137 * (N 4 - 1) + (t - 7)) else if 4341 ≤ t ∧ t < 4371 then N (231 + 137 * (N 4 - 1) + (t - 4234)) else N t
def unN1 (N : TN) (s k : Nat) : TN := fun t => if 7 ≤ t ∧ t < 7 + k then N (231 + 137 * s + (t - 7)) else N t
def unN2 (N : TN) (s k : Nat) : TN := fun t => if 4341 ≤ t ∧ t < 4341 + k then N (231 + 137 * s + (t - 4234)) else N t
section UM
variable {n : Nat} {O : TO} {N : TN}
theorem mu69 : ∀ (d k m s : Nat) (J : TI), k + d = 30 → d < m → s < 30 → N 4 = s → MV J O (unN2 N s k) → ∃ J', (∀ a, a ≠ 332 → J' a = J a) ∧ MV J' O (unN2 N s 30) ∧ f12_undo_c69 n O m J 331 (nI (231 + 137 * s)) (nI k) = some (nI s, J') := by
  intro d
  induction d with
  | zero =>
    intro k m s J hk hm hs h4 hJ
    obtain ⟨m', rfl⟩ : ∃ m', m = m' + 1 := ⟨m - 1, by omega⟩
    have : k = 30 := by omega
    subst this
    have e4 : J 332 4 = nI s := by rw [hJ.2 4 (by omega)]; unfold unN2; rw [if_neg (by omega), h4]
    refine ⟨J, fun a ha => rfl, hJ, ?_⟩
    simp (disch := omega) only [f12_undo_c69, hJ.1, e4, qL, qb, qbl, qadd, qmul, qsubm, qdm, qsub, qdiv, qcl, qlt, qle, qeq, nltT, nltF, nleT, nleF, neqT, neqF, or_false, false_or, or_true, true_or, or_self, and_true, true_and, and_false, false_and, and_self, not_true_eq_false, not_false_eq_true, ↓reduceIte]
  | succ d ih =>
    intro k m s J hk hm hs h4 hJ
    obtain ⟨m', rfl⟩ : ∃ m', m = m' + 1 := ⟨m - 1, by omega⟩
    have key : J 332 (231 + 137 * s + 107 + k) = nI (N (231 + 137 * s + 107 + k)) := by rw [hJ.2 _ (by omega)]; unfold unN2; rw [if_neg (by omega)]
    obtain ⟨J', h1, h2, h3⟩ := ih (k + 1) m' s (sI J 332 (4341 + k) (nI (N (231 + 137 * s + 107 + k)))) (by omega) (by omega) hs h4 (MV_ext (MV_up hJ) (fun t ht => by
      unfold upN unN2
      by_cases q : t = 4341 + k
      · subst q; rw [if_pos rfl, if_pos ⟨by omega, by omega⟩]; exact congrArg N (by omega)
      · rw [if_neg q]
        by_cases q2 : 4341 ≤ t ∧ t < 4341 + k
        · rw [if_pos q2, if_pos ⟨by omega, by omega⟩]
        · rw [if_neg q2, if_neg (by omega)]))
    refine ⟨J', fun a ha => by rw [h1 a ha, sI_o _ _ ha], h2, ?_⟩
    rw [← h3]
    simp (disch := omega) only [f12_undo_c69, hJ.1, key, qL, qb, qbl, qadd, qmul, qsubm, qdm, qsub, qdiv, qcl, qlt, qle, qeq, nltT, nltF, nleT, nleF, neqT, neqF, or_false, false_or, or_true, true_or, or_self, and_true, true_and, and_false, false_and, and_self, not_true_eq_false, not_false_eq_true, ↓reduceIte]
theorem mu38 (hn : 100000 ≤ n) : ∀ (d k m s : Nat) (J : TI), k + d = 107 → d < m → s < 30 → N 4 = s → MV J O (unN1 N s k) → ∃ J', (∀ a, a ≠ 332 → J' a = J a) ∧ MV J' O (unN2 (unN1 N s 107) s 30) ∧ f12_undo_c38 n O m J 331 (nI (231 + 137 * s)) (nI k) = some (nI s, J') := by
  intro d
  induction d with
  | zero =>
    intro k m s J hk hm hs h4 hJ
    obtain ⟨m', rfl⟩ : ∃ m', m = m' + 1 := ⟨m - 1, by omega⟩
    have : k = 107 := by omega
    subst this
    obtain ⟨J', h1, h2, h3⟩ := mu69 (n := n) (O := O) (N := unN1 N s 107) 30 0 n s J (by omega) (by omega) hs (by unfold unN1; rw [if_neg (by omega)]; exact h4) (MV_ext hJ (fun t ht => by unfold unN2; rw [if_neg (by omega)]))
    refine ⟨J', h1, h2, ?_⟩
    rw [← h3]
    simp (disch := omega) only [f12_undo_c38, qL, qb, qbl, qadd, qmul, qsubm, qdm, qsub, qdiv, qcl, qlt, qle, qeq, nltT, nltF, nleT, nleF, neqT, neqF, or_false, false_or, or_true, true_or, or_self, and_true, true_and, and_false, false_and, and_self, not_true_eq_false, not_false_eq_true, ↓reduceIte]
  | succ d ih =>
    intro k m s J hk hm hs h4 hJ
    obtain ⟨m', rfl⟩ : ∃ m', m = m' + 1 := ⟨m - 1, by omega⟩
    have key : J 332 (231 + 137 * s + k) = nI (N (231 + 137 * s + k)) := by rw [hJ.2 _ (by omega)]; unfold unN1; rw [if_neg (by omega)]
    obtain ⟨J', h1, h2, h3⟩ := ih (k + 1) m' s (sI J 332 (7 + k) (nI (N (231 + 137 * s + k)))) (by omega) (by omega) hs h4 (MV_ext (MV_up hJ) (fun t ht => by
      unfold upN unN1
      by_cases q : t = 7 + k
      · subst q; rw [if_pos rfl, if_pos ⟨by omega, by omega⟩]; exact congrArg N (by omega)
      · rw [if_neg q]
        by_cases q2 : 7 ≤ t ∧ t < 7 + k
        · rw [if_pos q2, if_pos ⟨by omega, by omega⟩]
        · rw [if_neg q2, if_neg (by omega)]))
    refine ⟨J', fun a ha => by rw [h1 a ha, sI_o _ _ ha], h2, ?_⟩
    rw [← h3]
    simp (disch := omega) only [f12_undo_c38, hJ.1, key, qL, qb, qbl, qadd, qmul, qsubm, qdm, qsub, qdiv, qcl, qlt, qle, qeq, nltT, nltF, nleT, nleF, neqT, neqF, or_false, false_or, or_true, true_or, or_self, and_true, true_and, and_false, false_and, and_self, not_true_eq_false, not_false_eq_true, ↓reduceIte]
theorem undoM (hn : 100000 ≤ n) {J : TI} (hJ : MV J O N) (h30 : N 4 ≤ 30) (h0 : N 4 ≠ 0) : ∃ J', (∀ a, a ≠ 332 → J' a = J a) ∧ MV J' O (unN N) ∧ f12_undo n J O 331 = some (nI (N 4 - 1), J') := by
  have h1 : MV (sI J 332 4 (nI (N 4 - 1))) O (upN N 4 (N 4 - 1)) := MV_up hJ
  obtain ⟨J', a1, a2, a3⟩ := mu38 (n := n) (O := O) (N := upN N 4 (N 4 - 1)) hn 107 0 n (N 4 - 1) (sI J 332 4 (nI (N 4 - 1))) (by omega) (by omega) (by omega) (upN_s _ _ _) (MV_ext h1 (fun t ht => by unfold unN1; rw [if_neg (by omega)]))
  refine ⟨J', fun a ha => by rw [a1 a ha, sI_o _ _ ha], MV_ext a2 (fun t ht => ?_), ?_⟩
  · unfold unN
    by_cases q4 : t = 4
    · subst q4; rw [if_pos rfl]; unfold unN2 unN1; rw [if_neg (by omega), if_neg (by omega), upN_s]
    · rw [if_neg q4]
      by_cases q7 : 7 ≤ t ∧ t < 114
      · rw [if_pos q7]; unfold unN2; rw [if_neg (by omega)]; unfold unN1; rw [if_pos ⟨by omega, by omega⟩, upN_o _ (by omega)]
      · rw [if_neg q7]
        by_cases qb : 4341 ≤ t ∧ t < 4371
        · rw [if_pos qb]; unfold unN2; rw [if_pos ⟨by omega, by omega⟩]; unfold unN1; rw [if_neg (by omega), upN_o _ (by omega)]
        · rw [if_neg qb]; unfold unN2; rw [if_neg (by omega)]; unfold unN1; rw [if_neg (by omega), upN_o _ q4]
  · have e := hJ.2 4 (by omega)
    rw [← a3]
    simp (disch := omega) only [f12_undo, hJ.1, e, sI_s, qL, qb, qbl, qadd, qmul, qsubm, qdm, qsub, qdiv, qcl, qlt, qle, qeq, nltT, nltF, nleT, nleF, neqT, neqF, or_false, false_or, or_true, true_or, or_self, and_true, true_and, and_false, false_and, and_self, not_true_eq_false, not_false_eq_true, ↓reduceIte]
end UM
theorem SB_ext {S S' : TN} (h : SB S') (hS : ∀ u, u < 137 → S u = S' u) : SB S := by
  obtain ⟨s0, s1, s2, s3, s4, s5, s6⟩ := h
  exact ⟨by rw [hS 0 (by omega)]; exact s0, by rw [hS 1 (by omega)]; exact s1, by rw [hS 2 (by omega)]; exact s2, fun j hj => by rw [hS _ (by omega)]; exact s3 j hj, fun j hj => by rw [hS _ (by omega)]; exact s4 j hj, fun j hj => by rw [hS _ (by omega)]; exact s5 j hj, fun j hj => by rw [hS _ (by omega)]; exact s6 j hj⟩
theorem unN_ts {N : TN} {u : Nat} (hu : u < 137) : unN N (ts u) = N (231 + 137 * (N 4 - 1) + u) := by
  unfold unN ts
  by_cases q : u < 107
  · rw [if_pos q, if_neg (by omega), if_pos ⟨by omega, by omega⟩]; exact congrArg N (by omega)
  · rw [if_neg q, if_neg (by omega), if_neg (by omega), if_pos ⟨by omega, by omega⟩]; exact congrArg N (by omega)
theorem unN_o {N : TN} {t : Nat} (h : ¬ (t = 4 ∨ (7 ≤ t ∧ t < 114) ∨ (4341 ≤ t ∧ t < 4371))) : unN N t = N t := by
  unfold unN; rw [if_neg (by omega), if_neg (by omega), if_neg (by omega)]
theorem unNB {N : TN} (h : NB N) (h0 : N 4 ≠ 0) : NB (unN N) := by
  obtain ⟨c0, c1, c2, c3, c4, c5, c6, c7, c8, c9, c10, c11, c12, c13⟩ := h
  have o : ∀ t, ¬ (t = 4 ∨ (7 ≤ t ∧ t < 114) ∨ (4341 ≤ t ∧ t < 4371)) → unN N t = N t := fun t => unN_o
  have e4 : unN N 4 = N 4 - 1 := by unfold unN; rw [if_pos rfl]
  have o0 := o 0 (by omega)
  have o1 := o 1 (by omega)
  have o2 := o 2 (by omega)
  have o3 := o 3 (by omega)
  have o5 := o 5 (by omega)
  have o6 := o 6 (by omega)
  refine ⟨by rw [o0]; exact c0, by rw [o1]; exact c1, by rw [o2]; exact c2, by rw [o3, o2]; exact c3, by rw [e4]; omega, by rw [o5]; exact c5, by rw [o6]; exact c6, fun r hr => ?_, fun r hr => ?_, fun k hk => ?_, fun k hk => ?_, fun k hk => ?_, ?_, fun k hk => ?_⟩
  · unfold Ln; rw [o _ (by omega)]; exact c7 r hr
  · unfold Ln; rw [o _ (by have := c7 r; omega)]; rw [o0] at hr; exact c8 r hr
  · rw [o _ (by omega)]; exact c9 k hk
  · rw [o _ (by omega)]; exact c10 k hk
  · rw [o6] at hk; rw [o1, o (207 + 3 * k) (by omega), o (208 + 3 * k) (by omega), o (209 + 3 * k) (by omega)]; exact c11 k hk
  · exact SB_ext (c13 (N 4 - 1) (by omega)) (fun u hu => unN_ts hu)
  · rw [e4] at hk
    exact SB_ext (c13 k (by omega)) (fun u hu => by show unN N _ = _; rw [o _ (by omega)])
section UX
variable {TX : TI → Nat → Prop} {I : TI} {O : TO} {n : Nat}
theorem s_undo (hn : 100000 ≤ n) (hT : TXst TX) (h : RE TX I O) : ∃ (v : Int32) (I1 I2 : TI), f11_undo I O 1 = some (v, I1) ∧ f12_undo n I1 O 331 = some (v, I2) ∧ RE TX I2 O := by
  obtain ⟨N, G, e, f, tp, h⟩ := h
  have hO := h.1
  have hV := RW_WV hO h.2.2.2.2.2.2.1
  have hN := h.2.2.2.1
  have hB := NB_WB hN
  have hM := h.2.1
  have hF := RW_fd h.2.2.2.2.2.2.1
  have b0 : N 0 ≤ 5 := hB.1
  have b1 : N 1 ≤ 4 := hB.2.1
  have f4 := hF.2.2.2.2.2.1
  have b4 : N 4 ≤ 30 := hN.2.2.2.2.1
  by_cases q : N 4 = 0
  · refine ⟨-1, I, I, ?_, ?_, N, G, e, f, tp, h⟩
    · simp (disch := omega) only [f11_undo, f0_takeBack, o_1_0 hO, o_1_1 hO, o_1_2 hO, o_1_3 hO, o_1_4 hO, o_1_5 hO, o_1_6 hO, o_1_7 hO, o_1_8 hO, o_1_9 hO, o_2_0 hO, o_2_1 hO, o_2_2 hO, o_2_3 hO, o_2_4 hO, o_2_5 hO, o_3_0 hO, o_3_1 hO, o_3_2 hO, o_6_0 hO, o_6_1 hO, o_6_2 hO, o_10_0 hO, o_331_0 hO, f4, qL, qb, qbl, qadd, qmul, qsubm, qdm, qsub, qdiv, qcl, qlt, qle, qeq, nltT, nltF, nleT, nleF, neqT, neqF, or_false, false_or, or_true, true_or, or_self, and_true, true_and, and_false, false_and, and_self, not_true_eq_false, not_false_eq_true, ↓reduceIte]
    · simp (disch := omega) only [f12_undo, hM.1, hM.2, qL, qb, qbl, qadd, qmul, qsubm, qdm, qsub, qdiv, qcl, qlt, qle, qeq, nltT, nltF, nleT, nleF, neqT, neqF, or_false, false_or, or_true, true_or, or_self, and_true, true_and, and_false, false_and, and_self, not_true_eq_false, not_false_eq_true, ↓reduceIte]
  · obtain ⟨hw, hs1, he, hs⟩ := h.2.2.2.2.2.2.1
    have g1 : (sI I 10 2 (nI (N 4 - 1))) 10 1 = nI e := by rw [sI_k _ _ (by omega)]; exact hs1
    have hq : (e + (N 4 - 1)) % 30 < 30 := Nat.mod_lt _ (by omega)
    obtain ⟨o1, o2⟩ := hO.2.1 _ hq
    obtain ⟨I', t1, t2, t3⟩ := take_ok (I := sI I 10 2 (nI (N 4 - 1))) (mo_o hO) o2 (by omega)
    have e10 : I' 10 = sI I 10 2 (nI (N 4 - 1)) 10 := t3 10 (by omega)
    have fr : ∀ a, a < 6 ∨ 9 < a → a ≠ 10 → I' a = I a := fun a h1 h2 => by rw [t3 a (by omega), sI_o _ _ h2]
    obtain ⟨J', a1, a2, a3⟩ := undoM hn (MV_fr hM (fr 332 (by omega) (by omega))) b4 q
    have hRW : RW I' 2 e (unN N) := by
      refine ⟨fun t ht => ?_, ?_, he, fun k hk u hu => ?_⟩
      · by_cases q4 : t = 4
        · subst q4
          have z : unN N 4 = N 4 - 1 := by unfold unN; rw [if_pos rfl]
          rw [z]; show I' 10 2 = _; rw [e10, sI_s]
        · have l8 : la 2 t ≠ 10 := fun z => q4 (la_8 ht z)
          by_cases q7 : (7 ≤ t ∧ t < 114) ∨ (4341 ≤ t ∧ t < 4371)
          · obtain ⟨u, hu, rfl⟩ : ∃ u, u < 137 ∧ t = ts u := by
              by_cases z : t < 114
              · exact ⟨t - 7, by omega, by unfold ts; rw [if_pos (by omega)]; omega⟩
              · exact ⟨t - 4234, by omega, by unfold ts; rw [if_neg (by omega)]; omega⟩
            have r := ts_la (wh := 2) hu
            rw [r.1, r.2.1, unN_ts hu]
            have hsa := sa_le u
            rw [show 2 + 4 = 6 from rfl, t2 u hu, sI_o _ _ (by omega)]
            exact hs (N 4 - 1) (by omega) u hu
          · have r := la_rng (wh := 2) ht
            have l6 : la 2 t < 6 ∨ 9 < la 2 t := by
              rcases Nat.lt_or_ge (la 2 t) 6 with z | z
              · exact Or.inl z
              · rcases Nat.lt_or_ge 9 (la 2 t) with z2 | z2
                · exact Or.inr z2
                · exfalso
                  have w := li_la (wh := 2) ht
                  have : la 2 t = 6 ∨ la 2 t = 7 ∨ la 2 t = 8 ∨ la 2 t = 9 := by omega
                  have hk := lk t
                  unfold dm at ht
                  unfold la at this
                  split at this
                  · omega
                  split at this
                  · omega
                  split at this
                  · omega
                  split at this
                  · omega
                  split at this
                  · omega
                  split at this
                  · omega
                  split at this
                  · omega
                  split at this
                  · omega
                  split at this
                  · omega
                  split at this
                  · omega
                  split at this
                  · omega
                  · omega
            rw [fr _ l6 l8, unN_o (by omega)]; exact hw t ht
      · show I' 10 1 = _; rw [e10]; exact g1
      · have z : unN N 4 = N 4 - 1 := by unfold unN; rw [if_pos rfl]
        rw [z] at hk
        have hsa := sa_le u
        rw [fr _ (by omega) (by omega), unN_o (by omega)]
        exact hs k (by omega) u hu
    refine ⟨nI (N 4 - 1), I', J', ?_, a3, unN N, G, e, f, tp, R0_mut hT h (fun a h1 h2 => by rw [a1 a h2, fr a (by omega) (by omega)]) (RW_fr hRW (fun a h1 h2 => a1 a (by omega))) a2 (unNB hN q) (unN_o (by omega))⟩
    have sl := slot_ok g1 he (i := N 4 - 1) (by omega)
    have e2 : I' 10 2 = nI (N 4 - 1) := by rw [e10, sI_s]
    simp (disch := omega) only [f11_undo, f0_takeBack, o_1_0 hO, o_1_1 hO, o_1_2 hO, o_1_3 hO, o_1_4 hO, o_1_5 hO, o_1_6 hO, o_1_7 hO, o_1_8 hO, o_1_9 hO, o_2_0 hO, o_2_1 hO, o_2_2 hO, o_2_3 hO, o_2_4 hO, o_2_5 hO, o_3_0 hO, o_3_1 hO, o_3_2 hO, o_6_0 hO, o_6_1 hO, o_6_2 hO, o_10_0 hO, o_331_0 hO, f4, sI_s, sl, o1, t1, e2, qL, qb, qbl, qadd, qmul, qsubm, qdm, qsub, qdiv, qcl, qlt, qle, qeq, nltT, nltF, nleT, nleF, neqT, neqF, or_false, false_or, or_true, true_or, or_self, and_true, true_and, and_false, false_and, and_self, not_true_eq_false, not_false_eq_true, ↓reduceIte]
end UX
