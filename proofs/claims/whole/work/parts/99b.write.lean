/-! written down -/
def shN1 (N : TN) : TN := fun t => if 4341 ≤ t ∧ t < 4370 then N (t + 1) else N t
def shK (N : TN) (j : Nat) : TN := fun t => if 4341 ≤ t ∧ t < 4340 + j then N (t + 1) else N t
def wvN (N : TN) (r c k : Nat) : Nat := ((N 7 * 5 + r) * 4 + c) * 17 + k
def wtN (N : TN) (r c k : Nat) : TN := if N 9 = 30 then upN (shN1 N) 4370 (wvN N r c k) else upN (upN N (4341 + N 9) (wvN N r c k)) 9 (N 9 + 1)
theorem wvN_lt {N : TN} (hB : WB N) {r c k : Nat} (hr : r < 5) (hc : c < 4) (hk : k ≤ 16) : wvN N r c k < 3400000 := by
  have s7 := hB.2.2.2.2.2.2.2.2.1
  unfold wvN; omega
theorem sh_NB {N : TN} (h : NB N) : NB (shN1 N) := by
  have o : ∀ t, t < 4341 → shN1 N t = N t := fun t ht => by unfold shN1; rw [if_neg (by omega)]
  obtain ⟨c0, c1, c2, c3, c4, c5, c6, c7, c8, c9, c10, c11, c12, c13⟩ := h
  have o0 := o 0 (by omega)
  have o1 := o 1 (by omega)
  have o2 := o 2 (by omega)
  have o3 := o 3 (by omega)
  have o4 := o 4 (by omega)
  have o5 := o 5 (by omega)
  have o6 := o 6 (by omega)
  refine ⟨by rw [o0]; exact c0, by rw [o1]; exact c1, by rw [o2]; exact c2, by rw [o3, o2]; exact c3, by rw [o4]; exact c4, by rw [o5]; exact c5, by rw [o6]; exact c6, fun r hr => by unfold Ln; rw [o _ (by omega)]; exact c7 r hr, fun r hr => by rw [o0] at hr; unfold Ln; rw [o _ (by omega)]; exact c8 r hr, fun k hk => by rw [o _ (by omega)]; exact c9 k hk, fun k hk => by rw [o _ (by omega)]; exact c10 k hk, fun k hk => by rw [o6] at hk; rw [o (207 + 3 * k) (by omega), o (208 + 3 * k) (by omega), o (209 + 3 * k) (by omega), o1]; exact c11 k hk, ?_, fun k hk => ?_⟩
  · obtain ⟨s0, s1, s2, s3, s4, s5, s6⟩ := c12
    refine ⟨by show shN1 N 7 ≤ _; rw [o 7 (by omega)]; exact s0, by show shN1 N 8 < _; rw [o 8 (by omega)]; exact s1, by show shN1 N 9 ≤ _; rw [o 9 (by omega)]; exact s2, fun k hk => ?_, fun k hk => ?_, fun k hk => ?_, fun k hk => ?_⟩
    · have e : ts (3 + k) = 10 + k := by unfold ts; rw [if_pos (by omega)]; omega
      have q := s3 k hk
      show shN1 N (ts (3 + k)) ≤ 9
      rw [e, o _ (by omega)]; simp only [e] at q; exact q
    · have e : ts (83 + k) = 90 + k := by unfold ts; rw [if_pos (by omega)]; omega
      have q := s4 k hk
      show shN1 N (ts (83 + k)) ≤ 99
      rw [e, o _ (by omega)]; simp only [e] at q; exact q
    · have e : ts (83 + 6 * k) = 90 + 6 * k := by unfold ts; rw [if_pos (by omega)]; omega
      have q := s5 k hk
      show shN1 N (ts (83 + 6 * k)) = 0
      rw [e, o _ (by omega)]; simp only [e] at q; exact q
    · have e : ts (107 + k) = 4341 + k := by unfold ts; rw [if_neg (by omega)]; omega
      show shN1 N (ts (107 + k)) < 3400000
      rw [e]
      unfold shN1
      split
      · have q := s6 (k + 1) (by omega)
        have e2 : ts (107 + (k + 1)) = 4341 + k + 1 := by unfold ts; rw [if_neg (by omega)]; omega
        simp only [e2] at q; exact q
      · have q := s6 k hk
        simp only [e] at q; exact q
  · rw [o4] at hk
    obtain ⟨s0, s1, s2, s3, s4, s5, s6⟩ := c13 k hk
    exact ⟨by show shN1 N _ ≤ _; rw [o _ (by omega)]; exact s0, by show shN1 N _ < _; rw [o _ (by omega)]; exact s1, by show shN1 N _ ≤ _; rw [o _ (by omega)]; exact s2, fun j hj => by show shN1 N _ ≤ _; rw [o _ (by omega)]; exact s3 j hj, fun j hj => by show shN1 N _ ≤ _; rw [o _ (by omega)]; exact s4 j hj, fun j hj => by show shN1 N _ = _; rw [o _ (by omega)]; exact s5 j hj, fun j hj => by show shN1 N _ < _; rw [o _ (by omega)]; exact s6 j hj⟩
theorem wr_NB {N : TN} (h : NB N) {r c k : Nat} (hr : r < 5) (hc : c < 4) (hk : k ≤ 16) : NB (wtN N r c k) := by
  have w := wvN_lt (NB_WB h) hr hc hk
  have b9 := pg_le h
  unfold wtN
  split
  · exact NB_up (sh_NB h) ⟨by omega, by omega, by omega, by omega, by omega, by omega, by omega⟩ ⟨by omega, by omega, by omega, by omega, by omega, by omega, by omega, by omega, by omega, by omega, by omega⟩
  · exact NB_up (NB_up h ⟨by omega, by omega, by omega, by omega, by omega, by omega, by omega⟩ ⟨by omega, by omega, by omega, by omega, by omega, by omega, by omega, by omega, by omega, by omega, by omega⟩) ⟨by omega, by omega, by omega, by omega, by omega, by omega, by omega⟩ ⟨by omega, by omega, by omega, by omega, by omega, by omega, by omega, by omega, by omega, by omega, by omega⟩
theorem wt_o {N : TN} {r c k t : Nat} (h9 : N 9 ≤ 30) (ht : t < 4341) (h : t ≠ 9) : wtN N r c k t = N t := by
  unfold wtN
  split
  · rw [upN_o _ (by omega)]; unfold shN1; rw [if_neg (by omega)]
  · rw [upN_o _ h, upN_o _ (by omega)]
section WX2
variable {n : Nat} {I J : TI} {O : TO} {N : TN} {e : Nat}
theorem cp_s1 (I : TI) {a n j : Nat} (h : j < n) : cpI I a a 1 0 n a j = I a (1 + j) := by
  unfold cpI va_up va_cpy
  rw [if_pos rfl, if_pos ⟨Nat.zero_le _, by omega⟩, Nat.sub_zero]
theorem cp_s2 (I : TI) {a n j : Nat} (h : n ≤ j) : cpI I a a 1 0 n a j = I a j := by
  unfold cpI va_up va_cpy
  rw [if_pos rfl, if_neg (by omega)]
theorem RWs_k {I I' : TI} {wh e : Nat} {N N' : TN} (h : RWs I wh e N) (h30 : N 4 ≤ 30) (h8 : I' (wh + 8) = I (wh + 8)) (hf : ∀ a, wh + 10 ≤ a → a < wh + 130 → I' a = I a) (hN : ∀ t, t < 4341 → (t = 4 ∨ 231 ≤ t) → N' t = N t) : RWs I' wh e N' := by
  obtain ⟨h1, h2, h3⟩ := h
  refine ⟨by rw [h8]; exact h1, h2, fun k hk u hu => ?_⟩
  rw [hN 4 (by omega) (Or.inl rfl)] at hk
  have hs := sa_le u
  have hm := Nat.mod_lt (e + k) (show 30 > 0 by omega)
  rw [hf _ (by omega) (by omega), hN _ (by omega) (Or.inr (by omega))]
  exact h3 k hk u hu
theorem la_9 {t : Nat} (h : 4341 ≤ t) (h2 : t < 4371) : la 2 t = 9 ∧ lk t = t - 4341 := by
  constructor
  · simp (disch := omega) only [la, qL, qb, qbl, qadd, qmul, qsubm, qdm, qsub, qdiv, qcl, qlt, qle, qeq, nltT, nltF, nleT, nleF, neqT, neqF, or_false, false_or, or_true, true_or, or_self, and_true, true_and, and_false, false_and, and_self, not_true_eq_false, not_false_eq_true, ↓reduceIte]
  · simp (disch := omega) only [lk, qL, qb, qbl, qadd, qmul, qsubm, qdm, qsub, qdiv, qcl, qlt, qle, qeq, nltT, nltF, nleT, nleF, neqT, neqF, or_false, false_or, or_true, true_or, or_self, and_true, true_and, and_false, false_and, and_self, not_true_eq_false, not_false_eq_true, ↓reduceIte]
theorem la_n9 {t : Nat} (h : t < 231) : la 2 t ≠ 9 := by
  intro q
  have w := li_la (wh := 2) (t := t) (Or.inl h)
  rw [q] at w
  unfold li at w
  rw [if_neg (by omega), if_neg (by omega), if_neg (by omega), if_neg (by omega), if_neg (by omega), if_neg (by omega), if_neg (by omega), if_neg (by omega), if_neg (by omega), if_pos rfl] at w
  omega
theorem x_write (hO : OF O) (hN : NB N) (h : RW I 2 e N) {r c k : Nat} (hr : r < 5) (hc : c < 4) (hk : k ≤ 16) : ∃ I', f3_write I O 6 (nI r) (nI c) (nI k) = some I' ∧ RW I' 2 e (wtN N r c k) ∧ ∀ a, a ≠ 6 → a ≠ 9 → I' a = I a := by
  have hB := NB_WB hN
  have b9 := pg_le hN
  have b4 : N 4 ≤ 30 := hN.2.2.2.2.1
  have s7 := hB.2.2.2.2.2.2.2.2.1
  have f9 : I 6 3 = nI (N 9) := h.1 9 (Or.inl (by omega))
  have f7 : I 6 4 = nI (N 7) := h.1 7 (Or.inl (by omega))
  have o2 := o_6_2 hO
  have ev : ((((((nI (N 7)) * 5) + nI r) * 4) + nI c) * 17) + nI k = nI (wvN N r c k) := by
    unfold wvN
    simp (disch := omega) only [qL, qb, qbl, qadd, qmul, qsubm, qdm, qsub, qdiv, qcl, qlt, qle, qeq, nltT, nltF, nleT, nleF, neqT, neqF, or_false, false_or, or_true, true_or, or_self, and_true, true_and, and_false, false_and, and_self, not_true_eq_false, not_false_eq_true, ↓reduceIte]
  by_cases z : N 9 = 30
  · let I1 := sI (cpI I 9 9 1 0 29) 6 3 (nI 29)
    have g3 : I1 6 3 = nI 29 := sI_s _ _ _ _
    have g4 : I1 6 4 = nI (N 7) := by show sI _ _ _ _ 6 4 = _; rw [sI_k _ _ (by omega), cp_o _ (by omega)]; exact f7
    have e1 : f3_write I O 6 (nI r) (nI c) (nI k) = f3_write_c30 O I1 6 (nI r) (nI c) (nI k) := by
      unfold f3_write
      rw [f9, z, if_neg (by decide), o2, qbl, qbl]; rfl
    let I2 := sI (sI I1 9 29 (nI (wvN N r c k))) 6 3 (nI 30)
    have e2 : f3_write_c30 O I1 6 (nI r) (nI c) (nI k) = some I2 := by
      have g5 : sI I1 9 29 (nI (wvN N r c k)) 6 3 = nI 29 := by rw [sI_o _ _ (by omega)]; exact g3
      unfold f3_write_c30
      rw [g3, if_neg (by decide), qbl, o2, g4, ev, show (nI 29).toNatClampNeg = 29 by decide, qbl, g5]; rfl
    have fr : ∀ a, a ≠ 6 → a ≠ 9 → I2 a = I a := fun a h1 h2 => by show sI _ _ _ _ a = _; rw [sI_o _ _ h1, sI_o _ _ h2]; show sI _ _ _ _ a = _; rw [sI_o _ _ h1, cp_o _ h2]
    refine ⟨I2, by rw [e1, e2], ⟨fun t ht => ?_, RWs_k h.2 b4 (fr 10 (by omega) (by omega)) (fun a h1 h2 => fr a (by omega) (by omega)) (fun t h1 h2 => wt_o b9 h1 (by omega))⟩, fr⟩
    have hw : wtN N r c k = upN (shN1 N) 4370 (wvN N r c k) := by unfold wtN; rw [if_pos z]
    rw [hw]
    by_cases q : t < 231
    · have q9 := la_n9 q
      rw [upN_o _ (by omega)]
      have e0 : shN1 N t = N t := by unfold shN1; rw [if_neg (by omega)]
      rw [e0]
      by_cases t9 : t = 9
      · subst t9
        show sI _ _ _ _ 6 3 = _
        rw [sI_s, z]
      · show sI _ _ _ _ (la 2 t) (lk t) = _
        rw [sI_e, sI_o _ _ q9]
        · show sI _ _ _ _ (la 2 t) (lk t) = _
          rw [sI_e, cp_o _ q9]
          · exact h.1 t ht
          · by_cases q6 : la 2 t = 6
            · refine Or.inr (fun q3 => t9 ?_)
              have w := li_la (wh := 2) ht
              rw [q6, q3] at w
              exact w.symm.trans (by decide)
            · exact Or.inl q6
        · by_cases q6 : la 2 t = 6
          · refine Or.inr (fun q3 => t9 ?_)
            have w := li_la (wh := 2) ht
            rw [q6, q3] at w
            exact w.symm.trans (by decide)
          · exact Or.inl q6
    · have ht' : 4341 ≤ t ∧ t < 4371 := by unfold dm at ht; omega
      obtain ⟨a1, a2⟩ := la_9 ht'.1 ht'.2
      rw [a1, a2]
      show sI _ _ _ _ 9 (t - 4341) = _
      rw [sI_o _ _ (by omega)]
      by_cases tl : t = 4370
      · subst tl; rw [upN_s, sI_s]
      · rw [upN_o _ tl, sI_k _ _ (by omega)]
        show sI _ _ _ _ 9 (t - 4341) = _
        rw [sI_o _ _ (by omega), cp_s1 _ (by omega)]
        unfold shN1
        rw [if_pos (by omega)]
        have w := h.1 (t + 1) (Or.inr ⟨by omega, by omega⟩)
        obtain ⟨c1, c2⟩ := la_9 (t := t + 1) (by omega) (by omega)
        rw [c1, c2] at w
        rw [show 1 + (t - 4341) = t + 1 - 4341 by omega]; exact w
  · have e2 : f3_write I O 6 (nI r) (nI c) (nI k) = some (sI (sI I 9 (N 9) (nI (wvN N r c k))) 6 3 (nI (N 9 + 1))) := by
      have g5 : sI I 9 (N 9) (nI (wvN N r c k)) 6 3 = nI (N 9) := by rw [sI_o _ _ (by omega)]; exact f9
      unfold f3_write f3_write_c30
      rw [f9, if_pos (show nI (N 9) < 30 from (nI_ltI (b := 30) (by omega) (by omega)).mpr (by omega)), if_neg (nI_in (by omega) (by omega)), qbl, o2, f7, ev, qcl (by omega), qbl, g5, nI_1]
    have hw : wtN N r c k = upN (upN N (4341 + N 9) (wvN N r c k)) 9 (N 9 + 1) := by unfold wtN; rw [if_neg z]
    have u1 := RWn_up (v := wvN N r c k) h.1 (t := 4341 + N 9) (Or.inr ⟨by omega, by omega⟩)
    have u2 := RWn_up (v := N 9 + 1) u1 (t := 9) (Or.inl (by omega))
    have w1 := RWs_up (v := wvN N r c k) h.2 b4 (t := 4341 + N 9) (Or.inr ⟨by omega, by omega⟩) (by omega)
    have w2 := RWs_up (v := N 9 + 1) w1 (by rw [upN_o _ (by omega)]; exact b4) (t := 9) (Or.inl (by omega)) (by omega)
    obtain ⟨a1, a2⟩ := la_9 (t := 4341 + N 9) (by omega) (by omega)
    rw [a1, a2, show 4341 + N 9 - 4341 = N 9 by omega] at u2 w2
    refine ⟨_, e2, by rw [hw]; exact ⟨u2, w2⟩, fun a h1 h2 => by rw [sI_o _ _ h1, sI_o _ _ h2]⟩
theorem m_write71 (hM : MV J O N) {r c k : Nat} (hr : r < 5) (hc : c < 4) (hk : k ≤ 16) (hB : WB N) (h9 : N 9 < 30) : f12_write_c71 n O J 331 (nI r) (nI c) (nI k) = some (sI (sI J 332 (4341 + N 9) (nI (wvN N r c k))) 332 9 (nI (N 9 + 1))) := by
  have s7 := hB.2.2.2.2.2.2.2.2.1
  have v9 := hM.2 9 (by omega)
  have v7 := hM.2 7 (by omega)
  have ev : ((((((nI (N 7)) * 5) + nI r) * 4) + nI c) * 17) + nI k = nI (wvN N r c k) := by
    unfold wvN
    simp (disch := omega) only [qL, qb, qbl, qadd, qmul, qsubm, qdm, qsub, qdiv, qcl, qlt, qle, qeq, nltT, nltF, nleT, nleF, neqT, neqF, or_false, false_or, or_true, true_or, or_self, and_true, true_and, and_false, false_and, and_self, not_true_eq_false, not_false_eq_true, ↓reduceIte]
  have g5 : sI J 332 (4341 + N 9) (nI (wvN N r c k)) 332 9 = nI (N 9) := by rw [sI_k _ _ (by omega)]; exact v9
  have y : (4341 : Int32) + nI (N 9) = nI (4341 + N 9) := qadd 4341 (N 9)
  unfold f12_write_c71
  rw [hM.1, v9, y, if_neg (nI_in (by omega) (by omega)), qbl, v7, ev, qcl (by omega), qbl, g5, nI_1]
theorem m_write (hn : 100000 ≤ n) (hN : NB N) (hM : MV J O N) (hw : J 331 23 = 1) {r c k : Nat} (hr : r < 5) (hc : c < 4) (hk : k ≤ 16) : ∃ J', f12_write n J O 331 (nI r) (nI c) (nI k) = some J' ∧ MV J' O (wtN N r c k) ∧ ∀ a, a ≠ 332 → J' a = J a := by
  have hB := NB_WB hN
  have b9 := pg_le hN
  have v9 := hM.2 9 (by omega)
  by_cases z : N 9 = 30
  · have e1 : f12_write n J O 331 (nI r) (nI c) (nI k) = f12_write_c23 n O n J 331 (nI r) (nI c) (nI k) (nI 1) := by
      unfold f12_write
      rw [hw, if_neg (by decide), hM.1, v9, z, if_pos (show nI 30 = 30 from rfl)]; rfl
    rw [e1]
    refine lpR (L := fun m j s => f12_write_c23 n O m s 331 (nI r) (nI c) (nI k) (nI j)) (fun j s => 1 ≤ j ∧ (∀ a, a ≠ 332 → s a = J a) ∧ MV s O (shK N j)) (fun res => ∃ J', res = some J' ∧ MV J' O (wtN N r c k) ∧ ∀ a, a ≠ 332 → J' a = J a) 30 ?_ ?_ 29 1 n J (by omega) (by omega) ⟨Nat.le_refl _, fun _ _ => rfl, MV_ext hM (fun t ht => by unfold shK; rw [if_neg (by omega)])⟩
    · intro m j s hj ⟨k0, k1, k2⟩
      left
      have g : s 332 (4341 + j) = nI (N (4341 + j)) := by
        rw [k2.2 (4341 + j) (by omega)]; unfold shK; rw [if_neg (by omega)]
      have y : 4341 + j - 1 = 4340 + j := by omega
      refine ⟨sI s 332 (4340 + j) (nI (N (4341 + j))), ⟨by omega, fun a ha => by rw [sI_o _ _ ha]; exact k1 a ha, MV_ext (MV_up k2) (fun t ht => ?_)⟩, ?_⟩
      · unfold upN shK
        by_cases q : t = 4340 + j
        · rw [if_pos q, if_pos (by omega), q, show 4340 + j + 1 = 4341 + j by omega]
        · rw [if_neg q]
          by_cases q2 : 4341 ≤ t ∧ t < 4340 + j
          · rw [if_pos q2, if_pos (by omega)]
          · rw [if_neg q2, if_neg (by omega)]
      · simp (disch := omega) only [f12_write_c23, hM.1, g, y, qL, qb, qbl, qadd, qmul, qsubm, qdm, qsub, qdiv, qcl, qlt, qle, qeq, nltT, nltF, nleT, nleF, neqT, neqF, or_false, false_or, or_true, true_or, or_self, and_true, true_and, and_false, false_and, and_self, not_true_eq_false, not_false_eq_true, ↓reduceIte]
    · intro m s ⟨k0, k1, k2⟩
      have g9 : s 332 9 = nI 30 := by rw [k2.2 9 (by omega)]; unfold shK; rw [if_neg (by omega), z]
      have k3 := MV_up (t := 9) (v := 29) k2
      have hB9 : WB (upN (shK N 30) 9 29) := by
        have q := NB_WB (NB_up (t := 9) (v := 29) (sh_NB hN) ⟨by omega, by omega, by omega, by omega, by omega, by omega, by omega⟩ ⟨by omega, by omega, by omega, by omega, by omega, by omega, by omega, by omega, by omega, by omega, by omega⟩)
        exact q
      have e2 := m_write71 (n := n) k3 hr hc hk hB9 (by rw [upN_s]; omega)
      rw [upN_s] at e2
      have hv : wvN (upN (shK N 30) 9 29) r c k = wvN N r c k := by
        unfold wvN
        rw [upN_o _ (by omega)]
        unfold shK
        rw [if_neg (by omega)]
      rw [hv] at e2
      refine ⟨sI (sI (sI s 332 9 (nI 29)) 332 (4341 + 29) (nI (wvN N r c k))) 332 9 (nI (29 + 1)), ?_, MV_ext (MV_up (MV_up k3)) (fun t ht => ?_), fun a ha => by rw [sI_o _ _ ha, sI_o _ _ ha, sI_o _ _ ha]; exact k1 a ha⟩
      · rw [f12_write_c23, if_pos (by decide), hM.1, g9, qbl]
        exact e2
      · unfold wtN
        rw [if_pos z]
        unfold upN shN1 shK
        by_cases q : t = 9
        · rw [if_pos q, if_neg (by omega), if_neg (by omega), q, z]
        · rw [if_neg q]
          by_cases q2 : t = 4341 + 29
          · rw [if_pos q2, if_pos (by omega)]
          · rw [if_neg q2, if_neg q, if_neg (show ¬ t = 4370 by omega)]
  · have e1 : f12_write n J O 331 (nI r) (nI c) (nI k) = f12_write_c71 n O J 331 (nI r) (nI c) (nI k) := by
      unfold f12_write
      rw [hw, if_neg (by decide), hM.1, v9, if_neg]
      intro q
      have q' : nI (N 9) = nI 30 := q
      rw [nI_eq (by omega) (by omega)] at q'
      exact z q'
    have e2 := m_write71 (n := n) hM hr hc hk hB (by omega)
    refine ⟨_, by rw [e1, e2], ?_, fun a ha => by rw [sI_o _ _ ha, sI_o _ _ ha]⟩
    unfold wtN
    rw [if_neg z]
    exact MV_up (MV_up hM)
end WX2
