/-! steps kept and taken back -/
theorem cp_s (I : TI) {a b n j : Nat} (h : j < n) : cpI I a b 0 0 n b j = I a j := by
  unfold cpI va_up va_cpy
  rw [if_pos rfl, if_pos ⟨Nat.zero_le _, by omega⟩]
  rw [Nat.sub_zero, Nat.zero_add]
theorem take_ok {I : TI} {O : TO} {m m' : Nat} (hm : rO O m 0 = m + 1 ∧ rO O m 1 = m + 2 ∧ rO O m 2 = m + 3) (hm' : rO O m' 0 = m' + 1 ∧ rO O m' 1 = m' + 2 ∧ rO O m' 2 = m' + 3) (hd : m + 3 < m' ∨ m' + 3 < m) : ∃ I', f3_take I O m m' = some I' ∧ (∀ u, u < 137 → I' (m + sa u) (sk u) = I (m' + sa u) (sk u)) ∧ ∀ a, a < m ∨ m + 3 < a → I' a = I a := by
  refine ⟨_, by simp only [f3_take, qbl, hm.1, hm.2.1, hm.2.2, hm'.1, hm'.2.1, hm'.2.2]; rfl, fun u hu => ?_, fun a ha => ?_⟩
  · by_cases h1 : u < 2
    · have : u = 0 ∨ u = 1 := by omega
      rcases this with rfl | rfl
      · simp (disch := omega) only [sa, sk, Nat.add_zero, sI_s, sI_k, sI_o, cp_o, qL, qb, qbl, qadd, qmul, qsubm, qdm, qsub, qdiv, qcl, qlt, qle, qeq, nltT, nltF, nleT, nleF, neqT, neqF, or_false, false_or, or_true, true_or, or_self, and_true, true_and, and_false, false_and, and_self, not_true_eq_false, not_false_eq_true, ↓reduceIte]
      · simp (disch := omega) only [sa, sk, Nat.add_zero, sI_s, sI_k, sI_o, cp_o, qL, qb, qbl, qadd, qmul, qsubm, qdm, qsub, qdiv, qcl, qlt, qle, qeq, nltT, nltF, nleT, nleF, neqT, neqF, or_false, false_or, or_true, true_or, or_self, and_true, true_and, and_false, false_and, and_self, not_true_eq_false, not_false_eq_true, ↓reduceIte]
    by_cases h2 : u < 3
    · have : u = 2 := by omega
      subst this
      simp (disch := omega) only [sa, sk, Nat.add_zero, sI_s, sI_k, sI_o, cp_o, qL, qb, qbl, qadd, qmul, qsubm, qdm, qsub, qdiv, qcl, qlt, qle, qeq, nltT, nltF, nleT, nleF, neqT, neqF, or_false, false_or, or_true, true_or, or_self, and_true, true_and, and_false, false_and, and_self, not_true_eq_false, not_false_eq_true, ↓reduceIte]
    by_cases h3 : u < 83
    · simp (disch := omega) only [sa, sk, Nat.add_zero, sI_s, sI_k, sI_o, cp_o, cp_s, qL, qb, qbl, qadd, qmul, qsubm, qdm, qsub, qdiv, qcl, qlt, qle, qeq, nltT, nltF, nleT, nleF, neqT, neqF, or_false, false_or, or_true, true_or, or_self, and_true, true_and, and_false, false_and, and_self, not_true_eq_false, not_false_eq_true, ↓reduceIte]
    by_cases h4 : u < 107
    · simp (disch := omega) only [sa, sk, Nat.add_zero, sI_s, sI_k, sI_o, cp_o, cp_s, qL, qb, qbl, qadd, qmul, qsubm, qdm, qsub, qdiv, qcl, qlt, qle, qeq, nltT, nltF, nleT, nleF, neqT, neqF, or_false, false_or, or_true, true_or, or_self, and_true, true_and, and_false, false_and, and_self, not_true_eq_false, not_false_eq_true, ↓reduceIte]
    · simp (disch := omega) only [sa, sk, Nat.add_zero, sI_s, sI_k, sI_o, cp_o, cp_s, qL, qb, qbl, qadd, qmul, qsubm, qdm, qsub, qdiv, qcl, qlt, qle, qeq, nltT, nltF, nleT, nleF, neqT, neqF, or_false, false_or, or_true, true_or, or_self, and_true, true_and, and_false, false_and, and_self, not_true_eq_false, not_false_eq_true, ↓reduceIte]
  · simp (disch := omega) only [sI_o, cp_o, qL, qb, qbl, qadd, qmul, qsubm, qdm, qsub, qdiv, qcl, qlt, qle, qeq, nltT, nltF, nleT, nleF, neqT, neqF, or_false, false_or, or_true, true_or, or_self, and_true, true_and, and_false, false_and, and_self, not_true_eq_false, not_false_eq_true, ↓reduceIte]
theorem xor30 : ∀ a, a < 60 → 0 ≤ nI a ^^^ nI 30 := by decide +kernel
theorem slot_ok {I : TI} {hi e i : Nat} (h : I hi 1 = nI e) (he : e < 30) (hi' : i ≤ 30) : f0_slot I hi (nI i) = some (nI ((e + i) % 30)) := by
  have hx := xor30 (e + i) (by omega)
  have hx' : nI 0 ≤ nI (e + i) ^^^ nI 30 := hx
  simp (disch := omega) only [f0_slot, fJ9_floorMod_7cf53, h, hx', qL, qb, qbl, qadd, qmul, qsubm, qdm, qsub, qdiv, qcl, qlt, qle, qeq, nltT, nltF, nleT, nleF, neqT, neqF, or_false, false_or, or_true, true_or, or_self, and_true, true_and, and_false, false_and, and_self, not_true_eq_false, not_false_eq_true, ↓reduceIte]
theorem MV_ext {J : TI} {O : TO} {N N' : TN} (h : MV J O N) (e : ∀ t, t < 4371 → N t = N' t) : MV J O N' := ⟨h.1, fun t ht => by rw [← e t ht]; exact h.2 t ht⟩
def shN (N : TN) (k : Nat) : TN := fun t => if 231 ≤ t ∧ t < 231 + k then N (t + 137) else N t
def stN (N : TN) (s k : Nat) : TN := fun t => if 231 + 137 * s ≤ t ∧ t < 231 + 137 * s + k then N (ts (t - (231 + 137 * s))) else N t
def keepN (N : TN) : TN := if N 4 = 30 then upN (stN (upN (shN N 3973) 4 29) 29 137) 4 30 else upN (stN N (N 4) 137) 4 (N 4 + 1)
section KM
variable {n : Nat} {O : TO} {N : TN}
theorem mk13 : ∀ (d k m : Nat) (J : TI), k + d = 3973 → d < m → MV J O (shN N k) → N 4 = 30 → ∃ J', (∀ a, a ≠ 332 → J' a = J a) ∧ MV J' O (upN (shN N 3973) 4 29) ∧ f12_keep_c13 n O m J 331 (nI k) = f12_keep_c56 n O J' 331 := by
  intro d
  induction d with
  | zero =>
    intro k m J hk hm hJ h4
    obtain ⟨m', rfl⟩ : ∃ m', m = m' + 1 := ⟨m - 1, by omega⟩
    have : k = 3973 := by omega
    subst this
    have e4 : J 332 4 = nI 30 := by rw [hJ.2 4 (by omega)]; unfold shN; rw [if_neg (by omega), h4]
    refine ⟨sI J 332 4 (nI 29), fun a ha => sI_o _ _ ha, MV_up hJ, ?_⟩
    simp (disch := omega) only [f12_keep_c13, hJ.1, e4, Nat.reduceSub, qL, qb, qbl, qadd, qmul, qsubm, qdm, qsub, qdiv, qcl, qlt, qle, qeq, nltT, nltF, nleT, nleF, neqT, neqF, or_false, false_or, or_true, true_or, or_self, and_true, true_and, and_false, false_and, and_self, not_true_eq_false, not_false_eq_true, ↓reduceIte]
  | succ d ih =>
    intro k m J hk hm hJ h4
    obtain ⟨m', rfl⟩ : ∃ m', m = m' + 1 := ⟨m - 1, by omega⟩
    have key : J 332 (368 + k) = nI (N (368 + k)) := by rw [hJ.2 _ (by omega)]; unfold shN; rw [if_neg (by omega)]
    obtain ⟨J', h1, h2, h3⟩ := ih (k + 1) m' (sI J 332 (231 + k) (nI (N (368 + k)))) (by omega) (by omega) (MV_ext (MV_up hJ) (fun t ht => by
      unfold upN shN
      by_cases q : t = 231 + k
      · subst q; rw [if_pos rfl, if_pos ⟨by omega, by omega⟩]; congr 1; omega
      · rw [if_neg q]
        by_cases q2 : 231 ≤ t ∧ t < 231 + k
        · rw [if_pos q2, if_pos ⟨by omega, by omega⟩]
        · rw [if_neg q2, if_neg (by omega)])) h4
    refine ⟨J', fun a ha => by rw [h1 a ha, sI_o _ _ ha], h2, ?_⟩
    rw [← h3]
    simp (disch := omega) only [f12_keep_c13, hJ.1, key, qL, qb, qbl, qadd, qmul, qsubm, qdm, qsub, qdiv, qcl, qlt, qle, qeq, nltT, nltF, nleT, nleF, neqT, neqF, or_false, false_or, or_true, true_or, or_self, and_true, true_and, and_false, false_and, and_self, not_true_eq_false, not_false_eq_true, ↓reduceIte]
theorem mk104 : ∀ (d k m s : Nat) (J : TI), k + d = 30 → d < m → s < 30 → N 4 = s → MV J O (stN N s (107 + k)) → ∃ J', (∀ a, a ≠ 332 → J' a = J a) ∧ MV J' O (upN (stN N s 137) 4 (s + 1)) ∧ f12_keep_c104 n O m J 331 (nI (231 + 137 * s)) (nI k) = some J' := by
  intro d
  induction d with
  | zero =>
    intro k m s J hk hm hs h4 hJ
    obtain ⟨m', rfl⟩ : ∃ m', m = m' + 1 := ⟨m - 1, by omega⟩
    have : k = 30 := by omega
    subst this
    have e4 : J 332 4 = nI s := by rw [hJ.2 4 (by omega)]; unfold stN; rw [if_neg (by omega), h4]
    refine ⟨sI J 332 4 (nI (s + 1)), fun a ha => sI_o _ _ ha, MV_up hJ, ?_⟩
    simp (disch := omega) only [f12_keep_c104, hJ.1, e4, qL, qb, qbl, qadd, qmul, qsubm, qdm, qsub, qdiv, qcl, qlt, qle, qeq, nltT, nltF, nleT, nleF, neqT, neqF, or_false, false_or, or_true, true_or, or_self, and_true, true_and, and_false, false_and, and_self, not_true_eq_false, not_false_eq_true, ↓reduceIte]
  | succ d ih =>
    intro k m s J hk hm hs h4 hJ
    obtain ⟨m', rfl⟩ : ∃ m', m = m' + 1 := ⟨m - 1, by omega⟩
    have key : J 332 (4341 + k) = nI (N (4341 + k)) := by rw [hJ.2 _ (by omega)]; unfold stN; rw [if_neg (by omega)]
    obtain ⟨J', h1, h2, h3⟩ := ih (k + 1) m' s (sI J 332 (231 + 137 * s + 107 + k) (nI (N (4341 + k)))) (by omega) (by omega) hs h4 (MV_ext (MV_up hJ) (fun t ht => by
      unfold upN stN
      by_cases q : t = 231 + 137 * s + 107 + k
      · subst q; rw [if_pos rfl, if_pos ⟨by omega, by omega⟩]
        have e1 : ts (231 + 137 * s + 107 + k - (231 + 137 * s)) = 4341 + k := by unfold ts; rw [if_neg (by omega)]; omega
        rw [e1]
      · rw [if_neg q]
        by_cases q2 : 231 + 137 * s ≤ t ∧ t < 231 + 137 * s + (107 + k)
        · rw [if_pos q2, if_pos ⟨by omega, by omega⟩]
        · rw [if_neg q2, if_neg (by omega)]))
    refine ⟨J', fun a ha => by rw [h1 a ha, sI_o _ _ ha], h2, ?_⟩
    rw [← h3]
    simp (disch := omega) only [f12_keep_c104, hJ.1, key, qL, qb, qbl, qadd, qmul, qsubm, qdm, qsub, qdiv, qcl, qlt, qle, qeq, nltT, nltF, nleT, nleF, neqT, neqF, or_false, false_or, or_true, true_or, or_self, and_true, true_and, and_false, false_and, and_self, not_true_eq_false, not_false_eq_true, ↓reduceIte]
theorem mk73 (hn : 100000 ≤ n) : ∀ (d k m s : Nat) (J : TI), k + d = 107 → d < m → s < 30 → N 4 = s → MV J O (stN N s k) → ∃ J', (∀ a, a ≠ 332 → J' a = J a) ∧ MV J' O (upN (stN N s 137) 4 (s + 1)) ∧ f12_keep_c73 n O m J 331 (nI (231 + 137 * s)) (nI k) = some J' := by
  intro d
  induction d with
  | zero =>
    intro k m s J hk hm hs h4 hJ
    obtain ⟨m', rfl⟩ : ∃ m', m = m' + 1 := ⟨m - 1, by omega⟩
    have : k = 107 := by omega
    subst this
    obtain ⟨J', h1, h2, h3⟩ := mk104 (n := n) (O := O) (N := N) 30 0 n s J (by omega) (by omega) hs h4 hJ
    refine ⟨J', h1, h2, ?_⟩
    rw [← h3]
    simp (disch := omega) only [f12_keep_c73, qL, qb, qbl, qadd, qmul, qsubm, qdm, qsub, qdiv, qcl, qlt, qle, qeq, nltT, nltF, nleT, nleF, neqT, neqF, or_false, false_or, or_true, true_or, or_self, and_true, true_and, and_false, false_and, and_self, not_true_eq_false, not_false_eq_true, ↓reduceIte]
  | succ d ih =>
    intro k m s J hk hm hs h4 hJ
    obtain ⟨m', rfl⟩ : ∃ m', m = m' + 1 := ⟨m - 1, by omega⟩
    have key : J 332 (7 + k) = nI (N (7 + k)) := by rw [hJ.2 _ (by omega)]; unfold stN; rw [if_neg (by omega)]
    obtain ⟨J', h1, h2, h3⟩ := ih (k + 1) m' s (sI J 332 (231 + 137 * s + k) (nI (N (7 + k)))) (by omega) (by omega) hs h4 (MV_ext (MV_up hJ) (fun t ht => by
      unfold upN stN
      by_cases q : t = 231 + 137 * s + k
      · subst q; rw [if_pos rfl, if_pos ⟨by omega, by omega⟩]
        have e1 : ts (231 + 137 * s + k - (231 + 137 * s)) = 7 + k := by unfold ts; rw [if_pos (by omega)]; omega
        rw [e1]
      · rw [if_neg q]
        by_cases q2 : 231 + 137 * s ≤ t ∧ t < 231 + 137 * s + k
        · rw [if_pos q2, if_pos ⟨by omega, by omega⟩]
        · rw [if_neg q2, if_neg (by omega)]))
    refine ⟨J', fun a ha => by rw [h1 a ha, sI_o _ _ ha], h2, ?_⟩
    rw [← h3]
    simp (disch := omega) only [f12_keep_c73, hJ.1, key, qL, qb, qbl, qadd, qmul, qsubm, qdm, qsub, qdiv, qcl, qlt, qle, qeq, nltT, nltF, nleT, nleF, neqT, neqF, or_false, false_or, or_true, true_or, or_self, and_true, true_and, and_false, false_and, and_self, not_true_eq_false, not_false_eq_true, ↓reduceIte]
theorem keepM (hn : 100000 ≤ n) {J : TI} (hJ : MV J O N) (h30 : N 4 ≤ 30) : ∃ J', (∀ a, a ≠ 332 → J' a = J a) ∧ MV J' O (keepN N) ∧ f12_keep n J O 331 = some J' := by
  by_cases h : N 4 = 30
  · obtain ⟨J1, a1, a2, a3⟩ := mk13 (n := n) (O := O) (N := N) 3973 0 n J (by omega) (by omega) (MV_ext hJ (fun t ht => by unfold shN; rw [if_neg (by omega)])) h
    have e4 : J1 332 4 = nI 29 := by rw [a2.2 4 (by omega), upN_s]
    obtain ⟨J2, c1, c2, c3⟩ := mk73 (n := n) (O := O) (N := upN (shN N 3973) 4 29) hn 107 0 n 29 J1 (by omega) (by omega) (by omega) (upN_s _ _ _) (MV_ext a2 (fun t ht => by unfold stN; rw [if_neg (by omega)]))
    refine ⟨J2, fun a ha => by rw [c1 a ha, a1 a ha], ?_, ?_⟩
    · unfold keepN; rw [if_pos h]; exact c2
    · have e : J 332 4 = nI 30 := by rw [hJ.2 4 (by omega), h]
      rw [← c3]
      have e5 : f12_keep n J O 331 = f12_keep_c13 n O n J 331 (nI 0) := by simp (disch := omega) only [f12_keep, hJ.1, e, qL, qb, qbl, qadd, qmul, qsubm, qdm, qsub, qdiv, qcl, qlt, qle, qeq, nltT, nltF, nleT, nleF, neqT, neqF, or_false, false_or, or_true, true_or, or_self, and_true, true_and, and_false, false_and, and_self, not_true_eq_false, not_false_eq_true, ↓reduceIte]
      rw [e5, a3]
      simp (disch := omega) only [f12_keep_c56, hJ.1, e4, qL, qb, qbl, qadd, qmul, qsubm, qdm, qsub, qdiv, qcl, qlt, qle, qeq, nltT, nltF, nleT, nleF, neqT, neqF, or_false, false_or, or_true, true_or, or_self, and_true, true_and, and_false, false_and, and_self, not_true_eq_false, not_false_eq_true, ↓reduceIte]
  · obtain ⟨J2, c1, c2, c3⟩ := mk73 (n := n) (O := O) (N := N) hn 107 0 n (N 4) J (by omega) (by omega) (by omega) rfl (MV_ext hJ (fun t ht => by unfold stN; rw [if_neg (by omega)]))
    refine ⟨J2, c1, ?_, ?_⟩
    · unfold keepN; rw [if_neg h]; exact c2
    · have e := hJ.2 4 (by omega)
      rw [← c3]
      simp (disch := omega) only [f12_keep, f12_keep_c56, hJ.1, e, qL, qb, qbl, qadd, qmul, qsubm, qdm, qsub, qdiv, qcl, qlt, qle, qeq, nltT, nltF, nleT, nleF, neqT, neqF, or_false, false_or, or_true, true_or, or_self, and_true, true_and, and_false, false_and, and_self, not_true_eq_false, not_false_eq_true, ↓reduceIte]
theorem keepN_o {t : Nat} (h : t < 231 ∨ 4341 ≤ t) (h4 : t ≠ 4) (h30 : N 4 ≤ 30) : keepN N t = N t := by
  unfold keepN
  by_cases q : N 4 = 30
  · rw [if_pos q, upN_o _ h4]; unfold stN; rw [if_neg (by omega), upN_o _ h4]; unfold shN; rw [if_neg (by omega)]
  · rw [if_neg q, upN_o _ h4]; unfold stN; rw [if_neg (by omega)]
theorem keepN_4 (h30 : N 4 ≤ 30) : keepN N 4 = if N 4 = 30 then 30 else N 4 + 1 := by
  unfold keepN
  by_cases q : N 4 = 30
  · rw [if_pos q, if_pos q, upN_s]
  · rw [if_neg q, if_neg q, upN_s]
/-- the last step is what stands now, the others are the elder ones -/
theorem keepN_s {k u : Nat} (h30 : N 4 ≤ 30) (hu : u < 137) (hk : k < keepN N 4) : keepN N (231 + 137 * k + u) = if k + 1 = keepN N 4 then N (ts u) else if N 4 = 30 then N (231 + 137 * (k + 1) + u) else N (231 + 137 * k + u) := by
  have e4 := keepN_4 (N := N) h30
  have ht := (ts_la (wh := 2) hu).2.2
  have hts : ts u < 231 ∨ 4341 ≤ ts u := by unfold dm at ht; omega
  have hts4 : ts u ≠ 4 := by unfold ts; split <;> omega
  by_cases q : N 4 = 30
  · rw [if_pos q] at e4
    rw [e4] at hk ⊢
    unfold keepN; rw [if_pos q, upN_o _ (by omega)]; unfold stN
    by_cases q2 : k + 1 = 30
    · rw [if_pos ⟨by omega, by omega⟩, if_pos q2]
      have e1 : 231 + 137 * k + u - (231 + 137 * 29) = u := by omega
      rw [e1, upN_o _ hts4]; unfold shN; rw [if_neg (by omega)]
    · rw [if_neg (by omega), if_neg q2, upN_o _ (by omega), if_pos q]; unfold shN; rw [if_pos ⟨by omega, by omega⟩]; congr 1; omega
  · rw [if_neg q] at e4
    rw [e4] at hk ⊢
    unfold keepN; rw [if_neg q, upN_o _ (by omega)]; unfold stN
    by_cases q2 : k + 1 = N 4 + 1
    · have q3 : k = N 4 := by omega
      subst q3
      rw [if_pos ⟨by omega, by omega⟩, if_pos rfl]
      have e1 : 231 + 137 * N 4 + u - (231 + 137 * N 4) = u := by omega
      rw [e1]
    · rw [if_neg (by omega), if_neg q2, if_neg q]
theorem keepNB (h : NB N) : NB (keepN N) := by
  have h30 : N 4 ≤ 30 := h.2.2.2.2.1
  have o : ∀ t, t < 231 ∨ 4341 ≤ t → t ≠ 4 → keepN N t = N t := fun t a b => keepN_o a b h30
  have e4 := keepN_4 (N := N) h30
  obtain ⟨c0, c1, c2, c3, c4, c5, c6, c7, c8, c9, c10, c11, c12, c13⟩ := h
  have o0 := o 0 (by omega) (by omega)
  have o1 := o 1 (by omega) (by omega)
  have o2 := o 2 (by omega) (by omega)
  have o3 := o 3 (by omega) (by omega)
  have o5 := o 5 (by omega) (by omega)
  have o6 := o 6 (by omega) (by omega)
  have hs : (fun u => keepN N (ts u)) = fun u => N (ts u) := by
    funext u; exact o _ (by unfold ts; split <;> omega) (by unfold ts; split <;> omega)
  refine ⟨by rw [o0]; exact c0, by rw [o1]; exact c1, by rw [o2]; exact c2, by rw [o3, o2]; exact c3, by rw [e4]; split <;> omega, by rw [o5]; exact c5, by rw [o6]; exact c6, fun r hr => ?_, fun r hr => ?_, fun k hk => ?_, fun k hk => ?_, fun k hk => ?_, by rw [hs]; exact c12, fun k hk => ?_⟩
  · unfold Ln; rw [o _ (by omega) (by omega)]; exact c7 r hr
  · unfold Ln; rw [o _ (by omega) (by omega)]; rw [o0] at hr; exact c8 r hr
  · rw [o _ (by omega) (by omega)]; exact c9 k hk
  · rw [o _ (by omega) (by omega)]; exact c10 k hk
  · rw [o6] at hk; rw [o1, o (207 + 3 * k) (by omega) (by omega), o (208 + 3 * k) (by omega) (by omega), o (209 + 3 * k) (by omega) (by omega)]; exact c11 k hk
  · have hb : ∀ S S' : TN, SB S' → (∀ u, u < 137 → S u = S' u) → SB S := by
      intro S S' ⟨s0, s1, s2, s3, s4, s5, s6⟩ hS
      exact ⟨by rw [hS 0 (by omega)]; exact s0, by rw [hS 1 (by omega)]; exact s1, by rw [hS 2 (by omega)]; exact s2, fun j hj => by rw [hS _ (by omega)]; exact s3 j hj, fun j hj => by rw [hS _ (by omega)]; exact s4 j hj, fun j hj => by rw [hS _ (by omega)]; exact s5 j hj, fun j hj => by rw [hS _ (by omega)]; exact s6 j hj⟩
    by_cases q : k + 1 = keepN N 4
    · exact hb _ _ c12 (fun u hu => by show keepN N _ = _; rw [keepN_s h30 hu hk, if_pos q])
    · by_cases q2 : N 4 = 30
      · exact hb _ _ (c13 (k + 1) (by rw [e4, if_pos q2] at q hk; omega)) (fun u hu => by show keepN N _ = _; rw [keepN_s h30 hu hk, if_neg q, if_pos q2])
      · exact hb _ _ (c13 k (by rw [e4, if_neg q2] at q hk; omega)) (fun u hu => by show keepN N _ = _; rw [keepN_s h30 hu hk, if_neg q, if_neg q2])
end KM
