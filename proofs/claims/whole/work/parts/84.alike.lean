/-! edit, alike -/
theorem MF_of {J J' : TI} (b : Nat) (h : ∀ a, a ≠ b → J' a = J a) (hb : 336 ≤ b) : MF J J' := ⟨fun a h1 h2 => h a (by omega), fun k _ => by rw [h 331 (by omega)]⟩
theorem fo_s {σ : Type} (g : Nat → σ → σ) : ∀ d k s, fo g (d + 1) k s = g (k + d) (fo g d k s) := by
  intro d
  induction d with
  | zero => intro k s; rfl
  | succ d ih =>
    intro k s
    have := ih (k + 1) (g k s)
    rw [show k + 1 + d = k + (d + 1) by omega] at this
    exact this
theorem fo_r {σ : Type} {g g' : Nat → σ → σ} (ρ : σ → σ → Prop) (e : Nat) (h : ∀ k s s', k < e → ρ s s' → ρ (g k s) (g' k s')) : ∀ d k s s', k + d ≤ e → ρ s s' → ρ (fo g d k s) (fo g' d k s') := by
  intro d
  induction d with
  | zero => intro k s s' _ h0; exact h0
  | succ d ih => intro k s s' hk h0; exact ih (k + 1) _ _ (by omega) (h k s s' (by omega) h0)
section SE
variable {TX : TI → Nat → Prop} {n : Nat} {I : TI} {O : TO}
theorem s_edit (hn : 100000 ≤ n) (hT : TXst TX) (h : RE TX I O) (p1 p2 : Int32) : ∃ (v : Int32) (I1 I2 : TI), f11_edit n I O 1 p1 p2 = some (v, I1) ∧ f12_edit n I1 O 331 p1 p2 = some (v, I2) ∧ RE TX I2 O := by
  obtain ⟨N, G, e, f, tp, h⟩ := h
  have hO := h.1
  have hV := RW_WV hO h.2.2.2.2.2.2.1
  have hN := h.2.2.2.1
  have hB := NB_WB hN
  have hM := h.2.1
  have hF := RW_fd h.2.2.2.2.2.2.1
  have b0 : N 0 ≤ 5 := hB.1
  have b1 : N 1 ≤ 4 := hB.2.1
  by_cases h1 : inR p1 (N 0)
  · obtain ⟨r, hr, rfl⟩ := inR_of h1
    by_cases h2 : inR p2 (N 0)
    · obtain ⟨q, hq, rfl⟩ := inR_of h2
      obtain ⟨I1, e1, x1⟩ := x_changes hn hO hV hB hr hq
      have r1 := R0_x hT h x1
      have hM1 : MV I1 O N := r1.2.1
      obtain ⟨I2, e2, x2⟩ := m_changes hn hO hM1 hB hr hq
      refine ⟨nI (edD N r q), I1, I2, ?_, ?_, N, G, e, f, tp, R0_m hT r1 (MF_of 341 x2 (by omega))⟩
      · simp (disch := omega) only [f11_edit, o_1_0 hO, o_1_1 hO, o_1_2 hO, o_1_3 hO, o_1_4 hO, o_1_5 hO, o_1_6 hO, o_1_7 hO, o_1_8 hO, o_1_9 hO, o_2_0 hO, o_2_1 hO, o_2_2 hO, o_2_3 hO, o_2_4 hO, o_2_5 hO, o_3_0 hO, o_3_1 hO, o_3_2 hO, o_6_0 hO, o_6_1 hO, o_6_2 hO, o_10_0 hO, o_331_0 hO, x_hasRoll hV hB hr, x_hasRoll hV hB hq, e1, qL, qb, qbl, qadd, qmul, qsubm, qdm, qsub, qdiv, qcl, qlt, qle, qeq, nltT, nltF, nleT, nleF, neqT, neqF, or_false, false_or, or_true, true_or, or_self, and_true, true_and, and_false, false_and, and_self, not_true_eq_false, not_false_eq_true, ↓reduceIte]
      · simp (disch := omega) only [f12_edit, m_isRoll hM1 hB hr, m_isRoll hM1 hB hq, e2, qL, qb, qbl, qadd, qmul, qsubm, qdm, qsub, qdiv, qcl, qlt, qle, qeq, nltT, nltF, nleT, nleF, neqT, neqF, or_false, false_or, or_true, true_or, or_self, and_true, true_and, and_false, false_and, and_self, not_true_eq_false, not_false_eq_true, ↓reduceIte]
    · refine ⟨-1, I, I, ?_, ?_, N, G, e, f, tp, h⟩
      · simp (disch := omega) only [f11_edit, o_1_0 hO, o_1_1 hO, o_1_2 hO, o_1_3 hO, o_1_4 hO, o_1_5 hO, o_1_6 hO, o_1_7 hO, o_1_8 hO, o_1_9 hO, o_2_0 hO, o_2_1 hO, o_2_2 hO, o_2_3 hO, o_2_4 hO, o_2_5 hO, o_3_0 hO, o_3_1 hO, o_3_2 hO, o_6_0 hO, o_6_1 hO, o_6_2 hO, o_10_0 hO, o_331_0 hO, x_hasRoll hV hB hr, x_noRoll hV hB h2, qL, qb, qbl, qadd, qmul, qsubm, qdm, qsub, qdiv, qcl, qlt, qle, qeq, nltT, nltF, nleT, nleF, neqT, neqF, or_false, false_or, or_true, true_or, or_self, and_true, true_and, and_false, false_and, and_self, not_true_eq_false, not_false_eq_true, ↓reduceIte]
      · simp (disch := omega) only [f12_edit, m_isRoll hM hB hr, m_noRoll hM hB h2, qL, qb, qbl, qadd, qmul, qsubm, qdm, qsub, qdiv, qcl, qlt, qle, qeq, nltT, nltF, nleT, nleF, neqT, neqF, or_false, false_or, or_true, true_or, or_self, and_true, true_and, and_false, false_and, and_self, not_true_eq_false, not_false_eq_true, ↓reduceIte]
  · refine ⟨-1, I, I, ?_, ?_, N, G, e, f, tp, h⟩
    · simp (disch := omega) only [f11_edit, o_1_0 hO, o_1_1 hO, o_1_2 hO, o_1_3 hO, o_1_4 hO, o_1_5 hO, o_1_6 hO, o_1_7 hO, o_1_8 hO, o_1_9 hO, o_2_0 hO, o_2_1 hO, o_2_2 hO, o_2_3 hO, o_2_4 hO, o_2_5 hO, o_3_0 hO, o_3_1 hO, o_3_2 hO, o_6_0 hO, o_6_1 hO, o_6_2 hO, o_10_0 hO, o_331_0 hO, x_noRoll hV hB h1, qL, qb, qbl, qadd, qmul, qsubm, qdm, qsub, qdiv, qcl, qlt, qle, qeq, nltT, nltF, nleT, nleF, neqT, neqF, or_false, false_or, or_true, true_or, or_self, and_true, true_and, and_false, false_and, and_self, not_true_eq_false, not_false_eq_true, ↓reduceIte]
    · simp (disch := omega) only [f12_edit, m_noRoll hM hB h1, qL, qb, qbl, qadd, qmul, qsubm, qdm, qsub, qdiv, qcl, qlt, qle, qeq, nltT, nltF, nleT, nleF, neqT, neqF, or_false, false_or, or_true, true_or, or_self, and_true, true_and, and_false, false_and, and_self, not_true_eq_false, not_false_eq_true, ↓reduceIte]
def aG (N : TN) (a b : Nat) (s : Int32 × Nat) : Int32 × Nat := if edD N a b < s.2 then (nI (10 * a + b), edD N a b) else s
def aGG (N : TN) (a : Nat) (s : Int32 × Nat) : Int32 × Nat := fo (aG N a) (N 0 - (a + 1)) (a + 1) s
theorem edD_lt {N : TN} (hB : WB N) {r q : Nat} (hr : r < N 0) (hq : q < N 0) : edD N r q ≤ 16 := by
  have b1 := hB.1
  have l1 := hB.2.2.1 r (by omega)
  have l2 := hB.2.2.1 q (by omega)
  have := ed_mx (ec N r q) (fun i j => ec_le N r q i j) (Ln N r) (Ln N q)
  unfold edD; omega
theorem aG_le {N : TN} {a b M : Nat} {s : Int32 × Nat} (h : s.2 ≤ M) : (aG N a b s).2 ≤ M := by
  unfold aG
  split
  · next q => show edD N a b ≤ M; omega
  · exact h
theorem x_alike (hn : 100000 ≤ n) {N : TN} (hO : OF O) (hV : WV I O 3 4 5 6 7 8 N) (hB : WB N) : ∃ I', f11_alike n I O 1 = some ((fo (aGG N) (N 0) 0 (-1, 32)).1, I') ∧ XF I I' := by
  have b1 := hB.1
  have v3 := hV.2.1
  show ∃ I', f11_alike_c7 n O n I 1 (-1) 32 0 = _ ∧ _
  refine lpR (L := fun m k (s : TI × Int32 × Nat) => f11_alike_c7 n O m s.1 1 s.2.1 (nI s.2.2) (nI k)) (fun k s => XF I s.1 ∧ s.2 = fo (aGG N) k 0 (-1, 32) ∧ s.2.2 ≤ 32) (fun res => ∃ I', res = some ((fo (aGG N) (N 0) 0 (-1, 32)).1, I') ∧ XF I I') (N 0) ?_ ?_ (N 0) 0 n (I, (-1, 32)) (by omega) (by omega) ⟨XF_r I, rfl, Nat.le_refl _⟩
  · intro m k s hk ⟨h1, h2, h3⟩
    left
    have v3' : s.1 3 3 = nI (N 0) := by rw [h1 3 (by omega)]; exact v3
    have st : f11_alike_c7 n O (m + 1) s.1 1 s.2.1 (nI s.2.2) (nI k) = f11_alike_c26 n O (f11_alike_c7 n O m) n s.1 1 s.2.1 (nI s.2.2) (nI k) (nI (k + 1)) := by
      simp (disch := omega) only [f11_alike_c7, o_1_0 hO, o_2_0 hO, v3', qL, qb, qbl, qadd, qmul, qsubm, qdm, qsub, qdiv, qcl, qlt, qle, qeq, nltT, nltF, nleT, nleF, neqT, neqF, or_false, false_or, or_true, true_or, or_self, and_true, true_and, and_false, false_and, and_self, not_true_eq_false, not_false_eq_true, ↓reduceIte]
    show ∃ s', _ ∧ f11_alike_c7 n O (m + 1) s.1 1 s.2.1 (nI s.2.2) (nI k) = _
    rw [st]
    refine lpR (L := fun m' j (t : TI × Int32 × Nat) => f11_alike_c26 n O (f11_alike_c7 n O m) m' t.1 1 t.2.1 (nI t.2.2) (nI k) (nI j)) (fun j t => XF I t.1 ∧ k + 1 ≤ j ∧ t.2 = fo (aG N k) (j - (k + 1)) (k + 1) s.2 ∧ t.2.2 ≤ 32) (fun res => ∃ s' : TI × Int32 × Nat, (XF I s'.1 ∧ s'.2 = fo (aGG N) (k + 1) 0 (-1, 32) ∧ s'.2.2 ≤ 32) ∧ res = f11_alike_c7 n O m s'.1 1 s'.2.1 (nI s'.2.2) (nI (k + 1))) (N 0) ?_ ?_ (N 0 - (k + 1)) (k + 1) n s (by omega) (by omega) ⟨h1, Nat.le_refl _, by rw [Nat.sub_self]; rfl, h3⟩
    · intro m' j t hj ⟨k1, k0, k2, k3⟩
      left
      have hV' : WV t.1 O 3 4 5 6 7 8 N := WV_fr hV (fun a ha => k1 a (by omega))
      have v3'' := hV'.2.1
      obtain ⟨I1, e1, x1⟩ := x_changes hn hO hV' hB (r := k) (q := j) (by omega) hj
      have dl := edD_lt hB (r := k) (q := j) (by omega) hj
      have hd : j + 1 - (k + 1) = j - (k + 1) + 1 := by omega
      refine ⟨(I1, aG N k j t.2), ⟨XF_t k1 x1, by omega, ?_, aG_le k3⟩, ?_⟩
      · rw [hd, fo_s, ← k2, show k + 1 + (j - (k + 1)) = j by omega]
      · unfold aG
        by_cases z : edD N k j < t.2.2
        · rw [if_pos z]
          simp (disch := omega) only [f11_alike_c26, o_1_0 hO, o_2_0 hO, o_1_8 hO, v3'', e1, qL, qb, qbl, qadd, qmul, qsubm, qdm, qsub, qdiv, qcl, qlt, qle, qeq, nltT, nltF, nleT, nleF, neqT, neqF, or_false, false_or, or_true, true_or, or_self, and_true, true_and, and_false, false_and, and_self, not_true_eq_false, not_false_eq_true, ↓reduceIte]
        · rw [if_neg z]
          simp (disch := omega) only [f11_alike_c26, o_1_0 hO, o_2_0 hO, o_1_8 hO, v3'', e1, qL, qb, qbl, qadd, qmul, qsubm, qdm, qsub, qdiv, qcl, qlt, qle, qeq, nltT, nltF, nleT, nleF, neqT, neqF, or_false, false_or, or_true, true_or, or_self, and_true, true_and, and_false, false_and, and_self, not_true_eq_false, not_false_eq_true, ↓reduceIte]
    · intro m' t ⟨k1, k0, k2, k3⟩
      have v3'' : t.1 3 3 = nI (N 0) := by rw [k1 3 (by omega)]; exact v3
      refine ⟨t, ⟨k1, ?_, k3⟩, ?_⟩
      · rw [fo_s, ← h2, k2, Nat.zero_add]; rfl
      · simp (disch := omega) only [f11_alike_c26, o_1_0 hO, o_2_0 hO, v3'', qL, qb, qbl, qadd, qmul, qsubm, qdm, qsub, qdiv, qcl, qlt, qle, qeq, nltT, nltF, nleT, nleF, neqT, neqF, or_false, false_or, or_true, true_or, or_self, and_true, true_and, and_false, false_and, and_self, not_true_eq_false, not_false_eq_true, ↓reduceIte]
  · intro m s ⟨h1, h2, h3⟩
    have v3' : s.1 3 3 = nI (N 0) := by rw [h1 3 (by omega)]; exact v3
    refine ⟨s.1, ?_, h1⟩
    rw [← h2]
    simp (disch := omega) only [f11_alike_c7, o_1_0 hO, o_2_0 hO, v3', qL, qb, qbl, qadd, qmul, qsubm, qdm, qsub, qdiv, qcl, qlt, qle, qeq, nltT, nltF, nleT, nleF, neqT, neqF, or_false, false_or, or_true, true_or, or_self, and_true, true_and, and_false, false_and, and_self, not_true_eq_false, not_false_eq_true, ↓reduceIte]
theorem m_alike (hn : 100000 ≤ n) {J : TI} {N : TN} (hO : OF O) (hM : MV J O N) (hB : WB N) : ∃ J', f12_alike n J O 331 = some ((fo (aGG N) (N 0) 0 (-1, 1000000)).1, J') ∧ ∀ a, a ≠ 341 → J' a = J a := by
  have b1 := hB.1
  have v3 := hM.2 0 (by omega)
  show ∃ J', f12_alike_c8 n O n J 331 (-1) 1000000 0 = _ ∧ _
  refine lpR (L := fun m k (s : TI × Int32 × Nat) => f12_alike_c8 n O m s.1 331 s.2.1 (nI s.2.2) (nI k)) (fun k s => (∀ a, a ≠ 341 → s.1 a = J a) ∧ s.2 = fo (aGG N) k 0 (-1, 1000000) ∧ s.2.2 ≤ 1000000) (fun res => ∃ J', res = some ((fo (aGG N) (N 0) 0 (-1, 1000000)).1, J') ∧ ∀ a, a ≠ 341 → J' a = J a) (N 0) ?_ ?_ (N 0) 0 n (J, (-1, 1000000)) (by omega) (by omega) ⟨fun _ _ => rfl, rfl, Nat.le_refl _⟩
  · intro m k s hk ⟨h1, h2, h3⟩
    left
    have v3' : s.1 332 0 = nI (N 0) := by rw [h1 332 (by omega)]; exact v3
    have st : f12_alike_c8 n O (m + 1) s.1 331 s.2.1 (nI s.2.2) (nI k) = f12_alike_c23 n O (f12_alike_c8 n O m) n s.1 331 s.2.1 (nI s.2.2) (nI k) (nI (k + 1)) := by
      simp (disch := omega) only [f12_alike_c8, hM.1, v3', qL, qb, qbl, qadd, qmul, qsubm, qdm, qsub, qdiv, qcl, qlt, qle, qeq, nltT, nltF, nleT, nleF, neqT, neqF, or_false, false_or, or_true, true_or, or_self, and_true, true_and, and_false, false_and, and_self, not_true_eq_false, not_false_eq_true, ↓reduceIte]
    show ∃ s', _ ∧ f12_alike_c8 n O (m + 1) s.1 331 s.2.1 (nI s.2.2) (nI k) = _
    rw [st]
    refine lpR (L := fun m' j (t : TI × Int32 × Nat) => f12_alike_c23 n O (f12_alike_c8 n O m) m' t.1 331 t.2.1 (nI t.2.2) (nI k) (nI j)) (fun j t => (∀ a, a ≠ 341 → t.1 a = J a) ∧ k + 1 ≤ j ∧ t.2 = fo (aG N k) (j - (k + 1)) (k + 1) s.2 ∧ t.2.2 ≤ 1000000) (fun res => ∃ s' : TI × Int32 × Nat, ((∀ a, a ≠ 341 → s'.1 a = J a) ∧ s'.2 = fo (aGG N) (k + 1) 0 (-1, 1000000) ∧ s'.2.2 ≤ 1000000) ∧ res = f12_alike_c8 n O m s'.1 331 s'.2.1 (nI s'.2.2) (nI (k + 1))) (N 0) ?_ ?_ (N 0 - (k + 1)) (k + 1) n s (by omega) (by omega) ⟨h1, Nat.le_refl _, by rw [Nat.sub_self]; rfl, h3⟩
    · intro m' j t hj ⟨k1, k0, k2, k3⟩
      left
      have hM' : MV t.1 O N := MV_fr hM (k1 332 (by omega))
      have v3'' : t.1 332 0 = nI (N 0) := by rw [k1 332 (by omega)]; exact v3
      obtain ⟨I1, e1, x1⟩ := m_changes hn hO hM' hB (r := k) (q := j) (by omega) hj
      have dl := edD_lt hB (r := k) (q := j) (by omega) hj
      have hd : j + 1 - (k + 1) = j - (k + 1) + 1 := by omega
      refine ⟨(I1, aG N k j t.2), ⟨fun a ha => by show I1 a = _; rw [x1 a ha]; exact k1 a ha, by omega, ?_, aG_le k3⟩, ?_⟩
      · rw [hd, fo_s, ← k2, show k + 1 + (j - (k + 1)) = j by omega]
      · unfold aG
        by_cases z : edD N k j < t.2.2
        · rw [if_pos z]
          simp (disch := omega) only [f12_alike_c23, hM.1, v3'', e1, qL, qb, qbl, qadd, qmul, qsubm, qdm, qsub, qdiv, qcl, qlt, qle, qeq, nltT, nltF, nleT, nleF, neqT, neqF, or_false, false_or, or_true, true_or, or_self, and_true, true_and, and_false, false_and, and_self, not_true_eq_false, not_false_eq_true, ↓reduceIte]
        · rw [if_neg z]
          simp (disch := omega) only [f12_alike_c23, hM.1, v3'', e1, qL, qb, qbl, qadd, qmul, qsubm, qdm, qsub, qdiv, qcl, qlt, qle, qeq, nltT, nltF, nleT, nleF, neqT, neqF, or_false, false_or, or_true, true_or, or_self, and_true, true_and, and_false, false_and, and_self, not_true_eq_false, not_false_eq_true, ↓reduceIte]
    · intro m' t ⟨k1, k0, k2, k3⟩
      have v3'' : t.1 332 0 = nI (N 0) := by rw [k1 332 (by omega)]; exact v3
      refine ⟨t, ⟨k1, ?_, k3⟩, ?_⟩
      · rw [fo_s, ← h2, k2, Nat.zero_add]; rfl
      · simp (disch := omega) only [f12_alike_c23, hM.1, v3'', qL, qb, qbl, qadd, qmul, qsubm, qdm, qsub, qdiv, qcl, qlt, qle, qeq, nltT, nltF, nleT, nleF, neqT, neqF, or_false, false_or, or_true, true_or, or_self, and_true, true_and, and_false, false_and, and_self, not_true_eq_false, not_false_eq_true, ↓reduceIte]
  · intro m s ⟨h1, h2, h3⟩
    have v3' : s.1 332 0 = nI (N 0) := by rw [h1 332 (by omega)]; exact v3
    refine ⟨s.1, ?_, h1⟩
    rw [← h2]
    simp (disch := omega) only [f12_alike_c8, hM.1, v3', qL, qb, qbl, qadd, qmul, qsubm, qdm, qsub, qdiv, qcl, qlt, qle, qeq, nltT, nltF, nleT, nleF, neqT, neqF, or_false, false_or, or_true, true_or, or_self, and_true, true_and, and_false, false_and, and_self, not_true_eq_false, not_false_eq_true, ↓reduceIte]
def aRho (s s' : Int32 × Nat) : Prop := s = s' ∨ (s = (-1, 32) ∧ s' = (-1, 1000000))
theorem al_eq {N : TN} (hB : WB N) : (fo (aGG N) (N 0) 0 (-1, 32)).1 = (fo (aGG N) (N 0) 0 (-1, 1000000)).1 := by
  have hr : aRho (fo (aGG N) (N 0) 0 (-1, 32)) (fo (aGG N) (N 0) 0 (-1, 1000000)) := by
    refine fo_r aRho (N 0) (fun k s s' hk h => ?_) (N 0) 0 _ _ (by omega) (Or.inr ⟨rfl, rfl⟩)
    refine fo_r aRho (N 0) (fun j t t' hj h' => ?_) (N 0 - (k + 1)) (k + 1) s s' (by omega) h
    rcases h' with rfl | ⟨rfl, rfl⟩
    · exact Or.inl rfl
    · have dl := edD_lt hB hk hj
      left
      unfold aG
      rw [if_pos (show edD N k j < 32 by omega), if_pos (show edD N k j < 1000000 by omega)]
  rcases hr with q | ⟨q, q2⟩
  · rw [q]
  · rw [q, q2]
theorem s_alike (hn : 100000 ≤ n) (hT : TXst TX) (h : RE TX I O) : ∃ (v : Int32) (I1 I2 : TI), f11_alike n I O 1 = some (v, I1) ∧ f12_alike n I1 O 331 = some (v, I2) ∧ RE TX I2 O := by
  obtain ⟨N, G, e, f, tp, h⟩ := h
  have hO := h.1
  have hV := RW_WV hO h.2.2.2.2.2.2.1
  have hN := h.2.2.2.1
  have hB := NB_WB hN
  have hM := h.2.1
  have hF := RW_fd h.2.2.2.2.2.2.1
  have b0 : N 0 ≤ 5 := hB.1
  have b1 : N 1 ≤ 4 := hB.2.1
  obtain ⟨I1, e1, x1⟩ := x_alike hn hO hV hB
  have r1 := R0_x hT h x1
  obtain ⟨I2, e2, x2⟩ := m_alike hn hO (r1.2.1 : MV I1 O N) hB
  rw [← al_eq hB] at e2
  exact ⟨_, I1, I2, e1, e2, N, G, e, f, tp, R0_m hT r1 (MF_of 341 x2 (by omega))⟩
end SE
