/-! fewest changes: from the first keys on, and from the last ones on -/
def edR (g c : Nat → Nat) (a : Nat) : Nat → Nat
  | 0 => a
  | j + 1 => min (g j + c j) (min (g (j + 1) + 1) (edR g c a j + 1))
def edF (c : Nat → Nat → Nat) : Nat → Nat → Nat
  | 0 => fun j => j
  | i + 1 => edR (edF c i) (c i) (i + 1)
theorem ed_s (c : Nat → Nat → Nat) (i j : Nat) : edF c (i + 1) (j + 1) = min (edF c i j + c i j) (min (edF c i (j + 1) + 1) (edF c (i + 1) j + 1)) := rfl
theorem ed_0 (c : Nat → Nat → Nat) (i : Nat) : edF c i 0 = i := by cases i <;> rfl
theorem ed_z (c : Nat → Nat → Nat) (j : Nat) : edF c 0 j = j := rfl
theorem ed_le (c : Nat → Nat → Nat) : ∀ i j, edF c i j ≤ i + j := by
  intro i
  induction i with
  | zero => intro j; rw [ed_z]; omega
  | succ i ih =>
    intro j
    induction j with
    | zero => rw [ed_0]; omega
    | succ j ihj =>
      rw [ed_s]; omega
theorem ed_mx (c : Nat → Nat → Nat) (hc : ∀ i j, c i j ≤ 1) : ∀ i j, edF c i j ≤ max i j := by
  intro i
  induction i with
  | zero => intro j; rw [ed_z]; omega
  | succ i ih =>
    intro j
    cases j with
    | zero => rw [ed_0]; omega
    | succ j =>
      have h1 := ih j
      have h2 := hc i j
      rw [ed_s]; omega
theorem ed_ext {c c' : Nat → Nat → Nat} : ∀ i j, (∀ x y, x < i → y < j → c x y = c' x y) → edF c i j = edF c' i j := by
  intro i
  induction i with
  | zero => intro j h; rfl
  | succ i ih =>
    intro j
    induction j with
    | zero => intro h; rw [ed_0, ed_0]
    | succ j ihj =>
      intro h
      rw [ed_s, ed_s, ih j (fun x y h1 h2 => h x y (by omega) (by omega)), ih (j + 1) (fun x y h1 h2 => h x y (by omega) (by omega)), ihj (fun x y h1 h2 => h x y (by omega) (by omega)), h i j (by omega) (by omega)]
def edW (c : Nat → Nat → Nat) (i j : Nat) : Nat → Nat → Nat := edF (fun x y => c (i + x) (j + y))
theorem min3 {x a b c : Nat} (h : x = min a (min b c)) : x ≤ a ∧ x ≤ b ∧ x ≤ c ∧ (x = a ∨ x = b ∨ x = c) := by omega
theorem edW_s (c : Nat → Nat → Nat) (i j a b : Nat) : edW c i j (a + 1) (b + 1) = min (edW c i j a b + c (i + a) (j + b)) (min (edW c i j a (b + 1) + 1) (edW c i j (a + 1) b + 1)) := rfl
theorem edW_z (c : Nat → Nat → Nat) (i j b : Nat) : edW c i j 0 b = b := rfl
theorem edW_0 (c : Nat → Nat → Nat) (i j a : Nat) : edW c i j a 0 = a := ed_0 _ a
theorem ed_front (c : Nat → Nat → Nat) : ∀ s a b i j, a + b ≤ s → edW c i j (a + 1) (b + 1) = min (edW c (i + 1) (j + 1) a b + c i j) (min (edW c (i + 1) j a (b + 1) + 1) (edW c i (j + 1) (a + 1) b + 1)) := by
  intro s
  induction s with
  | zero =>
    intro a b i j h
    have ha : a = 0 := by omega
    have hb : b = 0 := by omega
    subst ha; subst hb
    rw [edW_s, edW_z, edW_z, edW_0, edW_z, edW_z, edW_0]; rfl
  | succ s ih =>
    intro a b i j h
    cases a with
    | zero =>
      cases b with
      | zero => exact ih 0 0 i j (by omega)
      | succ b =>
        have h1 := min3 (edW_s c i j 0 (b + 1))
        have h2 := min3 (ih 0 b i j (by omega))
        have h3 := min3 (edW_s c i (j + 1) 0 b)
        have e1 : j + 1 + b = j + (b + 1) := by omega
        rw [e1] at h3
        simp only [edW_z] at h1 h2 h3 ⊢
        apply Nat.le_antisymm
        · refine Nat.le_min.mpr ⟨?_, Nat.le_min.mpr ⟨?_, ?_⟩⟩
          · omega
          · omega
          · rcases h3.2.2.2 with q | q | q <;> omega
        · rcases h1.2.2.2 with q | q | q
          · rw [q]; omega
          · rw [q]; omega
          · rw [q]; rcases h2.2.2.2 with q2 | q2 | q2 <;> omega
    | succ a =>
      cases b with
      | zero =>
        have h1 := min3 (edW_s c i j (a + 1) 0)
        have h2 := min3 (ih a 0 i j (by omega))
        have h3 := min3 (edW_s c (i + 1) j a 0)
        have e1 : i + 1 + a = i + (a + 1) := by omega
        rw [e1] at h3
        simp only [edW_0] at h1 h2 h3 ⊢
        apply Nat.le_antisymm
        · refine Nat.le_min.mpr ⟨?_, Nat.le_min.mpr ⟨?_, ?_⟩⟩
          · omega
          · rcases h3.2.2.2 with q | q | q <;> omega
          · omega
        · rcases h1.2.2.2 with q | q | q
          · rw [q]; omega
          · rw [q]; rcases h2.2.2.2 with q2 | q2 | q2 <;> omega
          · rw [q]; omega
      | succ b =>
        have e1 : i + 1 + a = i + (a + 1) := by omega
        have e2 : j + 1 + b = j + (b + 1) := by omega
        have h1 := min3 (edW_s c i j (a + 1) (b + 1))
        have g1 := min3 (ih a b i j (by omega))
        have g2 := min3 (ih a (b + 1) i j (by omega))
        have g3 := min3 (ih (a + 1) b i j (by omega))
        have k1 := min3 (edW_s c (i + 1) (j + 1) a b)
        have k2 := min3 (edW_s c (i + 1) j a (b + 1))
        have k3 := min3 (edW_s c i (j + 1) (a + 1) b)
        rw [e1, e2] at k1
        rw [e1] at k2
        rw [e2] at k3
        apply Nat.le_antisymm
        · refine Nat.le_min.mpr ⟨?_, Nat.le_min.mpr ⟨?_, ?_⟩⟩
          · rcases k1.2.2.2 with q | q | q <;> omega
          · rcases k2.2.2.2 with q | q | q <;> omega
          · rcases k3.2.2.2 with q | q | q <;> omega
        · rcases h1.2.2.2 with q | q | q
          · rw [q]; rcases g1.2.2.2 with q2 | q2 | q2 <;> omega
          · rw [q]; rcases g2.2.2.2 with q2 | q2 | q2 <;> omega
          · rw [q]; rcases g3.2.2.2 with q2 | q2 | q2 <;> omega
def rvC (c : Nat → Nat → Nat) (n m : Nat) : Nat → Nat → Nat := fun x y => c (n - 1 - x) (m - 1 - y)
theorem ed_rev (c : Nat → Nat → Nat) (n m : Nat) : ∀ a b, a ≤ n → b ≤ m → edF (rvC c n m) a b = edW c (n - a) (m - b) a b := by
  intro a
  induction a with
  | zero => intro b _ _; rfl
  | succ a ih =>
    intro b
    induction b with
    | zero => intro _ _; rw [ed_0, edW_0]
    | succ b ihb =>
      intro ha hb
      obtain ⟨i, hi⟩ : ∃ i, n = i + (a + 1) := ⟨n - (a + 1), by omega⟩
      obtain ⟨j, hj⟩ : ∃ j, m = j + (b + 1) := ⟨m - (b + 1), by omega⟩
      have f := ed_front c (a + b) a b i j (by omega)
      have e1 := ih b (by omega) (by omega)
      have e2 := ih (b + 1) (by omega) (by omega)
      have e3 := ihb (by omega) (by omega)
      have z1 : n - (a + 1) = i := by omega
      have z2 : m - (b + 1) = j := by omega
      have z3 : n - a = i + 1 := by omega
      have z4 : m - b = j + 1 := by omega
      rw [z3, z4] at e1
      rw [z3, z2] at e2
      rw [z1, z4] at e3
      rw [z1, z2, ed_s, e1, e2, e3, f]
      have z5 : rvC c n m a b = c i j := by
        unfold rvC
        rw [show n - 1 - a = i by omega, show m - 1 - b = j by omega]
      rw [z5]
theorem ed_eq (c : Nat → Nat → Nat) (n m : Nat) : edF (rvC c n m) n m = edF c n m := by
  rw [ed_rev c n m n m (Nat.le_refl _) (Nat.le_refl _), Nat.sub_self, Nat.sub_self]
  unfold edW
  exact ed_ext n m (fun x y _ _ => by rw [Nat.zero_add, Nat.zero_add])
def ec (N : TN) (r q i j : Nat) : Nat := if tornB N r i || tornB N q j || K N r i == K N q j then 0 else 1
theorem ec_le (N : TN) (r q i j : Nat) : ec N r q i j ≤ 1 := by unfold ec; split <;> omega
theorem mt_lv {N : TN} (hB : WB N) {r q i j : Nat} (h1 : r < 5) (h2 : i < 16) (h3 : q < 5) (h4 : j < 16) : mtB (lv N r i) (lv N q j) = (tornB N r i || tornB N q j || K N r i == K N q j) := by
  have k1 := hB.2.2.2.2.1 r i h1 h2
  have k2 := hB.2.2.2.2.1 q j h3 h4
  unfold mtB lv
  rw [Bool.eq_iff_iff]
  cases tornB N r i <;> cases tornB N q j <;> simp <;> omega
def edD (N : TN) (r q : Nat) : Nat := edF (ec N r q) (Ln N r) (Ln N q)
section EX
variable {n : Nat} {I : TI} {O : TO} {N : TN}
/-- one place of the class's grid -/
theorem x_chTo (hO : OF O) (hB : WB N) {r q : Nat} (hr : r < N 0) (hq : q < N 0) {s : TI} {i j : Nat} (hi : i ≤ Ln N r) (hj : j ≤ Ln N q) (h1 : ∀ p, p < Ln N r → s 288 p = nI (lv N r p)) (h2 : ∀ p, p < Ln N q → s 289 p = nI (lv N q p)) (hg : ∀ i' j', j' ≤ Ln N q → (i' < i ∨ (i' = i ∧ j' < j)) → s 290 (i' * 17 + j') = nI (edF (ec N r q) i' j')) : f2_changesTo s O 287 (nI i) (nI j) = some (nI (edF (ec N r q) i j)) := by
  have b1 := hB.1
  have l1 := hB.2.2.1 r (by omega)
  have l2 := hB.2.2.1 q (by omega)
  by_cases z : i = 0
  · subst z
    simp (disch := omega) only [f2_changesTo, ed_z, Nat.zero_add, qL, qb, qbl, qadd, qmul, qsubm, qdm, qsub, qdiv, qcl, qlt, qle, qeq, nltT, nltF, nleT, nleF, neqT, neqF, or_false, false_or, or_true, true_or, or_self, and_true, true_and, and_false, false_and, and_self, not_true_eq_false, not_false_eq_true, ↓reduceIte]
  by_cases z2 : j = 0
  · subst z2
    simp (disch := omega) only [f2_changesTo, ed_0, Nat.add_zero, qL, qb, qbl, qadd, qmul, qsubm, qdm, qsub, qdiv, qcl, qlt, qle, qeq, nltT, nltF, nleT, nleF, neqT, neqF, or_false, false_or, or_true, true_or, or_self, and_true, true_and, and_false, false_and, and_self, not_true_eq_false, not_false_eq_true, ↓reduceIte]
  obtain ⟨a, rfl⟩ : ∃ a, i = a + 1 := ⟨i - 1, by omega⟩
  obtain ⟨b, rfl⟩ : ∃ b, j = b + 1 := ⟨j - 1, by omega⟩
  have g1 := hg a b (by omega) (by omega)
  have g2 := hg a (b + 1) (by omega) (by omega)
  have g3 := hg (a + 1) b (by omega) (by omega)
  have ea := h1 a (by omega)
  have eb := h2 b (by omega)
  have v1 := lv_le hB (r := r) (p := a) (by omega) (by omega)
  have v2 := lv_le hB (r := q) (p := b) (by omega) (by omega)
  have em := x_matches (a := lv N r a) (b := lv N q b) (by omega) (by omega)
  have mm := mt_lv hB (r := r) (i := a) (q := q) (j := b) (by omega) (by omega) (by omega) (by omega)
  have w1 := ed_le (ec N r q) a b
  have w2 := ed_le (ec N r q) a (b + 1)
  have w3 := ed_le (ec N r q) (a + 1) b
  have c39 : ∀ t, t ≤ 1 → f2_changesTo_c39 s O 287 (nI (a + 1)) (nI (b + 1)) (nI t) = some (nI (min (edF (ec N r q) a b + t) (min (edF (ec N r q) a (b + 1) + 1) (edF (ec N r q) (a + 1) b + 1)))) := by
    intro t ht
    have y1 : a * 17 + (b + 1) - 1 = a * 17 + b := by omega
    have y2 : (a + 1) * 17 + (b + 1) - 1 = (a + 1) * 17 + b := by omega
    by_cases p1 : edF (ec N r q) (a + 1) b + 1 < edF (ec N r q) a (b + 1) + 1
    · by_cases p2 : edF (ec N r q) (a + 1) b + 1 < edF (ec N r q) a b + t
      · have u : min (edF (ec N r q) a b + t) (min (edF (ec N r q) a (b + 1) + 1) (edF (ec N r q) (a + 1) b + 1)) = edF (ec N r q) (a + 1) b + 1 := by omega
        rw [u]
        simp (disch := omega) only [f2_changesTo_c39, fJ9_min_7cf53, o_287_2 hO, Nat.add_sub_cancel, y1, y2, g1, g2, g3, qL, qb, qbl, qadd, qmul, qsubm, qdm, qsub, qdiv, qcl, qlt, qle, qeq, nltT, nltF, nleT, nleF, neqT, neqF, or_false, false_or, or_true, true_or, or_self, and_true, true_and, and_false, false_and, and_self, not_true_eq_false, not_false_eq_true, ↓reduceIte]
      · have u : min (edF (ec N r q) a b + t) (min (edF (ec N r q) a (b + 1) + 1) (edF (ec N r q) (a + 1) b + 1)) = edF (ec N r q) a b + t := by omega
        rw [u]
        simp (disch := omega) only [f2_changesTo_c39, fJ9_min_7cf53, o_287_2 hO, Nat.add_sub_cancel, y1, y2, g1, g2, g3, qL, qb, qbl, qadd, qmul, qsubm, qdm, qsub, qdiv, qcl, qlt, qle, qeq, nltT, nltF, nleT, nleF, neqT, neqF, or_false, false_or, or_true, true_or, or_self, and_true, true_and, and_false, false_and, and_self, not_true_eq_false, not_false_eq_true, ↓reduceIte]
    · by_cases p2 : edF (ec N r q) a (b + 1) + 1 < edF (ec N r q) a b + t
      · have u : min (edF (ec N r q) a b + t) (min (edF (ec N r q) a (b + 1) + 1) (edF (ec N r q) (a + 1) b + 1)) = edF (ec N r q) a (b + 1) + 1 := by omega
        rw [u]
        simp (disch := omega) only [f2_changesTo_c39, fJ9_min_7cf53, o_287_2 hO, Nat.add_sub_cancel, y1, y2, g1, g2, g3, qL, qb, qbl, qadd, qmul, qsubm, qdm, qsub, qdiv, qcl, qlt, qle, qeq, nltT, nltF, nleT, nleF, neqT, neqF, or_false, false_or, or_true, true_or, or_self, and_true, true_and, and_false, false_and, and_self, not_true_eq_false, not_false_eq_true, ↓reduceIte]
      · have u : min (edF (ec N r q) a b + t) (min (edF (ec N r q) a (b + 1) + 1) (edF (ec N r q) (a + 1) b + 1)) = edF (ec N r q) a b + t := by omega
        rw [u]
        simp (disch := omega) only [f2_changesTo_c39, fJ9_min_7cf53, o_287_2 hO, Nat.add_sub_cancel, y1, y2, g1, g2, g3, qL, qb, qbl, qadd, qmul, qsubm, qdm, qsub, qdiv, qcl, qlt, qle, qeq, nltT, nltF, nleT, nleF, neqT, neqF, or_false, false_or, or_true, true_or, or_self, and_true, true_and, and_false, false_and, and_self, not_true_eq_false, not_false_eq_true, ↓reduceIte]
  rw [ed_s]
  cases hm : mtB (lv N r a) (lv N q b)
  · have hc : ec N r q a b = 1 := by unfold ec; rw [← mm, hm]; rfl
    rw [hc, ← c39 1 (by omega)]
    simp (disch := omega) only [f2_changesTo, o_287_0 hO, o_287_1 hO, Nat.add_sub_cancel, ea, eb, em, hm, Bool.false_eq_true, qL, qb, qbl, qadd, qmul, qsubm, qdm, qsub, qdiv, qcl, qlt, qle, qeq, nltT, nltF, nleT, nleF, neqT, neqF, or_false, false_or, or_true, true_or, or_self, and_true, true_and, and_false, false_and, and_self, not_true_eq_false, not_false_eq_true, ↓reduceIte]
  · have hc : ec N r q a b = 0 := by unfold ec; rw [← mm, hm]; rfl
    rw [hc, ← c39 0 (by omega)]
    simp (disch := omega) only [f2_changesTo, o_287_0 hO, o_287_1 hO, Nat.add_sub_cancel, ea, eb, em, hm, qL, qb, qbl, qadd, qmul, qsubm, qdm, qsub, qdiv, qcl, qlt, qle, qeq, nltT, nltF, nleT, nleF, neqT, neqF, or_false, false_or, or_true, true_or, or_self, and_true, true_and, and_false, false_and, and_self, not_true_eq_false, not_false_eq_true, ↓reduceIte]
theorem x_changes (hn : 100000 ≤ n) (hO : OF O) (hV : WV I O 3 4 5 6 7 8 N) (hB : WB N) {r q : Nat} (hr : r < N 0) (hq : q < N 0) : ∃ I', f2_changes n I O 287 3 (nI r) (nI q) = some (nI (edD N r q), I') ∧ XF I I' := by
  have b1 := hB.1
  have l1 := hB.2.2.1 r (by omega)
  have l2 := hB.2.2.1 q (by omega)
  obtain ⟨I1, e1, f1, g1⟩ := lay_ok hn hV hB hr (b := 288) (by omega)
  have hV1 : WV I1 O 3 4 5 6 7 8 N := WV_fr hV (fun a ha => f1 a (by omega))
  obtain ⟨I2, e2, f2, g2⟩ := lay_ok hn hV1 hB hq (b := 289) (by omega)
  have e0 : f2_changes n I O 287 3 (nI r) (nI q) = f2_changes_c25 n O n I2 287 (nI (Ln N r)) (nI (Ln N q)) (nI 0) := by
    simp (disch := omega) only [f2_changes, o_287_0 hO, o_287_1 hO, e1, e2, qL, qb, qbl, qadd, qmul, qsubm, qdm, qsub, qdiv, qcl, qlt, qle, qeq, nltT, nltF, nleT, nleF, neqT, neqF, or_false, false_or, or_true, true_or, or_self, and_true, true_and, and_false, false_and, and_self, not_true_eq_false, not_false_eq_true, ↓reduceIte]
  rw [e0]
  have x2 : XF I I2 := fun a ha => by rw [f2 a (by omega), f1 a (by omega)]
  have w1 : ∀ p, p < Ln N r → I2 288 p = nI (lv N r p) := fun p hp => by rw [f2 288 (by omega)]; exact g1 p hp
  refine lpR (L := fun m k s => f2_changes_c25 n O m s 287 (nI (Ln N r)) (nI (Ln N q)) (nI k)) (fun k s => (∀ a, a ≠ 290 → s a = I2 a) ∧ ∀ i j, j ≤ Ln N q → i < k → s 290 (i * 17 + j) = nI (edF (ec N r q) i j)) (fun res => ∃ I', res = some (nI (edD N r q), I') ∧ XF I I') (Ln N r + 1) ?_ ?_ (Ln N r + 1) 0 n I2 (by omega) (by omega) ⟨fun _ _ => rfl, fun i j _ h => absurd h (Nat.not_lt_zero _)⟩
  · intro m k s hk ⟨h1, h2⟩
    left
    have st : f2_changes_c25 n O (m + 1) s 287 (nI (Ln N r)) (nI (Ln N q)) (nI k) = f2_changes_c35 n O (f2_changes_c25 n O m) n s 287 (nI (Ln N r)) (nI (Ln N q)) (nI k) (nI 0) := by
      simp (disch := omega) only [f2_changes_c25, qL, qb, qbl, qadd, qmul, qsubm, qdm, qsub, qdiv, qcl, qlt, qle, qeq, nltT, nltF, nleT, nleF, neqT, neqF, or_false, false_or, or_true, true_or, or_self, and_true, true_and, and_false, false_and, and_self, not_true_eq_false, not_false_eq_true, ↓reduceIte]
    rw [st]
    refine lpR (L := fun m' j s' => f2_changes_c35 n O (f2_changes_c25 n O m) m' s' 287 (nI (Ln N r)) (nI (Ln N q)) (nI k) (nI j)) (fun j s' => (∀ a, a ≠ 290 → s' a = I2 a) ∧ ∀ i' j', j' ≤ Ln N q → (i' < k ∨ (i' = k ∧ j' < j)) → s' 290 (i' * 17 + j') = nI (edF (ec N r q) i' j')) (fun res => ∃ s', ((∀ a, a ≠ 290 → s' a = I2 a) ∧ ∀ i j, j ≤ Ln N q → i < k + 1 → s' 290 (i * 17 + j) = nI (edF (ec N r q) i j)) ∧ res = f2_changes_c25 n O m s' 287 (nI (Ln N r)) (nI (Ln N q)) (nI (k + 1))) (Ln N q + 1) ?_ ?_ (Ln N q + 1) 0 n s (by omega) (by omega) ⟨h1, fun i' j' hj h => h2 i' j' hj (by omega)⟩
    · intro m' j s' hj ⟨k1, k2⟩
      left
      have ch := x_chTo hO hB hr hq (s := s') (i := k) (j := j) (by omega) (by omega) (fun p hp => by rw [k1 288 (by omega)]; exact w1 p hp) (fun p hp => by rw [k1 289 (by omega)]; exact g2 p hp) k2
      refine ⟨sI s' 290 (k * 17 + j) (nI (edF (ec N r q) k j)), ⟨fun a ha => by rw [sI_o _ _ ha]; exact k1 a ha, fun i' j' hj' h => ?_⟩, ?_⟩
      · by_cases z : i' = k ∧ j' = j
        · rw [z.1, z.2, sI_s]
        · rw [sI_k _ _ (by omega)]; exact k2 i' j' hj' (by omega)
      · simp (disch := omega) only [f2_changes_c35, ch, o_287_2 hO, qL, qb, qbl, qadd, qmul, qsubm, qdm, qsub, qdiv, qcl, qlt, qle, qeq, nltT, nltF, nleT, nleF, neqT, neqF, or_false, false_or, or_true, true_or, or_self, and_true, true_and, and_false, false_and, and_self, not_true_eq_false, not_false_eq_true, ↓reduceIte]
    · intro m' s' ⟨k1, k2⟩
      refine ⟨s', ⟨k1, fun i j hj h => k2 i j hj (by omega)⟩, ?_⟩
      simp (disch := omega) only [f2_changes_c35, qL, qb, qbl, qadd, qmul, qsubm, qdm, qsub, qdiv, qcl, qlt, qle, qeq, nltT, nltF, nleT, nleF, neqT, neqF, or_false, false_or, or_true, true_or, or_self, and_true, true_and, and_false, false_and, and_self, not_true_eq_false, not_false_eq_true, ↓reduceIte]
  · intro m s ⟨h1, h2⟩
    have z := h2 (Ln N r) (Ln N q) (by omega) (by omega)
    refine ⟨s, ?_, fun a ha => by rw [h1 a (by omega)]; exact x2 a ha⟩
    unfold edD
    simp (disch := omega) only [f2_changes_c25, o_287_2 hO, z, qL, qb, qbl, qadd, qmul, qsubm, qdm, qsub, qdiv, qcl, qlt, qle, qeq, nltT, nltF, nleT, nleF, neqT, neqF, or_false, false_or, or_true, true_or, or_self, and_true, true_and, and_false, false_and, and_self, not_true_eq_false, not_false_eq_true, ↓reduceIte]
end EX
section EM
variable {n : Nat} {J : TI} {O : TO} {N : TN}
theorem m_changes (hn : 100000 ≤ n) (hO : OF O) (hM : MV J O N) (hB : WB N) {r q : Nat} (hr : r < N 0) (hq : q < N 0) : ∃ J', f12_changesOf n J O 331 (nI r) (nI q) = some (nI (edD N r q), J') ∧ ∀ a, a ≠ 341 → J' a = J a := by
  have b1 := hB.1
  have l1 := hB.2.2.1 r (by omega)
  have l2 := hB.2.2.1 q (by omega)
  have e1 := m_len hM (r := r) (by omega)
  have e2 := m_len hM (r := q) (by omega)
  have e0 : f12_changesOf n J O 331 (nI r) (nI q) = f12_changesOf_c24 n O n J 331 (nI r) (nI q) (nI (Ln N r)) (nI (Ln N q)) (nI (Ln N r + 1) + -nI 1) := by
    rw [show nI (Ln N r + 1) + -nI 1 = nI (Ln N r) from pk_m1 _]
    simp (disch := omega) only [f12_changesOf, hM.1, e1, e2, qL, qb, qbl, qadd, qmul, qsubm, qdm, qsub, qdiv, qcl, qlt, qle, qeq, nltT, nltF, nleT, nleF, neqT, neqF, or_false, false_or, or_true, true_or, or_self, and_true, true_and, and_false, false_and, and_self, not_true_eq_false, not_false_eq_true, ↓reduceIte]
  rw [e0]
  refine lpD (L := fun m k s => f12_changesOf_c24 n O m s 331 (nI r) (nI q) (nI (Ln N r)) (nI (Ln N q)) (nI k + -nI 1)) (fun k s => k ≤ Ln N r + 1 ∧ (∀ a, a ≠ 341 → s a = J a) ∧ ∀ i j, j ≤ Ln N q → k ≤ i → i ≤ Ln N r → s 341 (17 * i + j) = nI (edF (rvC (ec N r q) (Ln N r) (Ln N q)) (Ln N r - i) (Ln N q - j))) (fun res => ∃ J', res = some (nI (edD N r q), J') ∧ ∀ a, a ≠ 341 → J' a = J a) ?_ ?_ (Ln N r + 1) n J (by omega) ⟨by omega, fun _ _ => rfl, fun i j _ h1 h2 => by omega⟩
  · intro m k s ⟨h0, h1, h2⟩
    left
    have y : nI (k + 1) + -nI 1 = nI k := pk_m1 k
    have st : f12_changesOf_c24 n O (m + 1) s 331 (nI r) (nI q) (nI (Ln N r)) (nI (Ln N q)) (nI (k + 1) + -nI 1) = f12_changesOf_c33 n O (f12_changesOf_c24 n O m) n s 331 (nI r) (nI q) (nI (Ln N r)) (nI (Ln N q)) (nI k) (nI (Ln N q + 1) + -nI 1) := by
      rw [show nI (Ln N q + 1) + -nI 1 = nI (Ln N q) from pk_m1 _, y]
      simp (disch := omega) only [f12_changesOf_c24, qL, qb, qbl, qadd, qmul, qsubm, qdm, qsub, qdiv, qcl, qlt, qle, qeq, nltT, nltF, nleT, nleF, neqT, neqF, or_false, false_or, or_true, true_or, or_self, and_true, true_and, and_false, false_and, and_self, not_true_eq_false, not_false_eq_true, ↓reduceIte]
    show ∃ s', _ ∧ f12_changesOf_c24 n O (m + 1) s 331 (nI r) (nI q) (nI (Ln N r)) (nI (Ln N q)) (nI (k + 1) + -nI 1) = _
    rw [st]
    refine lpD (L := fun m' j s' => f12_changesOf_c33 n O (f12_changesOf_c24 n O m) m' s' 331 (nI r) (nI q) (nI (Ln N r)) (nI (Ln N q)) (nI k) (nI j + -nI 1)) (fun j s' => j ≤ Ln N q + 1 ∧ (∀ a, a ≠ 341 → s' a = J a) ∧ ∀ i' j', j' ≤ Ln N q → (k + 1 ≤ i' ∨ (i' = k ∧ j ≤ j')) → i' ≤ Ln N r → s' 341 (17 * i' + j') = nI (edF (rvC (ec N r q) (Ln N r) (Ln N q)) (Ln N r - i') (Ln N q - j'))) (fun res => ∃ s', (k ≤ Ln N r + 1 ∧ (∀ a, a ≠ 341 → s' a = J a) ∧ ∀ i j, j ≤ Ln N q → k ≤ i → i ≤ Ln N r → s' 341 (17 * i + j) = nI (edF (rvC (ec N r q) (Ln N r) (Ln N q)) (Ln N r - i) (Ln N q - j))) ∧ res = f12_changesOf_c24 n O m s' 331 (nI r) (nI q) (nI (Ln N r)) (nI (Ln N q)) (nI k + -nI 1)) ?_ ?_ (Ln N q + 1) n s (by omega) ⟨by omega, h1, fun i' j' hj h hi => h2 i' j' hj (by omega) hi⟩
    · intro m' j s' ⟨k0, k1, k2⟩
      left
      have y2 : nI (j + 1) + -nI 1 = nI j := pk_m1 j
      have hM' : MV s' O N := MV_fr hM (k1 332 (by omega))
      refine ⟨sI s' 341 (17 * k + j) (nI (edF (rvC (ec N r q) (Ln N r) (Ln N q)) (Ln N r - k) (Ln N q - j))), ⟨by omega, fun a ha => by rw [sI_o _ _ ha]; exact k1 a ha, fun i' j' hj' h hi => ?_⟩, ?_⟩
      · by_cases z : i' = k ∧ j' = j
        · rw [z.1, z.2, sI_s]
        · rw [sI_k _ _ (by omega)]; exact k2 i' j' hj' (by omega) hi
      · show f12_changesOf_c33 n O (f12_changesOf_c24 n O m) (m' + 1) s' 331 (nI r) (nI q) (nI (Ln N r)) (nI (Ln N q)) (nI k) (nI (j + 1) + -nI 1) = _
        rw [y2]
        by_cases z1 : k = Ln N r
        · have u : edF (rvC (ec N r q) (Ln N r) (Ln N q)) (Ln N r - k) (Ln N q - j) = Ln N q - j := by rw [z1, Nat.sub_self]; rfl
          rw [u]
          simp (disch := omega) only [f12_changesOf_c33, f12_changesOf_c56, f12_changesOf_c203, o_331_26 hO, qL, qb, qbl, qadd, qmul, qsubm, qdm, qsub, qdiv, qcl, qlt, qle, qeq, nltT, nltF, nleT, nleF, neqT, neqF, or_false, false_or, or_true, true_or, or_self, and_true, true_and, and_false, false_and, and_self, not_true_eq_false, not_false_eq_true, ↓reduceIte]
        by_cases z2 : j = Ln N q
        · have u : edF (rvC (ec N r q) (Ln N r) (Ln N q)) (Ln N r - k) (Ln N q - j) = Ln N r - k := by rw [z2, Nat.sub_self, ed_0]
          rw [u]
          simp (disch := omega) only [f12_changesOf_c33, f12_changesOf_c56, f12_changesOf_c203, o_331_26 hO, qL, qb, qbl, qadd, qmul, qsubm, qdm, qsub, qdiv, qcl, qlt, qle, qeq, nltT, nltF, nleT, nleF, neqT, neqF, or_false, false_or, or_true, true_or, or_self, and_true, true_and, and_false, false_and, and_self, not_true_eq_false, not_false_eq_true, ↓reduceIte]
        obtain ⟨a, ha⟩ : ∃ a, Ln N r = k + 1 + a := ⟨Ln N r - k - 1, by omega⟩
        obtain ⟨b, hb⟩ : ∃ b, Ln N q = j + 1 + b := ⟨Ln N q - j - 1, by omega⟩
        have t1 := k2 (k + 1) (j + 1) (by omega) (by omega) (by omega)
        have t2 := k2 (k + 1) j (by omega) (by omega) (by omega)
        have t3 := k2 k (j + 1) (by omega) (by omega) (by omega)
        have s1 : Ln N r - (k + 1) = a := by omega
        have s2 : Ln N q - (j + 1) = b := by omega
        have s3 : Ln N r - k = a + 1 := by omega
        have s4 : Ln N q - j = b + 1 := by omega
        rw [s1, s2] at t1
        rw [s1, s4] at t2
        rw [s3, s2] at t3
        rw [s3, s4, ed_s]
        have hc : rvC (ec N r q) (Ln N r) (Ln N q) a b = ec N r q k j := by
          unfold rvC
          rw [show Ln N r - 1 - a = k by omega, show Ln N q - 1 - b = j by omega]
        rw [hc]
        have w1 := ed_le (rvC (ec N r q) (Ln N r) (Ln N q)) a b
        have w2 := ed_le (rvC (ec N r q) (Ln N r) (Ln N q)) a (b + 1)
        have w3 := ed_le (rvC (ec N r q) (Ln N r) (Ln N q)) (a + 1) b
        have q1 := m_isTorn hM' hB (r := r) (p := k) (by omega) (by omega)
        have q2 := m_isTorn hM' hB (r := q) (p := j) (by omega) (by omega)
        have q3 := m_keyOf hM' (r := r) (p := k) (by omega) (by omega)
        have q4 := m_keyOf hM' (r := q) (p := j) (by omega) (by omega)
        have q5 := hB.2.2.2.2.1 r k (by omega) (by omega)
        have q6 := hB.2.2.2.2.1 q j (by omega) (by omega)
        have i1 : 17 * (k + 1) + j + 1 = 17 * (k + 1) + (j + 1) := by omega
        have i2 : 17 * k + j + 1 = 17 * k + (j + 1) := by omega
        generalize hA : edF (rvC (ec N r q) (Ln N r) (Ln N q)) a b = A at *
        generalize hBB : edF (rvC (ec N r q) (Ln N r) (Ln N q)) a (b + 1) = B at *
        generalize hCC : edF (rvC (ec N r q) (Ln N r) (Ln N q)) (a + 1) b = C at *
        have c130 : ∀ t, t ≤ 1 → f12_changesOf_c130 n O (f12_changesOf_c24 n O m) (f12_changesOf_c33 n O (f12_changesOf_c24 n O m) m') s' 331 (nI r) (nI q) (nI (Ln N r)) (nI (Ln N q)) (nI k) (nI j) (nI t) (nI A) = f12_changesOf_c33 n O (f12_changesOf_c24 n O m) m' (sI s' 341 (17 * k + j) (nI (min (A + t) (min (B + 1) (C + 1))))) 331 (nI r) (nI q) (nI (Ln N r)) (nI (Ln N q)) (nI k) (nI j + -nI 1) := by
          intro t ht
          by_cases p1 : B + 1 ≤ A + t
          · by_cases p2 : B + 1 ≤ C + 1
            · have u : min (A + t) (min (B + 1) (C + 1)) = B + 1 := by omega
              rw [u]
              simp (disch := omega) only [f12_changesOf_c130, f12_changesOf_c185, f12_changesOf_c201, f12_changesOf_c203, o_331_26 hO, t2, i2, t3, qL, qb, qbl, qadd, qmul, qsubm, qdm, qsub, qdiv, qcl, qlt, qle, qeq, nltT, nltF, nleT, nleF, neqT, neqF, or_false, false_or, or_true, true_or, or_self, and_true, true_and, and_false, false_and, and_self, not_true_eq_false, not_false_eq_true, ↓reduceIte]
            · have u : min (A + t) (min (B + 1) (C + 1)) = C + 1 := by omega
              rw [u]
              simp (disch := omega) only [f12_changesOf_c130, f12_changesOf_c185, f12_changesOf_c201, f12_changesOf_c203, o_331_26 hO, t2, i2, t3, qL, qb, qbl, qadd, qmul, qsubm, qdm, qsub, qdiv, qcl, qlt, qle, qeq, nltT, nltF, nleT, nleF, neqT, neqF, or_false, false_or, or_true, true_or, or_self, and_true, true_and, and_false, false_and, and_self, not_true_eq_false, not_false_eq_true, ↓reduceIte]
          · by_cases p2 : A + t ≤ C + 1
            · have u : min (A + t) (min (B + 1) (C + 1)) = A + t := by omega
              rw [u]
              simp (disch := omega) only [f12_changesOf_c130, f12_changesOf_c185, f12_changesOf_c201, f12_changesOf_c203, o_331_26 hO, t2, i2, t3, qL, qb, qbl, qadd, qmul, qsubm, qdm, qsub, qdiv, qcl, qlt, qle, qeq, nltT, nltF, nleT, nleF, neqT, neqF, or_false, false_or, or_true, true_or, or_self, and_true, true_and, and_false, false_and, and_self, not_true_eq_false, not_false_eq_true, ↓reduceIte]
            · have u : min (A + t) (min (B + 1) (C + 1)) = C + 1 := by omega
              rw [u]
              simp (disch := omega) only [f12_changesOf_c130, f12_changesOf_c185, f12_changesOf_c201, f12_changesOf_c203, o_331_26 hO, t2, i2, t3, qL, qb, qbl, qadd, qmul, qsubm, qdm, qsub, qdiv, qcl, qlt, qle, qeq, nltT, nltF, nleT, nleF, neqT, neqF, or_false, false_or, or_true, true_or, or_self, and_true, true_and, and_false, false_and, and_self, not_true_eq_false, not_false_eq_true, ↓reduceIte]
        unfold ec
        cases x1 : tornB N r k
        · cases x2 : tornB N q j
          · by_cases x3 : K N r k = K N q j
            · have x3' : (K N r k == K N q j) = true := beq_iff_eq.mpr x3
              rw [x3']
              show _ = f12_changesOf_c33 n O (f12_changesOf_c24 n O m) m' (sI s' 341 (17 * k + j) (nI (min (A + 0) (min (B + 1) (C + 1))))) 331 (nI r) (nI q) (nI (Ln N r)) (nI (Ln N q)) (nI k) (nI j + -nI 1)
              rw [← c130 0 (by omega)]
              simp (disch := omega) only [f12_changesOf_c33, f12_changesOf_c56, f12_changesOf_c125, q1, q2, q3, q4, x1, x2, Bool.false_eq_true, i1, t1, o_331_26 hO, qL, qb, qbl, qadd, qmul, qsubm, qdm, qsub, qdiv, qcl, qlt, qle, qeq, nltT, nltF, nleT, nleF, neqT, neqF, or_false, false_or, or_true, true_or, or_self, and_true, true_and, and_false, false_and, and_self, not_true_eq_false, not_false_eq_true, ↓reduceIte]
            · have x3' : (K N r k == K N q j) = false := beq_false_of_ne x3
              rw [x3']
              show _ = f12_changesOf_c33 n O (f12_changesOf_c24 n O m) m' (sI s' 341 (17 * k + j) (nI (min (A + 1) (min (B + 1) (C + 1))))) 331 (nI r) (nI q) (nI (Ln N r)) (nI (Ln N q)) (nI k) (nI j + -nI 1)
              rw [← c130 1 (by omega)]
              simp (disch := omega) only [f12_changesOf_c33, f12_changesOf_c56, f12_changesOf_c125, q1, q2, q3, q4, x1, x2, Bool.false_eq_true, i1, t1, o_331_26 hO, qL, qb, qbl, qadd, qmul, qsubm, qdm, qsub, qdiv, qcl, qlt, qle, qeq, nltT, nltF, nleT, nleF, neqT, neqF, or_false, false_or, or_true, true_or, or_self, and_true, true_and, and_false, false_and, and_self, not_true_eq_false, not_false_eq_true, ↓reduceIte]
          · show _ = f12_changesOf_c33 n O (f12_changesOf_c24 n O m) m' (sI s' 341 (17 * k + j) (nI (min (A + 0) (min (B + 1) (C + 1))))) 331 (nI r) (nI q) (nI (Ln N r)) (nI (Ln N q)) (nI k) (nI j + -nI 1)
            rw [← c130 0 (by omega)]
            simp (disch := omega) only [f12_changesOf_c33, f12_changesOf_c56, f12_changesOf_c125, q1, q2, q3, q4, x1, x2, Bool.false_eq_true, i1, t1, o_331_26 hO, qL, qb, qbl, qadd, qmul, qsubm, qdm, qsub, qdiv, qcl, qlt, qle, qeq, nltT, nltF, nleT, nleF, neqT, neqF, or_false, false_or, or_true, true_or, or_self, and_true, true_and, and_false, false_and, and_self, not_true_eq_false, not_false_eq_true, ↓reduceIte]
        · show _ = f12_changesOf_c33 n O (f12_changesOf_c24 n O m) m' (sI s' 341 (17 * k + j) (nI (min (A + 0) (min (B + 1) (C + 1))))) 331 (nI r) (nI q) (nI (Ln N r)) (nI (Ln N q)) (nI k) (nI j + -nI 1)
          rw [← c130 0 (by omega)]
          simp (disch := omega) only [f12_changesOf_c33, f12_changesOf_c56, f12_changesOf_c125, q1, x1, i1, t1, o_331_26 hO, qL, qb, qbl, qadd, qmul, qsubm, qdm, qsub, qdiv, qcl, qlt, qle, qeq, nltT, nltF, nleT, nleF, neqT, neqF, or_false, false_or, or_true, true_or, or_self, and_true, true_and, and_false, false_and, and_self, not_true_eq_false, not_false_eq_true, ↓reduceIte]
    · intro m' s' ⟨k0, k1, k2⟩
      refine ⟨s', ⟨by omega, k1, fun i j hj h hi => k2 i j hj (by omega) hi⟩, ?_⟩
      show f12_changesOf_c33 n O (f12_changesOf_c24 n O m) (m' + 1) s' 331 (nI r) (nI q) (nI (Ln N r)) (nI (Ln N q)) (nI k) (nI 0 + -nI 1) = _
      have ng := neg1
      simp (disch := omega) only [f12_changesOf_c33, ng, qL, qb, qbl, qadd, qmul, qsubm, qdm, qsub, qdiv, qcl, qlt, qle, qeq, nltT, nltF, nleT, nleF, neqT, neqF, or_false, false_or, or_true, true_or, or_self, and_true, true_and, and_false, false_and, and_self, not_true_eq_false, not_false_eq_true, ↓reduceIte]
  · intro m s ⟨h0, h1, h2⟩
    have z := h2 0 0 (by omega) (by omega) (by omega)
    rw [Nat.sub_zero, Nat.sub_zero, ed_eq] at z
    refine ⟨s, ?_, h1⟩
    show f12_changesOf_c24 n O (m + 1) s 331 (nI r) (nI q) (nI (Ln N r)) (nI (Ln N q)) (nI 0 + -nI 1) = _
    have ng := neg1
    unfold edD
    simp (disch := omega) only [f12_changesOf_c24, ng, o_331_26 hO, z, qL, qb, qbl, qadd, qmul, qsubm, qdm, qsub, qdiv, qcl, qlt, qle, qeq, nltT, nltF, nleT, nleF, neqT, neqF, or_false, false_or, or_true, true_or, or_self, and_true, true_and, and_false, false_and, and_self, not_true_eq_false, not_false_eq_true, ↓reduceIte]
end EM
