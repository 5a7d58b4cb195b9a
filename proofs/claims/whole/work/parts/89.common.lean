/-! what two rolls have in common -/
theorem fnd_P (P : Nat → Bool) : ∀ d k, fnd P d k < k + d → P (fnd P d k) = true := by
  intro d
  induction d with
  | zero => intro k h; unfold fnd at h; omega
  | succ d ih =>
    intro k h
    cases z : P k
    · have z1 : fnd P (d + 1) k = fnd P d (k + 1) := by
        show (if P k = true then k else fnd P d (k + 1)) = _
        rw [z]; rfl
      rw [z1] at h ⊢
      exact ih (k + 1) (by omega)
    · have z1 : fnd P (d + 1) k = k := by
        show (if P k = true then k else fnd P d (k + 1)) = _
        rw [z]; rfl
      rw [z1]; exact z
theorem fnd_lt (P : Nat → Bool) : ∀ d k i, k ≤ i → i < k + d → P i = true → fnd P d k ≤ i := by
  intro d
  induction d with
  | zero => intro k i h1 h2; omega
  | succ d ih =>
    intro k i h1 h2 h3
    cases z : P k
    · have z1 : fnd P (d + 1) k = fnd P d (k + 1) := by
        show (if P k = true then k else fnd P d (k + 1)) = _
        rw [z]; rfl
      rw [z1]
      have : k ≠ i := fun q => by rw [q, h3] at z; exact Bool.noConfusion z
      exact ih (k + 1) i (by omega) (by omega) h3
    · have z1 : fnd P (d + 1) k = k := by
        show (if P k = true then k else fnd P d (k + 1)) = _
        rw [z]; rfl
      rw [z1]; exact h1
def cmR (g : Nat → Nat) (u : Nat → Bool) : Nat → Nat
  | 0 => 0
  | b + 1 => if u b then max (max (g (b + 1)) (cmR g u b)) (g b + 1) else max (g (b + 1)) (cmR g u b)
def cmF (u : Nat → Nat → Bool) : Nat → Nat → Nat
  | 0 => fun _ => 0
  | a + 1 => cmR (cmF u a) (u a)
theorem cm_s (u : Nat → Nat → Bool) (a b : Nat) : cmF u (a + 1) (b + 1) = if u a b then max (max (cmF u a (b + 1)) (cmF u (a + 1) b)) (cmF u a b + 1) else max (cmF u a (b + 1)) (cmF u (a + 1) b) := rfl
theorem cm_0 (u : Nat → Nat → Bool) (a : Nat) : cmF u a 0 = 0 := by cases a <;> rfl
theorem cm_le (u : Nat → Nat → Bool) : ∀ a b, cmF u a b ≤ a := by
  intro a
  induction a with
  | zero => intro b; exact Nat.le_refl _
  | succ a ih =>
    intro b
    induction b with
    | zero => rw [cm_0]; omega
    | succ b ihb =>
      have h1 := ih b
      have h2 := ih (b + 1)
      rw [cm_s]; split <;> omega
def cT (u : Nat → Nat → Bool) (n m i j : Nat) : Nat := cmF (fun a b => u (n - 1 - a) (m - 1 - b)) (n - i) (m - j)
theorem cT_n (u : Nat → Nat → Bool) (n m j : Nat) : cT u n m n j = 0 := by unfold cT; rw [Nat.sub_self]; rfl
theorem cT_m (u : Nat → Nat → Bool) (n m i : Nat) : cT u n m i m = 0 := by unfold cT; rw [Nat.sub_self, cm_0]
theorem cT_le (u : Nat → Nat → Bool) (n m i j : Nat) : cT u n m i j ≤ n - i := cm_le _ _ _
theorem cT_s (u : Nat → Nat → Bool) {n m i j : Nat} (hi : i < n) (hj : j < m) : cT u n m i j = if u i j then max (max (cT u n m (i + 1) j) (cT u n m i (j + 1))) (cT u n m (i + 1) (j + 1) + 1) else max (cT u n m (i + 1) j) (cT u n m i (j + 1)) := by
  obtain ⟨a, ha⟩ : ∃ a, n = i + 1 + a := ⟨n - i - 1, by omega⟩
  obtain ⟨b, hb⟩ : ∃ b, m = j + 1 + b := ⟨m - j - 1, by omega⟩
  unfold cT
  rw [show n - i = a + 1 by omega, show m - j = b + 1 by omega, show n - (i + 1) = a by omega, show m - (j + 1) = b by omega, cm_s]
  rw [show n - 1 - a = i by omega, show m - 1 - b = j by omega]
section CT
variable {u : Nat → Nat → Bool} {n m : Nat}
theorem cT_row : ∀ d p f, p < n → f + d = m → cT u n m p f ≤ cT u n m (p + 1) f + 1 ∧ (d ≠ 0 → cT u n m p (f + 1) ≤ cT u n m p f ∧ cT u n m (p + 1) (f + 1) ≤ cT u n m (p + 1) f) := by
  intro d
  induction d with
  | zero =>
    intro p f hp hf
    have : f = m := by omega
    subst this
    rw [cT_m]
    exact ⟨by omega, fun h => absurd rfl h⟩
  | succ d ih =>
    intro p f hp hf
    obtain ⟨h1, h2⟩ := ih p (f + 1) hp (by omega)
    have s1 := cT_s u (n := n) (m := m) hp (show f < m by omega)
    have m2 : cT u n m (p + 1) (f + 1) ≤ cT u n m (p + 1) f := by
      by_cases q : p + 1 = n
      · rw [q, cT_n]; omega
      · have s2 := cT_s u (n := n) (m := m) (i := p + 1) (j := f) (by omega) (by omega)
        split at s2 <;> omega
    refine ⟨?_, fun _ => ⟨?_, m2⟩⟩
    · split at s1 <;> omega
    · split at s1 <;> omega
def cfl (u : Nat → Nat → Bool) (m p f : Nat) : Nat := fnd (u p) (m - f) f
theorem cfl_le {p f : Nat} (hf : f ≤ m) : f ≤ cfl u m p f ∧ cfl u m p f ≤ m := by
  have := fnd_le (u p) (m - f) f
  unfold cfl; omega
theorem cT_fl : ∀ d p f, p < n → f + d = m → cT u n m p f = if cfl u m p f < m then max (cT u n m (p + 1) f) (cT u n m (p + 1) (cfl u m p f + 1) + 1) else cT u n m (p + 1) f := by
  intro d
  induction d with
  | zero =>
    intro p f hp hf
    have : f = m := by omega
    subst this
    have e : cfl u f p f = f := by unfold cfl; rw [Nat.sub_self]; rfl
    rw [e, if_neg (by omega), cT_m, cT_m]
  | succ d ih =>
    intro p f hp hf
    have s1 := cT_s u (n := n) (m := m) hp (show f < m by omega)
    have r1 := cT_row (u := u) (n := n) (m := m) (d + 1) p f hp hf
    have r2 := cT_row (u := u) (n := n) (m := m) d p (f + 1) hp (by omega)
    have hm := r1.2 (by omega)
    have e0 : cfl u m p f = if u p f = true then f else cfl u m p (f + 1) := by
      unfold cfl
      rw [show m - f = m - (f + 1) + 1 by omega]
      rfl
    have e1 := ih p (f + 1) hp (by omega)
    have l1 := cfl_le (u := u) (m := m) (p := p) (f := f + 1) (by omega)
    cases z : u p f
    · rw [z] at s1 e0
      have e0' : cfl u m p f = cfl u m p (f + 1) := e0
      have s1' : cT u n m p f = max (cT u n m (p + 1) f) (cT u n m p (f + 1)) := s1
      rw [e0', s1', e1]
      by_cases q : cfl u m p (f + 1) < m
      · rw [if_pos q, if_pos q]; omega
      · rw [if_neg q, if_neg q]; omega
    · rw [z] at s1 e0
      have e0' : cfl u m p f = f := e0
      have s1' : cT u n m p f = max (max (cT u n m (p + 1) f) (cT u n m p (f + 1))) (cT u n m (p + 1) (f + 1) + 1) := s1
      rw [e0', s1', if_pos (by omega)]
      omega
def cok (u : Nat → Nat → Bool) (n m f left p : Nat) : Bool := decide (cfl u m p f < m ∧ cT u n m (p + 1) (cfl u m p f + 1) + 1 = left)
theorem cok_step {p f left : Nat} (hp : p < n) (hf : f ≤ m) (h : cT u n m p f = left) (hl : 1 ≤ left) : cok u n m f left p = true ∨ cT u n m (p + 1) f = left := by
  have e := cT_fl (u := u) (n := n) (m := m) (m - f) p f hp (by omega)
  by_cases q : cfl u m p f < m
  · rw [if_pos q] at e
    by_cases q2 : cT u n m (p + 1) (cfl u m p f + 1) + 1 = left
    · left; exact decide_eq_true ⟨q, q2⟩
    · right; omega
  · rw [if_neg q] at e
    right; omega
theorem cok_ex : ∀ d p f left, p + d = n → f ≤ m → cT u n m p f = left → 1 ≤ left → fnd (cok u n m f left) (n - p) p < n := by
  intro d
  induction d with
  | zero =>
    intro p f left hp hf h hl
    have : p = n := by omega
    subst this
    rw [cT_n] at h; omega
  | succ d ih =>
    intro p f left hp hf h hl
    rcases cok_step (show p < n by omega) hf h hl with q | q
    · have := fnd_lt (cok u n m f left) (n - p) p p (Nat.le_refl _) (by omega) q
      omega
    · have i := ih (p + 1) f left (by omega) hf q hl
      rw [show n - p = n - (p + 1) + 1 by omega]
      show (if cok u n m f left p = true then p else fnd (cok u n m f left) (n - (p + 1)) (p + 1)) < n
      split <;> omega
/-- what is picked, one by one: the next place of the first, and of the other -/
def pkS (u : Nat → Nat → Bool) (n m : Nat) : Nat → Nat × Nat
  | 0 => (0, 0)
  | k + 1 => (fnd (cok u n m (pkS u n m k).2 (cT u n m 0 0 - k)) (n - (pkS u n m k).1) (pkS u n m k).1 + 1, cfl u m (fnd (cok u n m (pkS u n m k).2 (cT u n m 0 0 - k)) (n - (pkS u n m k).1) (pkS u n m k).1) (pkS u n m k).2 + 1)
theorem pkS_ok : ∀ k, k ≤ cT u n m 0 0 → (pkS u n m k).1 ≤ n ∧ (pkS u n m k).2 ≤ m ∧ cT u n m (pkS u n m k).1 (pkS u n m k).2 = cT u n m 0 0 - k := by
  intro k
  induction k with
  | zero => intro _; exact ⟨Nat.zero_le _, Nat.zero_le _, rfl⟩
  | succ k ih =>
    intro hk
    obtain ⟨h1, h2, h3⟩ := ih (by omega)
    have ex := cok_ex (u := u) (n := n) (m := m) (n - (pkS u n m k).1) (pkS u n m k).1 (pkS u n m k).2 (cT u n m 0 0 - k) (by omega) h2 h3 (by omega)
    have hP := fnd_P (cok u n m (pkS u n m k).2 (cT u n m 0 0 - k)) (n - (pkS u n m k).1) (pkS u n m k).1 (by omega)
    have hQ := of_decide_eq_true hP
    refine ⟨by show fnd _ _ _ + 1 ≤ n; omega, by show cfl _ _ _ _ + 1 ≤ m; omega, ?_⟩
    show cT u n m (fnd _ _ _ + 1) (cfl u m _ _ + 1) = _
    omega
theorem pkS_in {k : Nat} (hk : k < cT u n m 0 0) : (pkS u n m k).1 ≤ (pkS u n m (k + 1)).1 - 1 ∧ (pkS u n m (k + 1)).1 - 1 < n := by
  obtain ⟨h1, h2, h3⟩ := pkS_ok (u := u) (n := n) (m := m) k (by omega)
  have ex := cok_ex (u := u) (n := n) (m := m) (n - (pkS u n m k).1) (pkS u n m k).1 (pkS u n m k).2 (cT u n m 0 0 - k) (by omega) h2 h3 (by omega)
  have l := fnd_le (cok u n m (pkS u n m k).2 (cT u n m 0 0 - k)) (n - (pkS u n m k).1) (pkS u n m k).1
  have e : (pkS u n m (k + 1)).1 = fnd (cok u n m (pkS u n m k).2 (cT u n m 0 0 - k)) (n - (pkS u n m k).1) (pkS u n m k).1 + 1 := rfl
  omega
end CT
def cu (N : TN) (r q i j : Nat) : Bool := shB (lv N r i) (lv N q j)
section CC
variable {n : Nat} {I s : TI} {O : TO} {N : TN}
theorem x_sharedFrom (hO : OF O) (hB : WB N) {r q : Nat} (hr : r < N 0) (hq : q < N 0) {i j : Nat} (hi : i < Ln N r) (hj : j < Ln N q) (h1 : Row s 288 (lv N r) (Ln N r)) (h2 : Row s 289 (lv N q) (Ln N q)) (hg : ∀ i' j', j' ≤ Ln N q → (i + 1 ≤ i' ∨ (i' = i ∧ j + 1 ≤ j')) → i' ≤ Ln N r → s 290 (i' * 17 + j') = nI (cT (cu N r q) (Ln N r) (Ln N q) i' j')) : f2_sharedFrom s O 287 (nI i) (nI j) = some (nI (cT (cu N r q) (Ln N r) (Ln N q) i j)) := by
  have b1 := hB.1
  have l1 := hB.2.2.1 r (by omega)
  have l2 := hB.2.2.1 q (by omega)
  have t1 := hg (i + 1) (j + 1) (by omega) (by omega) (by omega)
  have t2 := hg (i + 1) j (by omega) (by omega) (by omega)
  have t3 := hg i (j + 1) (by omega) (by omega) (by omega)
  have w1 := cT_le (cu N r q) (Ln N r) (Ln N q) (i + 1) (j + 1)
  have w2 := cT_le (cu N r q) (Ln N r) (Ln N q) (i + 1) j
  have w3 := cT_le (cu N r q) (Ln N r) (Ln N q) i (j + 1)
  have a1 := h1 i hi
  have a2 := h2 j hj
  have v1 := lv_le hB (r := r) (p := i) (by omega) (by omega)
  have v2 := lv_le hB (r := q) (p := j) (by omega) (by omega)
  have e3 := x_isSameHole (a := lv N r i) (b := lv N q j) (by omega) (by omega)
  have i1 : (i + 1) * 17 + j + 1 = (i + 1) * 17 + (j + 1) := by omega
  have i2 : i * 17 + j + 1 = i * 17 + (j + 1) := by omega
  rw [cT_s _ hi hj]
  have eu : cu N r q i j = shB (lv N r i) (lv N q j) := rfl
  rw [eu]
  generalize cT (cu N r q) (Ln N r) (Ln N q) (i + 1) (j + 1) = A at *
  generalize cT (cu N r q) (Ln N r) (Ln N q) (i + 1) j = B at *
  generalize cT (cu N r q) (Ln N r) (Ln N q) i (j + 1) = C at *
  by_cases z1 : B < C
  · cases z : shB (lv N r i) (lv N q j)
    · have x : max B C = C := by omega
      simp (disch := omega) only [f2_sharedFrom, o_287_0 hO, o_287_1 hO, o_287_2 hO, fJ9_max_7cf53, i1, i2, t1, t2, t3, a1, a2, e3, z, Bool.false_eq_true, x, qL, qb, qbl, qadd, qmul, qsubm, qdm, qsub, qdiv, qcl, qlt, qle, qeq, nltT, nltF, nleT, nleF, neqT, neqF, or_false, false_or, or_true, true_or, or_self, and_true, true_and, and_false, false_and, and_self, not_true_eq_false, not_false_eq_true, ↓reduceIte]
    · by_cases z2 : C < A + 1
      · have x : max (max B C) (A + 1) = A + 1 := by omega
        simp (disch := omega) only [f2_sharedFrom, o_287_0 hO, o_287_1 hO, o_287_2 hO, fJ9_max_7cf53, i1, i2, t1, t2, t3, a1, a2, e3, z, x, qL, qb, qbl, qadd, qmul, qsubm, qdm, qsub, qdiv, qcl, qlt, qle, qeq, nltT, nltF, nleT, nleF, neqT, neqF, or_false, false_or, or_true, true_or, or_self, and_true, true_and, and_false, false_and, and_self, not_true_eq_false, not_false_eq_true, ↓reduceIte]
      · have x : max (max B C) (A + 1) = C := by omega
        simp (disch := omega) only [f2_sharedFrom, o_287_0 hO, o_287_1 hO, o_287_2 hO, fJ9_max_7cf53, i1, i2, t1, t2, t3, a1, a2, e3, z, x, qL, qb, qbl, qadd, qmul, qsubm, qdm, qsub, qdiv, qcl, qlt, qle, qeq, nltT, nltF, nleT, nleF, neqT, neqF, or_false, false_or, or_true, true_or, or_self, and_true, true_and, and_false, false_and, and_self, not_true_eq_false, not_false_eq_true, ↓reduceIte]
  · cases z : shB (lv N r i) (lv N q j)
    · have x : max B C = B := by omega
      simp (disch := omega) only [f2_sharedFrom, o_287_0 hO, o_287_1 hO, o_287_2 hO, fJ9_max_7cf53, i1, i2, t1, t2, t3, a1, a2, e3, z, Bool.false_eq_true, x, qL, qb, qbl, qadd, qmul, qsubm, qdm, qsub, qdiv, qcl, qlt, qle, qeq, nltT, nltF, nleT, nleF, neqT, neqF, or_false, false_or, or_true, true_or, or_self, and_true, true_and, and_false, false_and, and_self, not_true_eq_false, not_false_eq_true, ↓reduceIte]
    · by_cases z2 : B < A + 1
      · have x : max (max B C) (A + 1) = A + 1 := by omega
        simp (disch := omega) only [f2_sharedFrom, o_287_0 hO, o_287_1 hO, o_287_2 hO, fJ9_max_7cf53, i1, i2, t1, t2, t3, a1, a2, e3, z, x, qL, qb, qbl, qadd, qmul, qsubm, qdm, qsub, qdiv, qcl, qlt, qle, qeq, nltT, nltF, nleT, nleF, neqT, neqF, or_false, false_or, or_true, true_or, or_self, and_true, true_and, and_false, false_and, and_self, not_true_eq_false, not_false_eq_true, ↓reduceIte]
      · have x : max (max B C) (A + 1) = B := by omega
        simp (disch := omega) only [f2_sharedFrom, o_287_0 hO, o_287_1 hO, o_287_2 hO, fJ9_max_7cf53, i1, i2, t1, t2, t3, a1, a2, e3, z, x, qL, qb, qbl, qadd, qmul, qsubm, qdm, qsub, qdiv, qcl, qlt, qle, qeq, nltT, nltF, nleT, nleF, neqT, neqF, or_false, false_or, or_true, true_or, or_self, and_true, true_and, and_false, false_and, and_self, not_true_eq_false, not_false_eq_true, ↓reduceIte]
theorem x_firstLike (hn : 100000 ≤ n) (hO : OF O) (hB : WB N) {r q : Nat} (hr : r < N 0) (hq : q < N 0) {i f : Nat} (hi : i < Ln N r) (hf : f ≤ Ln N q) (h1 : Row s 288 (lv N r) (Ln N r)) (h2 : Row s 289 (lv N q) (Ln N q)) : f2_firstLike n s O 287 (nI i) (nI f) (nI (Ln N q)) = some (nI (cfl (cu N r q) (Ln N q) i f)) := by
  have b1 := hB.1
  have l1 := hB.2.2.1 r (by omega)
  have l2 := hB.2.2.1 q (by omega)
  refine lpE (L := fun m k => f2_firstLike_c3 n s O m 287 (nI i) (nI (Ln N q)) (nI k)) (cu N r q i) (Ln N q) (fun k => some (nI k)) ?_ ?_ (Ln N q - f) f n (by omega) (by omega)
  · intro m k hk
    have a1 := h1 i hi
    have a2 := h2 k hk
    have v1 := lv_le hB (r := r) (p := i) (by omega) (by omega)
    have v2 := lv_le hB (r := q) (p := k) (by omega) (by omega)
    have e3 := x_isSameHole (a := lv N r i) (b := lv N q k) (by omega) (by omega)
    have eu : cu N r q i k = shB (lv N r i) (lv N q k) := rfl
    rw [eu]
    cases z : shB (lv N r i) (lv N q k)
    · simp (disch := omega) only [f2_firstLike_c3, o_287_0 hO, o_287_1 hO, a1, a2, e3, z, Bool.false_eq_true, qL, qb, qbl, qadd, qmul, qsubm, qdm, qsub, qdiv, qcl, qlt, qle, qeq, nltT, nltF, nleT, nleF, neqT, neqF, or_false, false_or, or_true, true_or, or_self, and_true, true_and, and_false, false_and, and_self, not_true_eq_false, not_false_eq_true, ↓reduceIte]
    · simp (disch := omega) only [f2_firstLike_c3, o_287_0 hO, o_287_1 hO, a1, a2, e3, z, qL, qb, qbl, qadd, qmul, qsubm, qdm, qsub, qdiv, qcl, qlt, qle, qeq, nltT, nltF, nleT, nleF, neqT, neqF, or_false, false_or, or_true, true_or, or_self, and_true, true_and, and_false, false_and, and_self, not_true_eq_false, not_false_eq_true, ↓reduceIte]
  · intro m
    simp (disch := omega) only [f2_firstLike_c3, qL, qb, qbl, qadd, qmul, qsubm, qdm, qsub, qdiv, qcl, qlt, qle, qeq, nltT, nltF, nleT, nleF, neqT, neqF, or_false, false_or, or_true, true_or, or_self, and_true, true_and, and_false, false_and, and_self, not_true_eq_false, not_false_eq_true, ↓reduceIte]
theorem x_pick (hn : 100000 ≤ n) (hO : OF O) (hB : WB N) {r q : Nat} (hr : r < N 0) (hq : q < N 0) (h1 : Row s 288 (lv N r) (Ln N r)) (h2 : Row s 289 (lv N q) (Ln N q)) (hg : ∀ i' j', j' ≤ Ln N q → i' ≤ Ln N r → s 290 (i' * 17 + j') = nI (cT (cu N r q) (Ln N r) (Ln N q) i' j')) : ∃ s', f2_pickShared n s O 287 (nI (Ln N r)) (nI (Ln N q)) = some s' ∧ (∀ a, a ≠ 291 → s' a = s a) ∧ ∀ k, k < cT (cu N r q) (Ln N r) (Ln N q) 0 0 → s' 291 k = nI ((pkS (cu N r q) (Ln N r) (Ln N q) (k + 1)).1 - 1) := by
  have b1 := hB.1
  have l1 := hB.2.2.1 r (by omega)
  have l2 := hB.2.2.1 q (by omega)
  have t0 := cT_le (cu N r q) (Ln N r) (Ln N q) 0 0
  refine lpR (L := fun m i (t : TI × Nat) => f2_pickShared_c8 n O m t.1 287 (nI (Ln N r)) (nI (Ln N q)) (nI t.2) (nI (pkS (cu N r q) (Ln N r) (Ln N q) t.2).2) (nI i)) (fun i t => t.2 ≤ cT (cu N r q) (Ln N r) (Ln N q) 0 0 ∧ (pkS (cu N r q) (Ln N r) (Ln N q) t.2).1 ≤ i ∧ (t.2 < cT (cu N r q) (Ln N r) (Ln N q) 0 0 → i ≤ fnd (cok (cu N r q) (Ln N r) (Ln N q) (pkS (cu N r q) (Ln N r) (Ln N q) t.2).2 (cT (cu N r q) (Ln N r) (Ln N q) 0 0 - t.2)) (Ln N r - (pkS (cu N r q) (Ln N r) (Ln N q) t.2).1) (pkS (cu N r q) (Ln N r) (Ln N q) t.2).1) ∧ (∀ a, a ≠ 291 → t.1 a = s a) ∧ ∀ k, k < t.2 → t.1 291 k = nI ((pkS (cu N r q) (Ln N r) (Ln N q) (k + 1)).1 - 1)) (fun res => ∃ s', res = some s' ∧ (∀ a, a ≠ 291 → s' a = s a) ∧ ∀ k, k < cT (cu N r q) (Ln N r) (Ln N q) 0 0 → s' 291 k = nI ((pkS (cu N r q) (Ln N r) (Ln N q) (k + 1)).1 - 1)) (Ln N r) ?_ ?_ (Ln N r) 0 n (s, 0) (by omega) (by omega) ⟨Nat.zero_le _, Nat.zero_le _, fun _ => Nat.zero_le _, fun _ _ => rfl, fun k hk => absurd hk (Nat.not_lt_zero _)⟩
  · intro m i t hi ⟨k1, k2, k3, k4, k5⟩
    have g0 : t.1 290 0 = nI (cT (cu N r q) (Ln N r) (Ln N q) 0 0) := by rw [k4 290 (by omega)]; exact hg 0 0 (by omega) (by omega)
    by_cases z : t.2 = cT (cu N r q) (Ln N r) (Ln N q) 0 0
    · right
      refine ⟨t.1, ?_, k4, fun k hk => k5 k (by omega)⟩
      simp (disch := omega) only [f2_pickShared_c8, o_287_2 hO, g0, qL, qb, qbl, qadd, qmul, qsubm, qdm, qsub, qdiv, qcl, qlt, qle, qeq, nltT, nltF, nleT, nleF, neqT, neqF, or_false, false_or, or_true, true_or, or_self, and_true, true_and, and_false, false_and, and_self, not_true_eq_false, not_false_eq_true, ↓reduceIte]
    · left
      obtain ⟨p1, p2, p3⟩ := pkS_ok (u := cu N r q) (n := Ln N r) (m := Ln N q) t.2 (by omega)
      have k3' := k3 (by omega)
      have fl := x_firstLike (n := n) hn hO hB hr hq (s := t.1) (i := i) (f := (pkS (cu N r q) (Ln N r) (Ln N q) t.2).2) hi p2 (fun p hp => by rw [k4 288 (by omega)]; exact h1 p hp) (fun p hp => by rw [k4 289 (by omega)]; exact h2 p hp)
      have fle := cfl_le (u := cu N r q) (m := Ln N q) (p := i) (f := (pkS (cu N r q) (Ln N r) (Ln N q) t.2).2) p2
      have hsub : nI (cT (cu N r q) (Ln N r) (Ln N q) 0 0) - nI t.2 = nI (cT (cu N r q) (Ln N r) (Ln N q) 0 0 - t.2) := qsub (by omega)
      by_cases zc : cok (cu N r q) (Ln N r) (Ln N q) (pkS (cu N r q) (Ln N r) (Ln N q) t.2).2 (cT (cu N r q) (Ln N r) (Ln N q) 0 0 - t.2) i = true
      · have hf : fnd (cok (cu N r q) (Ln N r) (Ln N q) (pkS (cu N r q) (Ln N r) (Ln N q) t.2).2 (cT (cu N r q) (Ln N r) (Ln N q) 0 0 - t.2)) (Ln N r - (pkS (cu N r q) (Ln N r) (Ln N q) t.2).1) (pkS (cu N r q) (Ln N r) (Ln N q) t.2).1 = i := by
          have := fnd_lt _ (Ln N r - (pkS (cu N r q) (Ln N r) (Ln N q) t.2).1) (pkS (cu N r q) (Ln N r) (Ln N q) t.2).1 i k2 (by omega) zc
          omega
        have e1 : pkS (cu N r q) (Ln N r) (Ln N q) (t.2 + 1) = (i + 1, cfl (cu N r q) (Ln N q) i (pkS (cu N r q) (Ln N r) (Ln N q) t.2).2 + 1) := by
          show (fnd _ _ _ + 1, cfl _ _ (fnd _ _ _) _ + 1) = _
          rw [hf]
        obtain ⟨c1, c2⟩ := of_decide_eq_true zc
        have gg : t.1 290 ((i + 1) * 17 + (cfl (cu N r q) (Ln N q) i (pkS (cu N r q) (Ln N r) (Ln N q) t.2).2 + 1)) = nI (cT (cu N r q) (Ln N r) (Ln N q) (i + 1) (cfl (cu N r q) (Ln N q) i (pkS (cu N r q) (Ln N r) (Ln N q) t.2).2 + 1)) := by
          rw [k4 290 (by omega)]; exact hg _ _ (by omega) (by omega)
        refine ⟨(sI t.1 291 t.2 (nI i), t.2 + 1), ⟨by show t.2 + 1 ≤ _; omega, ?_, ?_, fun a ha => by show sI t.1 291 t.2 (nI i) a = _; rw [sI_o _ _ ha]; exact k4 a ha, fun k hk => ?_⟩, ?_⟩
        · show (pkS (cu N r q) (Ln N r) (Ln N q) (t.2 + 1)).1 ≤ i + 1
          rw [e1]; exact Nat.le_refl _
        · intro _
          dsimp only
          have := (fnd_le (cok (cu N r q) (Ln N r) (Ln N q) (pkS (cu N r q) (Ln N r) (Ln N q) (t.2 + 1)).2 (cT (cu N r q) (Ln N r) (Ln N q) 0 0 - (t.2 + 1))) (Ln N r - (pkS (cu N r q) (Ln N r) (Ln N q) (t.2 + 1)).1) (pkS (cu N r q) (Ln N r) (Ln N q) (t.2 + 1)).1).1
          have e2 : (pkS (cu N r q) (Ln N r) (Ln N q) (t.2 + 1)).1 = i + 1 := by rw [e1]
          omega
        · show sI t.1 291 t.2 (nI i) 291 k = _
          by_cases zk : k = t.2
          · subst zk
            rw [sI_s, e1]; rfl
          · rw [sI_k _ _ zk]
            exact k5 k (by have : k < t.2 + 1 := hk; omega)
        · show f2_pickShared_c8 n O (m + 1) t.1 287 (nI (Ln N r)) (nI (Ln N q)) (nI t.2) (nI (pkS (cu N r q) (Ln N r) (Ln N q) t.2).2) (nI i) = f2_pickShared_c8 n O m (sI t.1 291 t.2 (nI i)) 287 (nI (Ln N r)) (nI (Ln N q)) (nI (t.2 + 1)) (nI (pkS (cu N r q) (Ln N r) (Ln N q) (t.2 + 1)).2) (nI (i + 1))
          rw [e1]
          generalize cfl (cu N r q) (Ln N q) i (pkS (cu N r q) (Ln N r) (Ln N q) t.2).2 = j at *
          have i1 : (i + 1) * 17 + j + 1 = (i + 1) * 17 + (j + 1) := by omega
          have c3 : cT (cu N r q) (Ln N r) (Ln N q) (i + 1) (j + 1) ≤ 16 := by have := cT_le (cu N r q) (Ln N r) (Ln N q) (i + 1) (j + 1); omega
          simp (disch := omega) only [f2_pickShared_c8, o_287_2 hO, o_287_3 hO, g0, fl, i1, gg, hsub, c2, qL, qb, qbl, qadd, qmul, qsubm, qdm, qsub, qdiv, qcl, qlt, qle, qeq, nltT, nltF, nleT, nleF, neqT, neqF, or_false, false_or, or_true, true_or, or_self, and_true, true_and, and_false, false_and, and_self, not_true_eq_false, not_false_eq_true, ↓reduceIte]
      · refine ⟨t, ⟨k1, by omega, ?_, k4, k5⟩, ?_⟩
        · intro _
          by_cases q3 : fnd (cok (cu N r q) (Ln N r) (Ln N q) (pkS (cu N r q) (Ln N r) (Ln N q) t.2).2 (cT (cu N r q) (Ln N r) (Ln N q) 0 0 - t.2)) (Ln N r - (pkS (cu N r q) (Ln N r) (Ln N q) t.2).1) (pkS (cu N r q) (Ln N r) (Ln N q) t.2).1 = i
          · have := fnd_P (cok (cu N r q) (Ln N r) (Ln N q) (pkS (cu N r q) (Ln N r) (Ln N q) t.2).2 (cT (cu N r q) (Ln N r) (Ln N q) 0 0 - t.2)) (Ln N r - (pkS (cu N r q) (Ln N r) (Ln N q) t.2).1) (pkS (cu N r q) (Ln N r) (Ln N q) t.2).1 (by omega)
            rw [q3] at this
            exact absurd this zc
          · omega
        · have zc' : ¬ (cfl (cu N r q) (Ln N q) i (pkS (cu N r q) (Ln N r) (Ln N q) t.2).2 < Ln N q ∧ cT (cu N r q) (Ln N r) (Ln N q) (i + 1) (cfl (cu N r q) (Ln N q) i (pkS (cu N r q) (Ln N r) (Ln N q) t.2).2 + 1) + 1 = cT (cu N r q) (Ln N r) (Ln N q) 0 0 - t.2) := fun q => zc (decide_eq_true q)
          by_cases zj : cfl (cu N r q) (Ln N q) i (pkS (cu N r q) (Ln N r) (Ln N q) t.2).2 < Ln N q
          · have gg : t.1 290 ((i + 1) * 17 + (cfl (cu N r q) (Ln N q) i (pkS (cu N r q) (Ln N r) (Ln N q) t.2).2 + 1)) = nI (cT (cu N r q) (Ln N r) (Ln N q) (i + 1) (cfl (cu N r q) (Ln N q) i (pkS (cu N r q) (Ln N r) (Ln N q) t.2).2 + 1)) := by
              rw [k4 290 (by omega)]; exact hg _ _ (by omega) (by omega)
            generalize cfl (cu N r q) (Ln N q) i (pkS (cu N r q) (Ln N r) (Ln N q) t.2).2 = j at *
            have i1 : (i + 1) * 17 + j + 1 = (i + 1) * 17 + (j + 1) := by omega
            have c3 : cT (cu N r q) (Ln N r) (Ln N q) (i + 1) (j + 1) ≤ 16 := by have := cT_le (cu N r q) (Ln N r) (Ln N q) (i + 1) (j + 1); omega
            have zd : ¬ cT (cu N r q) (Ln N r) (Ln N q) (i + 1) (j + 1) + 1 = cT (cu N r q) (Ln N r) (Ln N q) 0 0 - t.2 := fun q => zc' ⟨zj, q⟩
            simp (disch := omega) only [f2_pickShared_c8, o_287_2 hO, o_287_3 hO, g0, fl, i1, gg, hsub, qL, qb, qbl, qadd, qmul, qsubm, qdm, qsub, qdiv, qcl, qlt, qle, qeq, nltT, nltF, nleT, nleF, neqT, neqF, or_false, false_or, or_true, true_or, or_self, and_true, true_and, and_false, false_and, and_self, not_true_eq_false, not_false_eq_true, ↓reduceIte]
          · simp (disch := omega) only [f2_pickShared_c8, o_287_2 hO, o_287_3 hO, g0, fl, qL, qb, qbl, qadd, qmul, qsubm, qdm, qsub, qdiv, qcl, qlt, qle, qeq, nltT, nltF, nleT, nleF, neqT, neqF, or_false, false_or, or_true, true_or, or_self, and_true, true_and, and_false, false_and, and_self, not_true_eq_false, not_false_eq_true, ↓reduceIte]
  · intro m t ⟨k1, k2, k3, k4, k5⟩
    refine ⟨t.1, ?_, k4, fun k hk => k5 k ?_⟩
    · simp (disch := omega) only [f2_pickShared_c8, qL, qb, qbl, qadd, qmul, qsubm, qdm, qsub, qdiv, qcl, qlt, qle, qeq, nltT, nltF, nleT, nleF, neqT, neqF, or_false, false_or, or_true, true_or, or_self, and_true, true_and, and_false, false_and, and_self, not_true_eq_false, not_false_eq_true, ↓reduceIte]
    · by_cases z : t.2 < cT (cu N r q) (Ln N r) (Ln N q) 0 0
      · have := k3 z
        obtain ⟨p1, p2, p3⟩ := pkS_ok (u := cu N r q) (n := Ln N r) (m := Ln N q) t.2 (by omega)
        have ex := cok_ex (u := cu N r q) (n := Ln N r) (m := Ln N q) (Ln N r - (pkS (cu N r q) (Ln N r) (Ln N q) t.2).1) _ _ _ (by omega) p2 p3 (by omega)
        omega
      · omega
end CC
