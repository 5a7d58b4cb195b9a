/-! loops by their steps -/
def fo {σ : Type} (g : Nat → σ → σ) : Nat → Nat → σ → σ
  | 0, _, s => s
  | d + 1, k, s => fo g d (k + 1) (g k s)
theorem lpF {α σ : Type} {L : Nat → Nat → σ → Option α} (g : Nat → σ → σ) (Inv : Nat → σ → Prop) (e : Nat) (r : σ → α) (hs : ∀ m k s, k < e → Inv k s → L (m + 1) k s = L m (k + 1) (g k s)) (hi : ∀ k s, k < e → Inv k s → Inv (k + 1) (g k s)) (he : ∀ m s, Inv e s → L (m + 1) e s = some (r s)) : ∀ d k m s, k + d = e → d < m → Inv k s → L m k s = some (r (fo g d k s)) := by
  intro d
  induction d with
  | zero =>
    intro k m s hk hm hI
    obtain ⟨m', rfl⟩ : ∃ m', m = m' + 1 := ⟨m - 1, by omega⟩
    have : k = e := by omega
    subst this
    exact he m' s hI
  | succ d ih =>
    intro k m s hk hm hI
    obtain ⟨m', rfl⟩ : ∃ m', m = m' + 1 := ⟨m - 1, by omega⟩
    rw [hs m' k s (by omega) hI, ih (k + 1) m' (g k s) (by omega) (by omega) (hi k s (by omega) hI)]
    rfl
theorem foI {σ : Type} (g : Nat → σ → σ) (Inv : Nat → σ → Prop) (e : Nat) (hi : ∀ k s, k < e → Inv k s → Inv (k + 1) (g k s)) : ∀ d k s, k + d = e → Inv k s → Inv e (fo g d k s) := by
  intro d
  induction d with
  | zero =>
    intro k s hk hI
    have : k = e := by omega
    subst this
    exact hI
  | succ d ih =>
    intro k s hk hI
    exact ih (k + 1) (g k s) (by omega) (hi k s (by omega) hI)
theorem lpR {α σ : Type} {L : Nat → Nat → σ → Option α} (Inv : Nat → σ → Prop) (Q : Option α → Prop) (e : Nat) (hs : ∀ m k s, k < e → Inv k s → (∃ s', Inv (k + 1) s' ∧ L (m + 1) k s = L m (k + 1) s') ∨ Q (L (m + 1) k s)) (he : ∀ m s, Inv e s → Q (L (m + 1) e s)) : ∀ d k m s, k + d = e → d < m → Inv k s → Q (L m k s) := by
  intro d
  induction d with
  | zero =>
    intro k m s hk hm hI
    obtain ⟨m', rfl⟩ : ∃ m', m = m' + 1 := ⟨m - 1, by omega⟩
    have : k = e := by omega
    subst this
    exact he m' s hI
  | succ d ih =>
    intro k m s hk hm hI
    obtain ⟨m', rfl⟩ : ∃ m', m = m' + 1 := ⟨m - 1, by omega⟩
    rcases hs m' k s (by omega) hI with ⟨s', h1, h2⟩ | h
    · rw [h2]; exact ih (k + 1) m' s' (by omega) (by omega) h1
    · exact h
theorem lpD {α σ : Type} {L : Nat → Nat → σ → Option α} (Inv : Nat → σ → Prop) (Q : Option α → Prop) (hs : ∀ m k s, Inv (k + 1) s → (∃ s', Inv k s' ∧ L (m + 1) (k + 1) s = L m k s') ∨ Q (L (m + 1) (k + 1) s)) (he : ∀ m s, Inv 0 s → Q (L (m + 1) 0 s)) : ∀ k m s, k < m → Inv k s → Q (L m k s) := by
  intro k
  induction k with
  | zero =>
    intro m s hm hI
    obtain ⟨m', rfl⟩ : ∃ m', m = m' + 1 := ⟨m - 1, by omega⟩
    exact he m' s hI
  | succ k ih =>
    intro m s hm hI
    obtain ⟨m', rfl⟩ : ∃ m', m = m' + 1 := ⟨m - 1, by omega⟩
    rcases hs m' k s hI with ⟨s', h1, h2⟩ | h
    · rw [h2]; exact ih m' s' (by omega) h1
    · exact h
theorem neg1 : nI 0 + -nI 1 < nI 0 := by decide
/-! what the class and the reference may write into -/
def XF (I I' : TI) : Prop := ∀ a, (a < 283 ∨ 300 ≤ a) → I' a = I a
theorem XF_r (I : TI) : XF I I := fun _ _ => rfl
theorem XF_t {I J H : TI} (h : XF I J) (k : XF J H) : XF I H := fun a ha => (k a ha).trans (h a ha)
theorem XF_s {I J : TI} {a k : Nat} {v : Int32} (h : XF I J) (h1 : 283 ≤ a) (h2 : a < 300) : XF I (sI J a k v) := fun b hb => by rw [sI_o _ _ (by omega)]; exact h b hb
def MF (I I' : TI) : Prop := (∀ a, a ≠ 331 → a < 336 → I' a = I a) ∧ ∀ k, k = 4 ∨ k = 5 ∨ k = 6 ∨ k = 23 → I' 331 k = I 331 k
theorem MF_r (I : TI) : MF I I := ⟨fun _ _ _ => rfl, fun _ _ => rfl⟩
theorem MF_t {I J H : TI} (h : MF I J) (k : MF J H) : MF I H := ⟨fun a h1 h2 => (k.1 a h1 h2).trans (h.1 a h1 h2), fun j hj => (k.2 j hj).trans (h.2 j hj)⟩
theorem MF_s {I J : TI} {a k : Nat} {v : Int32} (h : MF I J) (h1 : 336 ≤ a) : MF I (sI J a k v) := ⟨fun b h2 h3 => by rw [sI_o _ _ (by omega)]; exact h.1 b h2 h3, fun j hj => by rw [sI_o _ _ (by omega)]; exact h.2 j hj⟩
theorem MF_f {I J : TI} {k : Nat} {v : Int32} (h : MF I J) (h1 : k ≠ 4 ∧ k ≠ 5 ∧ k ≠ 6 ∧ k ≠ 23) : MF I (sI J 331 k v) := ⟨fun b h2 h3 => by rw [sI_o _ _ h2]; exact h.1 b h2 h3, fun j hj => by rw [sI_k _ _ (by omega)]; exact h.2 j hj⟩
theorem R0_x {TX : TI → Nat → Prop} {I I' : TI} {O : TO} {N G : TN} {e f tp : Nat} (hT : TXst TX) (h : R0 TX I O N G e f tp) (hI : XF I I') : R0 TX I' O N G e f tp :=
  R0_sc hT h ⟨fun a ha => hI a (by omega), hI 279 (by omega), by rw [hI 278 (by omega)], fun a h1 h2 => hI a (by omega), ⟨by rw [hI 324 (by omega)], by rw [hI 324 (by omega)]⟩, ⟨by rw [hI 331 (by omega)], by rw [hI 331 (by omega)], by rw [hI 331 (by omega)], by rw [hI 331 (by omega)]⟩, fun a h1 h2 => hI a (by omega)⟩
theorem R0_m {TX : TI → Nat → Prop} {I I' : TI} {O : TO} {N G : TN} {e f tp : Nat} (hT : TXst TX) (h : R0 TX I O N G e f tp) (hI : MF I I') : R0 TX I' O N G e f tp :=
  R0_sc hT h ⟨fun a ha => hI.1 a (by omega) (by omega), hI.1 279 (by omega) (by omega), by rw [hI.1 278 (by omega) (by omega)], fun a h1 h2 => hI.1 a (by omega) (by omega), ⟨by rw [hI.1 324 (by omega) (by omega)], by rw [hI.1 324 (by omega) (by omega)]⟩, ⟨hI.2 4 (by omega), hI.2 5 (by omega), hI.2 6 (by omega), hI.2 23 (by omega)⟩, fun a h1 h2 => hI.1 a (by omega) (by omega)⟩
theorem WV_fr {I I' : TI} {O : TO} {N : TN} (h : WV I O 3 4 5 6 7 8 N) (hI : ∀ a, a < 10 → I' a = I a) : WV I' O 3 4 5 6 7 8 N := by
  unfold WV at *
  rw [hI 3 (by omega), hI 4 (by omega), hI 5 (by omega), hI 6 (by omega), hI 7 (by omega), hI 8 (by omega)]
  exact h
theorem FD_fr {I I' : TI} {N : TN} (h : FD I N) (hI : ∀ a, a < 270 → I' a = I a) : FD I' N := by
  unfold FD at *
  rw [hI 6 (by omega), hI 2 (by omega), hI 10 (by omega), hI 9 (by omega), hI 132 (by omega), hI 133 (by omega), hI 134 (by omega), hI 135 (by omega)]
  exact h
/-! rolls laid as rows of keys -/
def lv (N : TN) (r p : Nat) : Nat := if tornB N r p then 6 else K N r p
theorem lv_le {N : TN} (hB : WB N) {r p : Nat} (hr : r < 5) (hp : p < 16) : lv N r p ≤ 6 := by
  have := hB.2.2.2.2.1 r p hr hp
  unfold lv; split <;> omega
section LX
variable {n : Nat} {I : TI} {O : TO} {N : TN}
theorem lay_ok (hn : 100000 ≤ n) (hV : WV I O 3 4 5 6 7 8 N) (hB : WB N) {r b : Nat} (hr : r < N 0) (hb : 283 ≤ b) : ∃ I', f2_lay n I O 3 (nI r) b = some (nI (Ln N r), I') ∧ (∀ a, a ≠ b → I' a = I a) ∧ ∀ p, p < Ln N r → I' b p = nI (lv N r p) := by
  have b1 := hB.1
  have hl := hB.2.2.1 r (by omega)
  have e0 : f2_lay n I O 3 (nI r) b = f2_lay_c14 n O n I 3 (nI r) b (nI (Ln N r)) (nI 0) := by
    simp (disch := omega) only [f2_lay, x_size hV hB hr, fJ9_min_7cf53, qL, qb, qbl, qadd, qmul, qsubm, qdm, qsub, qdiv, qcl, qlt, qle, qeq, nltT, nltF, nleT, nleF, neqT, neqF, or_false, false_or, or_true, true_or, or_self, and_true, true_and, and_false, false_and, and_self, not_true_eq_false, not_false_eq_true, ↓reduceIte]
  rw [e0]
  refine lpR (L := fun m k s => f2_lay_c14 n O m s 3 (nI r) b (nI (Ln N r)) (nI k)) (fun k s => (∀ a, a ≠ b → s a = I a) ∧ ∀ p, p < k → s b p = nI (lv N r p)) (fun res => ∃ I', res = some (nI (Ln N r), I') ∧ (∀ a, a ≠ b → I' a = I a) ∧ ∀ p, p < Ln N r → I' b p = nI (lv N r p)) (Ln N r) ?_ ?_ (Ln N r) 0 n I (by omega) (by omega) ⟨fun a _ => rfl, fun p hp => absurd hp (Nat.not_lt_zero _)⟩
  · intro m k s hk ⟨h1, h2⟩
    have hV' : WV s O 3 4 5 6 7 8 N := WV_fr hV (fun a ha => h1 a (by omega))
    refine Or.inl ⟨sI s b k (nI (lv N r k)), ⟨fun a ha => by rw [sI_o _ _ ha, h1 a ha], fun p hp => ?_⟩, ?_⟩
    · by_cases q : p = k
      · subst q; rw [sI_s]
      · rw [sI_k _ _ q]; exact h2 p (by omega)
    · have e1 := x_isTorn hV' hB hr hk
      have e2 := x_keyAt hV' hB hr hk
      cases ht : tornB N r k
      · simp (disch := omega) only [f2_lay_c14, e1, ht, e2, lv, Bool.false_eq_true, qL, qb, qbl, qadd, qmul, qsubm, qdm, qsub, qdiv, qcl, qlt, qle, qeq, nltT, nltF, nleT, nleF, neqT, neqF, or_false, false_or, or_true, true_or, or_self, and_true, true_and, and_false, false_and, and_self, not_true_eq_false, not_false_eq_true, ↓reduceIte]
      · simp (disch := omega) only [f2_lay_c14, e1, ht, lv, qL, qb, qbl, qadd, qmul, qsubm, qdm, qsub, qdiv, qcl, qlt, qle, qeq, nltT, nltF, nleT, nleF, neqT, neqF, or_false, false_or, or_true, true_or, or_self, and_true, true_and, and_false, false_and, and_self, not_true_eq_false, not_false_eq_true, ↓reduceIte]
  · intro m s ⟨h1, h2⟩
    refine ⟨s, ?_, h1, h2⟩
    simp (disch := omega) only [f2_lay_c14, qL, qb, qbl, qadd, qmul, qsubm, qdm, qsub, qdiv, qcl, qlt, qle, qeq, nltT, nltF, nleT, nleF, neqT, neqF, or_false, false_or, or_true, true_or, or_self, and_true, true_and, and_false, false_and, and_self, not_true_eq_false, not_false_eq_true, ↓reduceIte]
def mtB (a b : Nat) : Bool := a == b || a == 6 || b == 6
def smB (a b : Nat) : Bool := a == b && a != 6
def shB (a b : Nat) : Bool := smB a b && a != 0
theorem x_matches {a b : Nat} (ha : a < 100) (hb : b < 100) : f2_matches (nI a) (nI b) = some (if mtB a b then 1 else 0) := by
  unfold mtB
  by_cases h1 : a = b
  · have : (a == b) = true := beq_iff_eq.mpr h1
    simp (disch := omega) only [f2_matches, this, Bool.true_or, qL, qb, qbl, qadd, qmul, qsubm, qdm, qsub, qdiv, qcl, qlt, qle, qeq, nltT, nltF, nleT, nleF, neqT, neqF, or_false, false_or, or_true, true_or, or_self, and_true, true_and, and_false, false_and, and_self, not_true_eq_false, not_false_eq_true, ↓reduceIte]
  · have z1 : (a == b) = false := beq_false_of_ne h1
    by_cases h2 : a = 6
    · have : (a == 6) = true := beq_iff_eq.mpr h2
      simp (disch := omega) only [f2_matches, z1, this, Bool.false_or, Bool.true_or, qL, qb, qbl, qadd, qmul, qsubm, qdm, qsub, qdiv, qcl, qlt, qle, qeq, nltT, nltF, nleT, nleF, neqT, neqF, or_false, false_or, or_true, true_or, or_self, and_true, true_and, and_false, false_and, and_self, not_true_eq_false, not_false_eq_true, ↓reduceIte]
    · have z2 : (a == 6) = false := beq_false_of_ne h2
      by_cases h3 : b = 6
      · have : (b == 6) = true := beq_iff_eq.mpr h3
        simp (disch := omega) only [f2_matches, z1, z2, this, Bool.false_or, qL, qb, qbl, qadd, qmul, qsubm, qdm, qsub, qdiv, qcl, qlt, qle, qeq, nltT, nltF, nleT, nleF, neqT, neqF, or_false, false_or, or_true, true_or, or_self, and_true, true_and, and_false, false_and, and_self, not_true_eq_false, not_false_eq_true, ↓reduceIte]
      · have z3 : (b == 6) = false := beq_false_of_ne h3
        simp (disch := omega) only [f2_matches, z1, z2, z3, Bool.false_or, Bool.false_eq_true, qL, qb, qbl, qadd, qmul, qsubm, qdm, qsub, qdiv, qcl, qlt, qle, qeq, nltT, nltF, nleT, nleF, neqT, neqF, or_false, false_or, or_true, true_or, or_self, and_true, true_and, and_false, false_and, and_self, not_true_eq_false, not_false_eq_true, ↓reduceIte]
theorem x_isSame {a b : Nat} (ha : a < 100) (hb : b < 100) : f2_isSame (nI a) (nI b) = some (if smB a b then 1 else 0) := by
  unfold smB
  by_cases h1 : a = b
  · have z1 : (a == b) = true := beq_iff_eq.mpr h1
    by_cases h2 : a = 6
    · have z2 : (a != 6) = false := by rw [h2]; rfl
      simp (disch := omega) only [f2_isSame, z1, z2, Bool.and_false, Bool.false_eq_true, qL, qb, qbl, qadd, qmul, qsubm, qdm, qsub, qdiv, qcl, qlt, qle, qeq, nltT, nltF, nleT, nleF, neqT, neqF, or_false, false_or, or_true, true_or, or_self, and_true, true_and, and_false, false_and, and_self, not_true_eq_false, not_false_eq_true, ↓reduceIte]
    · have z2 : (a != 6) = true := bne_iff_ne.mpr h2
      simp (disch := omega) only [f2_isSame, z1, z2, Bool.and_true, qL, qb, qbl, qadd, qmul, qsubm, qdm, qsub, qdiv, qcl, qlt, qle, qeq, nltT, nltF, nleT, nleF, neqT, neqF, or_false, false_or, or_true, true_or, or_self, and_true, true_and, and_false, false_and, and_self, not_true_eq_false, not_false_eq_true, ↓reduceIte]
  · have z1 : (a == b) = false := beq_false_of_ne h1
    simp (disch := omega) only [f2_isSame, z1, Bool.false_and, Bool.false_eq_true, qL, qb, qbl, qadd, qmul, qsubm, qdm, qsub, qdiv, qcl, qlt, qle, qeq, nltT, nltF, nleT, nleF, neqT, neqF, or_false, false_or, or_true, true_or, or_self, and_true, true_and, and_false, false_and, and_self, not_true_eq_false, not_false_eq_true, ↓reduceIte]
theorem x_isSameHole {a b : Nat} (ha : a < 100) (hb : b < 100) : f2_isSameHole (nI a) (nI b) = some (if shB a b then 1 else 0) := by
  have e := x_isSame ha hb
  unfold shB
  cases h : smB a b
  · simp (disch := omega) only [f2_isSameHole, e, h, Bool.false_and, Bool.false_eq_true, qL, qb, qbl, qadd, qmul, qsubm, qdm, qsub, qdiv, qcl, qlt, qle, qeq, nltT, nltF, nleT, nleF, neqT, neqF, or_false, false_or, or_true, true_or, or_self, and_true, true_and, and_false, false_and, and_self, not_true_eq_false, not_false_eq_true, ↓reduceIte]
  · by_cases h2 : a = 0
    · have z2 : (a != 0) = false := by rw [h2]; rfl
      simp (disch := omega) only [f2_isSameHole, e, h, z2, Bool.and_false, Bool.false_eq_true, qL, qb, qbl, qadd, qmul, qsubm, qdm, qsub, qdiv, qcl, qlt, qle, qeq, nltT, nltF, nleT, nleF, neqT, neqF, or_false, false_or, or_true, true_or, or_self, and_true, true_and, and_false, false_and, and_self, not_true_eq_false, not_false_eq_true, ↓reduceIte]
    · have z2 : (a != 0) = true := bne_iff_ne.mpr h2
      simp (disch := omega) only [f2_isSameHole, e, h, z2, Bool.and_true, qL, qb, qbl, qadd, qmul, qsubm, qdm, qsub, qdiv, qcl, qlt, qle, qeq, nltT, nltF, nleT, nleF, neqT, neqF, or_false, false_or, or_true, true_or, or_self, and_true, true_and, and_false, false_and, and_self, not_true_eq_false, not_false_eq_true, ↓reduceIte]
end LX
