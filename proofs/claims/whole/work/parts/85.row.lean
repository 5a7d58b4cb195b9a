/-! what is found first; rows of keys -/
def fnd (P : Nat → Bool) : Nat → Nat → Nat
  | 0, k => k
  | d + 1, k => if P k then k else fnd P d (k + 1)
theorem fnd_le (P : Nat → Bool) : ∀ d k, k ≤ fnd P d k ∧ fnd P d k ≤ k + d := by
  intro d
  induction d with
  | zero => intro k; exact ⟨Nat.le_refl _, Nat.le_refl _⟩
  | succ d ih =>
    intro k
    unfold fnd
    have := ih (k + 1)
    split <;> omega
theorem fnd_ext {P P' : Nat → Bool} : ∀ d k, (∀ j, k ≤ j → j < k + d → P j = P' j) → fnd P d k = fnd P' d k := by
  intro d
  induction d with
  | zero => intro k _; rfl
  | succ d ih =>
    intro k h
    unfold fnd
    rw [h k (by omega) (by omega), ih (k + 1) (fun j h1 h2 => h j (by omega) (by omega))]
theorem lpE {α : Type} {L : Nat → Nat → Option α} (P : Nat → Bool) (e : Nat) (out : Nat → Option α) (hs : ∀ m k, k < e → L (m + 1) k = if P k then out k else L m (k + 1)) (he : ∀ m, L (m + 1) e = out e) : ∀ d k m, k + d = e → d < m → L m k = out (fnd P d k) := by
  intro d
  induction d with
  | zero =>
    intro k m hk hm
    obtain ⟨m', rfl⟩ : ∃ m', m = m' + 1 := ⟨m - 1, by omega⟩
    have : k = e := by omega
    subst this
    exact he m'
  | succ d ih =>
    intro k m hk hm
    obtain ⟨m', rfl⟩ : ∃ m', m = m' + 1 := ⟨m - 1, by omega⟩
    rw [hs m' k (by omega)]
    unfold fnd
    cases P k
    · exact ih (k + 1) m' (by omega) (by omega)
    · rfl
/-- a row of keys in the class's memory -/
def Row (s : TI) (b : Nat) (a : Nat → Nat) (l : Nat) : Prop := ∀ p, p < l → s b p = nI (a p)
def sf (a : Nat → Nat) (l at0 later : Nat) : Nat := fnd (fun k => !smB (a (at0 + k)) (a (later + k))) (l - later) 0
theorem sf_le (a : Nat → Nat) (l at0 later : Nat) : sf a l at0 later ≤ l - later := by
  have := (fnd_le (fun k => !smB (a (at0 + k)) (a (later + k))) (l - later) 0).2
  unfold sf; omega
section RX
variable {n : Nat} {s : TI} {O : TO} {a : Nat → Nat} {l : Nat}
theorem x_sameFrom (hn : 100000 ≤ n) (hO : OF O) (hr : Row s 288 a l) (ha : ∀ p, p < l → a p ≤ 6) (hl : l ≤ 16) {at0 later : Nat} (h1 : at0 ≤ later) (h2 : later ≤ l) : f2_sameFrom n s O 287 (nI at0) (nI later) (nI l) = some (nI (sf a l at0 later)) := by
  refine lpE (L := fun m k => f2_sameFrom_c3 n s O m 287 (nI at0) (nI later) (nI l) (nI k)) (fun k => !smB (a (at0 + k)) (a (later + k))) (l - later) (fun k => some (nI k)) ?_ ?_ (l - later) 0 n (by omega) (by omega)
  · intro m k hk
    have e1 := hr (at0 + k) (by omega)
    have e2 := hr (later + k) (by omega)
    have a1 := ha (at0 + k) (by omega)
    have a2 := ha (later + k) (by omega)
    have e3 := x_isSame (a := a (at0 + k)) (b := a (later + k)) (by omega) (by omega)
    cases hs : smB (a (at0 + k)) (a (later + k))
    · simp (disch := omega) only [f2_sameFrom_c3, o_287_0 hO, e1, e2, e3, hs, Bool.false_eq_true, Bool.not_false, qL, qb, qbl, qadd, qmul, qsubm, qdm, qsub, qdiv, qcl, qlt, qle, qeq, nltT, nltF, nleT, nleF, neqT, neqF, or_false, false_or, or_true, true_or, or_self, and_true, true_and, and_false, false_and, and_self, not_true_eq_false, not_false_eq_true, ↓reduceIte]
    · simp (disch := omega) only [f2_sameFrom_c3, o_287_0 hO, e1, e2, e3, hs, Bool.false_eq_true, Bool.not_true, qL, qb, qbl, qadd, qmul, qsubm, qdm, qsub, qdiv, qcl, qlt, qle, qeq, nltT, nltF, nleT, nleF, neqT, neqF, or_false, false_or, or_true, true_or, or_self, and_true, true_and, and_false, false_and, and_self, not_true_eq_false, not_false_eq_true, ↓reduceIte]
  · intro m
    simp (disch := omega) only [f2_sameFrom_c3, qL, qb, qbl, qadd, qmul, qsubm, qdm, qsub, qdiv, qcl, qlt, qle, qeq, nltT, nltF, nleT, nleF, neqT, neqF, or_false, false_or, or_true, true_or, or_self, and_true, true_and, and_false, false_and, and_self, not_true_eq_false, not_false_eq_true, ↓reduceIte]
end RX
theorem sm_lv {N : TN} (hB : WB N) {r i j : Nat} (h1 : r < 5) (h2 : i < 16) (h4 : j < 16) : smB (lv N r i) (lv N r j) = (!tornB N r i && !tornB N r j && K N r i == K N r j) := by
  have k1 := hB.2.2.2.2.1 r i h1 h2
  have k2 := hB.2.2.2.2.1 r j h1 h4
  unfold smB lv
  cases tornB N r i <;> cases tornB N r j <;> simp <;> omega
section RM
variable {n : Nat} {J : TI} {O : TO} {N : TN}
theorem m_isAgain (hM : MV J O N) (hB : WB N) {r p q : Nat} (hr : r < 5) (hp : p < 16) (hq : q < 16) : f12_isAgain J O 331 (nI r) (nI p) (nI q) = some (if smB (lv N r p) (lv N r q) then 1 else 0) := by
  rw [sm_lv hB hr hp hq]
  have q1 := m_isTorn hM hB (r := r) (p := p) hr hp
  have q2 := m_isTorn hM hB (r := r) (p := q) hr hq
  have q3 := m_keyOf hM (r := r) (p := p) hr hp
  have q4 := m_keyOf hM (r := r) (p := q) hr hq
  have q5 := hB.2.2.2.2.1 r p hr hp
  have q6 := hB.2.2.2.2.1 r q hr hq
  cases x1 : tornB N r p
  · cases x2 : tornB N r q
    · by_cases x3 : K N r p = K N r q
      · have x3' : (K N r p == K N r q) = true := beq_iff_eq.mpr x3
        simp (disch := omega) only [f12_isAgain, q1, q2, q3, q4, x1, x2, x3', Bool.false_eq_true, Bool.not_false, Bool.and_true, qL, qb, qbl, qadd, qmul, qsubm, qdm, qsub, qdiv, qcl, qlt, qle, qeq, nltT, nltF, nleT, nleF, neqT, neqF, or_false, false_or, or_true, true_or, or_self, and_true, true_and, and_false, false_and, and_self, not_true_eq_false, not_false_eq_true, ↓reduceIte]
      · have x3' : (K N r p == K N r q) = false := beq_false_of_ne x3
        simp (disch := omega) only [f12_isAgain, q1, q2, q3, q4, x1, x2, x3', Bool.false_eq_true, Bool.not_false, Bool.and_true, Bool.and_false, qL, qb, qbl, qadd, qmul, qsubm, qdm, qsub, qdiv, qcl, qlt, qle, qeq, nltT, nltF, nleT, nleF, neqT, neqF, or_false, false_or, or_true, true_or, or_self, and_true, true_and, and_false, false_and, and_self, not_true_eq_false, not_false_eq_true, ↓reduceIte]
    · simp (disch := omega) only [f12_isAgain, q1, q2, x1, x2, Bool.false_eq_true, Bool.not_false, Bool.not_true, Bool.and_false, Bool.false_and, Bool.true_and, qL, qb, qbl, qadd, qmul, qsubm, qdm, qsub, qdiv, qcl, qlt, qle, qeq, nltT, nltF, nleT, nleF, neqT, neqF, or_false, false_or, or_true, true_or, or_self, and_true, true_and, and_false, false_and, and_self, not_true_eq_false, not_false_eq_true, ↓reduceIte]
  · simp (disch := omega) only [f12_isAgain, q1, x1, Bool.false_eq_true, Bool.not_true, Bool.false_and, qL, qb, qbl, qadd, qmul, qsubm, qdm, qsub, qdiv, qcl, qlt, qle, qeq, nltT, nltF, nleT, nleF, neqT, neqF, or_false, false_or, or_true, true_or, or_self, and_true, true_and, and_false, false_and, and_self, not_true_eq_false, not_false_eq_true, ↓reduceIte]
theorem m_againBy (hn : 100000 ≤ n) (hM : MV J O N) (hB : WB N) {r p q : Nat} (hr : r < N 0) (hp : p ≤ q) (hq : q ≤ Ln N r) : f12_againBy n J O 331 (nI r) (nI p) (nI q) = some (nI (sf (lv N r) (Ln N r) p q)) := by
  have b1 := hB.1
  have l1 := hB.2.2.1 r (by omega)
  have el := m_len hM (r := r) (by omega)
  refine lpE (L := fun m k => f12_againBy_c3 n J O m 331 (nI r) (nI p) (nI q) (nI k)) (fun k => !smB (lv N r (p + k)) (lv N r (q + k))) (Ln N r - q) (fun k => some (nI k)) ?_ ?_ (Ln N r - q) 0 n (by omega) (by omega)
  · intro m k hk
    have e1 := m_isAgain hM hB (r := r) (p := p + k) (q := q + k) (by omega) (by omega) (by omega)
    cases hs : smB (lv N r (p + k)) (lv N r (q + k))
    · simp (disch := omega) only [f12_againBy_c3, hM.1, el, e1, hs, Bool.false_eq_true, Bool.not_false, qL, qb, qbl, qadd, qmul, qsubm, qdm, qsub, qdiv, qcl, qlt, qle, qeq, nltT, nltF, nleT, nleF, neqT, neqF, or_false, false_or, or_true, true_or, or_self, and_true, true_and, and_false, false_and, and_self, not_true_eq_false, not_false_eq_true, ↓reduceIte]
    · simp (disch := omega) only [f12_againBy_c3, hM.1, el, e1, hs, Bool.false_eq_true, Bool.not_true, qL, qb, qbl, qadd, qmul, qsubm, qdm, qsub, qdiv, qcl, qlt, qle, qeq, nltT, nltF, nleT, nleF, neqT, neqF, or_false, false_or, or_true, true_or, or_self, and_true, true_and, and_false, false_and, and_self, not_true_eq_false, not_false_eq_true, ↓reduceIte]
  · intro m
    simp (disch := omega) only [f12_againBy_c3, hM.1, el, qL, qb, qbl, qadd, qmul, qsubm, qdm, qsub, qdiv, qcl, qlt, qle, qeq, nltT, nltF, nleT, nleF, neqT, neqF, or_false, false_or, or_true, true_or, or_self, and_true, true_and, and_false, false_and, and_self, not_true_eq_false, not_false_eq_true, ↓reduceIte]
end RM
/-! motif -/
def mtG (a : Nat → Nat) (l p q : Nat) (s : Int32 × Nat) : Int32 × Nat := if s.2 < sf a l p q then (nI p, sf a l p q) else s
def mtGG (a : Nat → Nat) (l p : Nat) (s : Int32 × Nat) : Int32 × Nat := fo (mtG a l p) (l - (p + 1)) (p + 1) s
theorem mtG_le {a : Nat → Nat} {l p q : Nat} {s : Int32 × Nat} (h : s.2 ≤ l) : (mtG a l p q s).2 ≤ l := by
  have := sf_le a l p q
  unfold mtG
  split
  · show sf a l p q ≤ l; omega
  · exact h
section MO
variable {n : Nat} {I : TI} {O : TO} {N : TN}
theorem x_motif (hn : 100000 ≤ n) (hO : OF O) (hV : WV I O 3 4 5 6 7 8 N) (hB : WB N) {r : Nat} (hr : r < N 0) : ∃ I', f2_findMotif n I O 287 3 (nI r) = some I' ∧ XF I I' ∧ I' 287 8 = (fo (mtGG (lv N r) (Ln N r)) (Ln N r) 0 (-1, 0)).1 ∧ I' 287 9 = nI (fo (mtGG (lv N r) (Ln N r)) (Ln N r) 0 (-1, 0)).2 := by
  have b1 := hB.1
  have l1 := hB.2.2.1 r (by omega)
  obtain ⟨I1, e1, f1, g1⟩ := lay_ok hn hV hB hr (b := 288) (by omega)
  have e0 : f2_findMotif n I O 287 3 (nI r) = f2_findMotif_c23 n O n (sI (sI I1 287 8 (-1)) 287 9 (nI 0)) 287 (nI (Ln N r)) (nI 0) := by
    simp (disch := omega) only [f2_findMotif, o_287_0 hO, e1, qL, qb, qbl, qadd, qmul, qsubm, qdm, qsub, qdiv, qcl, qlt, qle, qeq, nltT, nltF, nleT, nleF, neqT, neqF, or_false, false_or, or_true, true_or, or_self, and_true, true_and, and_false, false_and, and_self, not_true_eq_false, not_false_eq_true, ↓reduceIte]
  rw [e0]
  generalize hl : Ln N r = l at *
  have ha : ∀ p, p < l → lv N r p ≤ 6 := fun p hp => lv_le hB (by omega) (by omega)
  refine lpR (L := fun m k s => f2_findMotif_c23 n O m s 287 (nI l) (nI k)) (fun k s => (∀ x, x ≠ 287 → s x = I1 x) ∧ s 287 8 = (fo (mtGG (lv N r) l) k 0 (-1, 0)).1 ∧ s 287 9 = nI (fo (mtGG (lv N r) l) k 0 (-1, 0)).2 ∧ (fo (mtGG (lv N r) l) k 0 (-1, 0)).2 ≤ l) (fun res => ∃ I', res = some I' ∧ XF I I' ∧ I' 287 8 = (fo (mtGG (lv N r) l) l 0 (-1, 0)).1 ∧ I' 287 9 = nI (fo (mtGG (lv N r) l) l 0 (-1, 0)).2) l ?_ ?_ l 0 n _ (by omega) (by omega) ⟨fun x hx => by rw [sI_o _ _ hx, sI_o _ _ hx], ?_, ?_, ?_⟩
  · intro m k s hk ⟨h1, h2, h3, h4⟩
    left
    have st : f2_findMotif_c23 n O (m + 1) s 287 (nI l) (nI k) = f2_findMotif_c35 n O (f2_findMotif_c23 n O m) n s 287 (nI l) (nI k) (nI (k + 1)) := by
      simp (disch := omega) only [f2_findMotif_c23, qL, qb, qbl, qadd, qmul, qsubm, qdm, qsub, qdiv, qcl, qlt, qle, qeq, nltT, nltF, nleT, nleF, neqT, neqF, or_false, false_or, or_true, true_or, or_self, and_true, true_and, and_false, false_and, and_self, not_true_eq_false, not_false_eq_true, ↓reduceIte]
    show ∃ s', _ ∧ f2_findMotif_c23 n O (m + 1) s 287 (nI l) (nI k) = _
    rw [st, fo_s, Nat.zero_add]
    generalize fo (mtGG (lv N r) l) k 0 (-1, 0) = S0 at *
    refine lpR (L := fun m' j t => f2_findMotif_c35 n O (f2_findMotif_c23 n O m) m' t 287 (nI l) (nI k) (nI j)) (fun j t => k + 1 ≤ j ∧ (∀ x, x ≠ 287 → t x = I1 x) ∧ t 287 8 = (fo (mtG (lv N r) l k) (j - (k + 1)) (k + 1) S0).1 ∧ t 287 9 = nI (fo (mtG (lv N r) l k) (j - (k + 1)) (k + 1) S0).2 ∧ (fo (mtG (lv N r) l k) (j - (k + 1)) (k + 1) S0).2 ≤ l) (fun res => ∃ s', ((∀ x, x ≠ 287 → s' x = I1 x) ∧ s' 287 8 = (mtGG (lv N r) l k S0).1 ∧ s' 287 9 = nI (mtGG (lv N r) l k S0).2 ∧ (mtGG (lv N r) l k S0).2 ≤ l) ∧ res = f2_findMotif_c23 n O m s' 287 (nI l) (nI (k + 1))) l ?_ ?_ (l - (k + 1)) (k + 1) n s (by omega) (by omega) ⟨Nat.le_refl _, h1, by rw [Nat.sub_self]; exact h2, by rw [Nat.sub_self]; exact h3, by rw [Nat.sub_self]; exact h4⟩
    · intro m' j t hj ⟨k0, k1, k2, k3, k4⟩
      left
      have hrow : Row t 288 (lv N r) l := fun p hp => by rw [k1 288 (by omega)]; exact g1 p hp
      have e5 := x_sameFrom hn hO hrow ha l1 (at0 := k) (later := j) (by omega) (by omega)
      have sl := sf_le (lv N r) l k j
      rw [show j + 1 - (k + 1) = j - (k + 1) + 1 by omega, fo_s, show k + 1 + (j - (k + 1)) = j by omega]
      generalize fo (mtG (lv N r) l k) (j - (k + 1)) (k + 1) S0 = S1 at *
      by_cases z : S1.2 < sf (lv N r) l k j
      · have hz : mtG (lv N r) l k j S1 = (nI k, sf (lv N r) l k j) := by unfold mtG; rw [if_pos z]
        rw [hz]
        refine ⟨sI (sI t 287 9 (nI (sf (lv N r) l k j))) 287 8 (nI k), ⟨by omega, fun x hx => by rw [sI_o _ _ hx, sI_o _ _ hx]; exact k1 x hx, sI_s _ _ _ _, by rw [sI_k _ _ (by omega), sI_s], by show sf (lv N r) l k j ≤ l; omega⟩, ?_⟩
        simp (disch := omega) only [f2_findMotif_c35, e5, k3, qL, qb, qbl, qadd, qmul, qsubm, qdm, qsub, qdiv, qcl, qlt, qle, qeq, nltT, nltF, nleT, nleF, neqT, neqF, or_false, false_or, or_true, true_or, or_self, and_true, true_and, and_false, false_and, and_self, not_true_eq_false, not_false_eq_true, ↓reduceIte]
      · have hz : mtG (lv N r) l k j S1 = S1 := by unfold mtG; rw [if_neg z]
        rw [hz]
        refine ⟨t, ⟨by omega, k1, k2, k3, k4⟩, ?_⟩
        simp (disch := omega) only [f2_findMotif_c35, e5, k3, qL, qb, qbl, qadd, qmul, qsubm, qdm, qsub, qdiv, qcl, qlt, qle, qeq, nltT, nltF, nleT, nleF, neqT, neqF, or_false, false_or, or_true, true_or, or_self, and_true, true_and, and_false, false_and, and_self, not_true_eq_false, not_false_eq_true, ↓reduceIte]
    · intro m' t ⟨k0, k1, k2, k3, k4⟩
      refine ⟨t, ⟨k1, k2, k3, k4⟩, ?_⟩
      simp (disch := omega) only [f2_findMotif_c35, qL, qb, qbl, qadd, qmul, qsubm, qdm, qsub, qdiv, qcl, qlt, qle, qeq, nltT, nltF, nleT, nleF, neqT, neqF, or_false, false_or, or_true, true_or, or_self, and_true, true_and, and_false, false_and, and_self, not_true_eq_false, not_false_eq_true, ↓reduceIte]
  · intro m s ⟨h1, h2, h3, h4⟩
    refine ⟨s, ?_, fun x hx => by rw [h1 x (by omega), f1 x (by omega)], h2, h3⟩
    simp (disch := omega) only [f2_findMotif_c23, qL, qb, qbl, qadd, qmul, qsubm, qdm, qsub, qdiv, qcl, qlt, qle, qeq, nltT, nltF, nleT, nleF, neqT, neqF, or_false, false_or, or_true, true_or, or_self, and_true, true_and, and_false, false_and, and_self, not_true_eq_false, not_false_eq_true, ↓reduceIte]
  · rw [sI_k _ _ (by omega), sI_s]; rfl
  · rw [sI_s]; rfl
  · exact Nat.zero_le _
theorem m_motif (hn : 100000 ≤ n) {J : TI} (hM : MV J O N) (hB : WB N) {r : Nat} (hr : r < N 0) (b : Int32) : f12_motif n J O 331 (nI r) b = some (if b = 0 then nI (fo (mtGG (lv N r) (Ln N r)) (Ln N r) 0 (-1, 0)).2 else (fo (mtGG (lv N r) (Ln N r)) (Ln N r) 0 (-1, 0)).1) := by
  have b1 := hB.1
  have l1 := hB.2.2.1 r (by omega)
  have el := m_len hM (r := r) (by omega)
  have ea : ∀ p q, p ≤ q → q ≤ Ln N r → f12_againBy n J O 331 (nI r) (nI p) (nI q) = some (nI (sf (lv N r) (Ln N r) p q)) := fun p q h1 h2 => m_againBy hn hM hB hr h1 h2
  have e0 : f12_motif n J O 331 (nI r) b = f12_motif_c19 n J O n 331 (nI r) b (nI 0) (-1) (nI 0) := by
    simp (disch := omega) only [f12_motif, m_isRoll hM hB hr, qL, qb, qbl, qadd, qmul, qsubm, qdm, qsub, qdiv, qcl, qlt, qle, qeq, nltT, nltF, nleT, nleF, neqT, neqF, or_false, false_or, or_true, true_or, or_self, and_true, true_and, and_false, false_and, and_self, not_true_eq_false, not_false_eq_true, ↓reduceIte]
  rw [e0]
  generalize Ln N r = l at *
  refine lpF (L := fun m k (s : Int32 × Nat) => f12_motif_c19 n J O m 331 (nI r) b (nI s.2) s.1 (nI k)) (mtGG (lv N r) l) (fun k s => s.2 ≤ l) l (fun s => if b = 0 then nI s.2 else s.1) ?_ ?_ ?_ l 0 n (-1, 0) (by omega) (by omega) (Nat.zero_le _)
  · intro m k s hk hs
    have st : f12_motif_c19 n J O (m + 1) 331 (nI r) b (nI s.2) s.1 (nI k) = f12_motif_c39 n J O (f12_motif_c19 n J O m) n 331 (nI r) b (nI s.2) s.1 (nI k) (nI (k + 1)) := by
      simp (disch := omega) only [f12_motif_c19, hM.1, el, qL, qb, qbl, qadd, qmul, qsubm, qdm, qsub, qdiv, qcl, qlt, qle, qeq, nltT, nltF, nleT, nleF, neqT, neqF, or_false, false_or, or_true, true_or, or_self, and_true, true_and, and_false, false_and, and_self, not_true_eq_false, not_false_eq_true, ↓reduceIte]
    show f12_motif_c19 n J O (m + 1) 331 (nI r) b (nI s.2) s.1 (nI k) = _
    rw [st]
    refine lpR (L := fun m' j (t : Int32 × Nat) => f12_motif_c39 n J O (f12_motif_c19 n J O m) m' 331 (nI r) b (nI t.2) t.1 (nI k) (nI j)) (fun j t => k + 1 ≤ j ∧ t = fo (mtG (lv N r) l k) (j - (k + 1)) (k + 1) s ∧ t.2 ≤ l) (fun res => res = f12_motif_c19 n J O m 331 (nI r) b (nI (mtGG (lv N r) l k s).2) (mtGG (lv N r) l k s).1 (nI (k + 1))) l ?_ ?_ (l - (k + 1)) (k + 1) n s (by omega) (by omega) ⟨Nat.le_refl _, by rw [Nat.sub_self]; rfl, hs⟩
    · intro m' j t hj ⟨k0, k1, k2⟩
      left
      have e5 := ea k j (by omega) (by omega)
      have sl := sf_le (lv N r) l k j
      refine ⟨mtG (lv N r) l k j t, ⟨by omega, ?_, mtG_le k2⟩, ?_⟩
      · rw [show j + 1 - (k + 1) = j - (k + 1) + 1 by omega, fo_s, show k + 1 + (j - (k + 1)) = j by omega, ← k1]
      · unfold mtG
        by_cases z : t.2 < sf (lv N r) l k j
        · rw [if_pos z]
          simp (disch := omega) only [f12_motif_c39, hM.1, el, e5, qL, qb, qbl, qadd, qmul, qsubm, qdm, qsub, qdiv, qcl, qlt, qle, qeq, nltT, nltF, nleT, nleF, neqT, neqF, or_false, false_or, or_true, true_or, or_self, and_true, true_and, and_false, false_and, and_self, not_true_eq_false, not_false_eq_true, ↓reduceIte]
        · rw [if_neg z]
          simp (disch := omega) only [f12_motif_c39, hM.1, el, e5, qL, qb, qbl, qadd, qmul, qsubm, qdm, qsub, qdiv, qcl, qlt, qle, qeq, nltT, nltF, nleT, nleF, neqT, neqF, or_false, false_or, or_true, true_or, or_self, and_true, true_and, and_false, false_and, and_self, not_true_eq_false, not_false_eq_true, ↓reduceIte]
    · intro m' t ⟨k0, k1, k2⟩
      have : mtGG (lv N r) l k s = t := k1.symm
      rw [this]
      simp (disch := omega) only [f12_motif_c39, hM.1, el, qL, qb, qbl, qadd, qmul, qsubm, qdm, qsub, qdiv, qcl, qlt, qle, qeq, nltT, nltF, nleT, nleF, neqT, neqF, or_false, false_or, or_true, true_or, or_self, and_true, true_and, and_false, false_and, and_self, not_true_eq_false, not_false_eq_true, ↓reduceIte]
  · intro k s hk hs
    exact foI (mtG (lv N r) l k) (fun _ t => t.2 ≤ l) l (fun j t _ ht => mtG_le ht) (l - (k + 1)) (k + 1) s (by omega) hs
  · intro m s hs
    by_cases z : b = 0
    · have z' : b = nI 0 := z
      simp (disch := omega) only [f12_motif_c19, hM.1, el, z', qL, qb, qbl, qadd, qmul, qsubm, qdm, qsub, qdiv, qcl, qlt, qle, qeq, nltT, nltF, nleT, nleF, neqT, neqF, or_false, false_or, or_true, true_or, or_self, and_true, true_and, and_false, false_and, and_self, not_true_eq_false, not_false_eq_true, ↓reduceIte]
    · have z' : ¬ b = nI 0 := z
      simp (disch := omega) only [f12_motif_c19, hM.1, el, z', qL, qb, qbl, qadd, qmul, qsubm, qdm, qsub, qdiv, qcl, qlt, qle, qeq, nltT, nltF, nleT, nleF, neqT, neqF, or_false, false_or, or_true, true_or, or_self, and_true, true_and, and_false, false_and, and_self, not_true_eq_false, not_false_eq_true, ↓reduceIte]
end MO
