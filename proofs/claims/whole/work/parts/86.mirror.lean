/-! mirror -/
def mbB (a : Nat → Nat) (p q : Nat) : Bool := fnd (fun k => !mtB (a (p + k)) (a (q - k))) ((q - p + 1) / 2) 0 == (q - p + 1) / 2
section MI
variable {n : Nat} {s : TI} {O : TO} {a : Nat → Nat} {l : Nat}
theorem x_isMirrored (hn : 100000 ≤ n) (hO : OF O) (hr : Row s 288 a l) (ha : ∀ p, p < l → a p ≤ 6) (hl : l ≤ 16) {p q : Nat} (h1 : p ≤ q) (h2 : q < l) : f2_isMirrored n s O 287 (nI p) (nI q) = some (if mbB a p q then 1 else 0) := by
  have hh : f2_isMirrored n s O 287 (nI p) (nI q) = (fun k => some (if k = (q - p + 1) / 2 then nI 1 else nI 0)) (fnd (fun k => !mtB (a (p + k)) (a (q - k))) ((q - p + 1) / 2) 0) := by
    refine lpE (L := fun m k => f2_isMirrored_c2 n s O m 287 (nI p) (nI q) (nI k)) (fun k => !mtB (a (p + k)) (a (q - k))) ((q - p + 1) / 2) (fun k => some (if k = (q - p + 1) / 2 then nI 1 else nI 0)) ?_ ?_ ((q - p + 1) / 2) 0 n (by omega) (by omega)
    · intro m k hk
      have e1 := hr (p + k) (by omega)
      have e2 := hr (q - k) (by omega)
      have a1 := ha (p + k) (by omega)
      have a2 := ha (q - k) (by omega)
      have e3 := x_matches (a := a (p + k)) (b := a (q - k)) (by omega) (by omega)
      cases hs : mtB (a (p + k)) (a (q - k))
      · simp (disch := omega) only [f2_isMirrored_c2, o_287_0 hO, e1, e2, e3, hs, Bool.false_eq_true, Bool.not_false, qL, qb, qbl, qadd, qmul, qsubm, qdm, qsub, qdiv, qcl, qlt, qle, qeq, nltT, nltF, nleT, nleF, neqT, neqF, or_false, false_or, or_true, true_or, or_self, and_true, true_and, and_false, false_and, and_self, not_true_eq_false, not_false_eq_true, ↓reduceIte]
      · simp (disch := omega) only [f2_isMirrored_c2, o_287_0 hO, e1, e2, e3, hs, Bool.false_eq_true, Bool.not_true, qL, qb, qbl, qadd, qmul, qsubm, qdm, qsub, qdiv, qcl, qlt, qle, qeq, nltT, nltF, nleT, nleF, neqT, neqF, or_false, false_or, or_true, true_or, or_self, and_true, true_and, and_false, false_and, and_self, not_true_eq_false, not_false_eq_true, ↓reduceIte]
    · intro m
      simp (disch := omega) only [f2_isMirrored_c2, qL, qb, qbl, qadd, qmul, qsubm, qdm, qsub, qdiv, qcl, qlt, qle, qeq, nltT, nltF, nleT, nleF, neqT, neqF, or_false, false_or, or_true, true_or, or_self, and_true, true_and, and_false, false_and, and_self, not_true_eq_false, not_false_eq_true, ↓reduceIte]
  rw [hh]
  unfold mbB
  by_cases z : fnd (fun k => !mtB (a (p + k)) (a (q - k))) ((q - p + 1) / 2) 0 = (q - p + 1) / 2
  · simp only [z, beq_self_eq_true, if_true]; rfl
  · rw [beq_false_of_ne z]; simp only [z, if_false, Bool.false_eq_true]; rfl
end MI
section MJ
variable {n : Nat} {J : TI} {O : TO} {N : TN}
theorem m_isBack (hn : 100000 ≤ n) (hM : MV J O N) (hB : WB N) {r p q : Nat} (hr : r < N 0) (hp : p ≤ q) (hq : q < Ln N r) : f12_isBack n J O 331 (nI r) (nI p) (nI (q - p + 1)) = some (if mbB (lv N r) p q then 1 else 0) := by
  have b1 := hB.1
  have l1 := hB.2.2.1 r (by omega)
  have hh : f12_isBack n J O 331 (nI r) (nI p) (nI (q - p + 1)) = (fun k => some (if k = (q - p + 1) / 2 then nI 1 else nI 0)) (fnd (fun k => !mtB (lv N r (p + k)) (lv N r (q - k))) ((q - p + 1) / 2) 0) := by
    refine lpE (L := fun m k => f12_isBack_c3 n J O m 331 (nI r) (nI p) (nI (q - p + 1)) (nI k)) (fun k => !mtB (lv N r (p + k)) (lv N r (q - k))) ((q - p + 1) / 2) (fun k => some (if k = (q - p + 1) / 2 then nI 1 else nI 0)) ?_ ?_ ((q - p + 1) / 2) 0 n (by omega) (by omega)
    · intro m k hk
      have y : p + (q - p + 1) - 1 - k = q - k := by omega
      have q1 := m_isTorn hM hB (r := r) (p := p + k) (by omega) (by omega)
      have q2 := m_isTorn hM hB (r := r) (p := q - k) (by omega) (by omega)
      have q3 := m_keyOf hM (r := r) (p := p + k) (by omega) (by omega)
      have q4 := m_keyOf hM (r := r) (p := q - k) (by omega) (by omega)
      have q5 := hB.2.2.2.2.1 r (p + k) (by omega) (by omega)
      have q6 := hB.2.2.2.2.1 r (q - k) (by omega) (by omega)
      rw [mt_lv hB (r := r) (i := p + k) (q := r) (j := q - k) (by omega) (by omega) (by omega) (by omega)]
      cases x1 : tornB N r (p + k)
      · cases x2 : tornB N r (q - k)
        · by_cases x3 : K N r (p + k) = K N r (q - k)
          · have x3' : (K N r (p + k) == K N r (q - k)) = true := beq_iff_eq.mpr x3
            simp (disch := omega) only [f12_isBack_c3, y, q1, q2, q3, q4, x1, x2, x3', Bool.false_eq_true, Bool.not_true, Bool.false_or, qL, qb, qbl, qadd, qmul, qsubm, qdm, qsub, qdiv, qcl, qlt, qle, qeq, nltT, nltF, nleT, nleF, neqT, neqF, or_false, false_or, or_true, true_or, or_self, and_true, true_and, and_false, false_and, and_self, not_true_eq_false, not_false_eq_true, ↓reduceIte]
          · have x3' : (K N r (p + k) == K N r (q - k)) = false := beq_false_of_ne x3
            simp (disch := omega) only [f12_isBack_c3, y, q1, q2, q3, q4, x1, x2, x3', Bool.false_eq_true, Bool.not_false, Bool.false_or, qL, qb, qbl, qadd, qmul, qsubm, qdm, qsub, qdiv, qcl, qlt, qle, qeq, nltT, nltF, nleT, nleF, neqT, neqF, or_false, false_or, or_true, true_or, or_self, and_true, true_and, and_false, false_and, and_self, not_true_eq_false, not_false_eq_true, ↓reduceIte]
        · simp (disch := omega) only [f12_isBack_c3, y, q1, q2, x1, x2, Bool.false_eq_true, Bool.not_true, Bool.false_or, Bool.true_or, qL, qb, qbl, qadd, qmul, qsubm, qdm, qsub, qdiv, qcl, qlt, qle, qeq, nltT, nltF, nleT, nleF, neqT, neqF, or_false, false_or, or_true, true_or, or_self, and_true, true_and, and_false, false_and, and_self, not_true_eq_false, not_false_eq_true, ↓reduceIte]
      · simp (disch := omega) only [f12_isBack_c3, y, q1, x1, Bool.false_eq_true, Bool.not_true, Bool.true_or, qL, qb, qbl, qadd, qmul, qsubm, qdm, qsub, qdiv, qcl, qlt, qle, qeq, nltT, nltF, nleT, nleF, neqT, neqF, or_false, false_or, or_true, true_or, or_self, and_true, true_and, and_false, false_and, and_self, not_true_eq_false, not_false_eq_true, ↓reduceIte]
    · intro m
      simp (disch := omega) only [f12_isBack_c3, qL, qb, qbl, qadd, qmul, qsubm, qdm, qsub, qdiv, qcl, qlt, qle, qeq, nltT, nltF, nleT, nleF, neqT, neqF, or_false, false_or, or_true, true_or, or_self, and_true, true_and, and_false, false_and, and_self, not_true_eq_false, not_false_eq_true, ↓reduceIte]
  rw [hh]
  unfold mbB
  by_cases z : fnd (fun k => !mtB (lv N r (p + k)) (lv N r (q - k))) ((q - p + 1) / 2) 0 = (q - p + 1) / 2
  · simp only [z, beq_self_eq_true, if_true]; rfl
  · rw [beq_false_of_ne z]; simp only [z, if_false, Bool.false_eq_true]; rfl
end MJ
def mrG (a : Nat → Nat) (p q : Nat) (s : Int32 × Nat) : Int32 × Nat := if s.2 < q - p + 1 ∧ mbB a p q = true then (nI p, q - p + 1) else s
def mrGG (a : Nat → Nat) (l p : Nat) (s : Int32 × Nat) : Int32 × Nat := fo (mrG a p) (l - p) p s
theorem mrG_le {a : Nat → Nat} {l p q : Nat} {s : Int32 × Nat} (hq : q < l) (h : s.2 ≤ l) : (mrG a p q s).2 ≤ l := by
  unfold mrG
  split
  · show q - p + 1 ≤ l; omega
  · exact h
theorem mr_skip (a : Nat → Nat) (p : Nat) (s : Int32 × Nat) : ∀ d, d ≤ s.2 → fo (mrG a p) d p s = s := by
  intro d
  induction d with
  | zero => intro _; rfl
  | succ d ih =>
    intro h
    rw [fo_s, ih (by omega)]
    unfold mrG
    rw [if_neg (by omega)]
section MR
variable {n : Nat} {I : TI} {O : TO} {N : TN}
theorem x_mirror (hn : 100000 ≤ n) (hO : OF O) (hV : WV I O 3 4 5 6 7 8 N) (hB : WB N) {r : Nat} (hr : r < N 0) : ∃ I', f2_findMirror n I O 287 3 (nI r) = some I' ∧ XF I I' ∧ I' 287 8 = (fo (mrGG (lv N r) (Ln N r)) (Ln N r) 0 (-1, 0)).1 ∧ I' 287 9 = nI (fo (mrGG (lv N r) (Ln N r)) (Ln N r) 0 (-1, 0)).2 := by
  have b1 := hB.1
  have l1 := hB.2.2.1 r (by omega)
  obtain ⟨I1, e1, f1, g1⟩ := lay_ok hn hV hB hr (b := 288) (by omega)
  have e0 : f2_findMirror n I O 287 3 (nI r) = f2_findMirror_c23 n O n (sI (sI I1 287 8 (-1)) 287 9 (nI 0)) 287 (nI (Ln N r)) (nI 0) := by
    simp (disch := omega) only [f2_findMirror, o_287_0 hO, e1, qL, qb, qbl, qadd, qmul, qsubm, qdm, qsub, qdiv, qcl, qlt, qle, qeq, nltT, nltF, nleT, nleF, neqT, neqF, or_false, false_or, or_true, true_or, or_self, and_true, true_and, and_false, false_and, and_self, not_true_eq_false, not_false_eq_true, ↓reduceIte]
  rw [e0]
  generalize hl : Ln N r = l at *
  have ha : ∀ p, p < l → lv N r p ≤ 6 := fun p hp => lv_le hB (by omega) (by omega)
  refine lpR (L := fun m k s => f2_findMirror_c23 n O m s 287 (nI l) (nI k)) (fun k s => (∀ x, x ≠ 287 → s x = I1 x) ∧ s 287 8 = (fo (mrGG (lv N r) l) k 0 (-1, 0)).1 ∧ s 287 9 = nI (fo (mrGG (lv N r) l) k 0 (-1, 0)).2 ∧ (fo (mrGG (lv N r) l) k 0 (-1, 0)).2 ≤ l) (fun res => ∃ I', res = some I' ∧ XF I I' ∧ I' 287 8 = (fo (mrGG (lv N r) l) l 0 (-1, 0)).1 ∧ I' 287 9 = nI (fo (mrGG (lv N r) l) l 0 (-1, 0)).2) l ?_ ?_ l 0 n _ (by omega) (by omega) ⟨fun x hx => by rw [sI_o _ _ hx, sI_o _ _ hx], ?_, ?_, ?_⟩
  · intro m k s hk ⟨h1, h2, h3, h4⟩
    left
    have st : f2_findMirror_c23 n O (m + 1) s 287 (nI l) (nI k) = f2_findMirror_c33 n O (f2_findMirror_c23 n O m) n s 287 (nI l) (nI k) (nI k) := by
      simp (disch := omega) only [f2_findMirror_c23, qL, qb, qbl, qadd, qmul, qsubm, qdm, qsub, qdiv, qcl, qlt, qle, qeq, nltT, nltF, nleT, nleF, neqT, neqF, or_false, false_or, or_true, true_or, or_self, and_true, true_and, and_false, false_and, and_self, not_true_eq_false, not_false_eq_true, ↓reduceIte]
    show ∃ s', _ ∧ f2_findMirror_c23 n O (m + 1) s 287 (nI l) (nI k) = _
    rw [st, fo_s, Nat.zero_add]
    generalize fo (mrGG (lv N r) l) k 0 (-1, 0) = S0 at *
    refine lpR (L := fun m' j t => f2_findMirror_c33 n O (f2_findMirror_c23 n O m) m' t 287 (nI l) (nI k) (nI j)) (fun j t => k ≤ j ∧ (∀ x, x ≠ 287 → t x = I1 x) ∧ t 287 8 = (fo (mrG (lv N r) k) (j - k) k S0).1 ∧ t 287 9 = nI (fo (mrG (lv N r) k) (j - k) k S0).2 ∧ (fo (mrG (lv N r) k) (j - k) k S0).2 ≤ l) (fun res => ∃ s', ((∀ x, x ≠ 287 → s' x = I1 x) ∧ s' 287 8 = (mrGG (lv N r) l k S0).1 ∧ s' 287 9 = nI (mrGG (lv N r) l k S0).2 ∧ (mrGG (lv N r) l k S0).2 ≤ l) ∧ res = f2_findMirror_c23 n O m s' 287 (nI l) (nI (k + 1))) l ?_ ?_ (l - k) k n s (by omega) (by omega) ⟨Nat.le_refl _, h1, by rw [Nat.sub_self]; exact h2, by rw [Nat.sub_self]; exact h3, by rw [Nat.sub_self]; exact h4⟩
    · intro m' j t hj ⟨k0, k1, k2, k3, k4⟩
      left
      have hrow : Row t 288 (lv N r) l := fun p hp => by rw [k1 288 (by omega)]; exact g1 p hp
      have e5 := x_isMirrored hn hO hrow ha l1 (p := k) (q := j) (by omega) (by omega)
      rw [show j + 1 - k = j - k + 1 by omega, fo_s, show k + (j - k) = j by omega]
      generalize fo (mrG (lv N r) k) (j - k) k S0 = S1 at *
      by_cases z1 : S1.2 < j - k + 1
      · cases z2 : mbB (lv N r) k j
        · have hz : mrG (lv N r) k j S1 = S1 := by unfold mrG; rw [if_neg (by rw [z2]; simp)]
          rw [hz]
          refine ⟨t, ⟨by omega, k1, k2, k3, k4⟩, ?_⟩
          simp (disch := omega) only [f2_findMirror_c33, e5, k3, z2, Bool.false_eq_true, qL, qb, qbl, qadd, qmul, qsubm, qdm, qsub, qdiv, qcl, qlt, qle, qeq, nltT, nltF, nleT, nleF, neqT, neqF, or_false, false_or, or_true, true_or, or_self, and_true, true_and, and_false, false_and, and_self, not_true_eq_false, not_false_eq_true, ↓reduceIte]
        · have hz : mrG (lv N r) k j S1 = (nI k, j - k + 1) := by unfold mrG; rw [if_pos ⟨z1, z2⟩]
          rw [hz]
          refine ⟨sI (sI t 287 9 (nI (j - k + 1))) 287 8 (nI k), ⟨by omega, fun x hx => by rw [sI_o _ _ hx, sI_o _ _ hx]; exact k1 x hx, sI_s _ _ _ _, by rw [sI_k _ _ (by omega), sI_s], by show j - k + 1 ≤ l; omega⟩, ?_⟩
          simp (disch := omega) only [f2_findMirror_c33, e5, k3, z2, qL, qb, qbl, qadd, qmul, qsubm, qdm, qsub, qdiv, qcl, qlt, qle, qeq, nltT, nltF, nleT, nleF, neqT, neqF, or_false, false_or, or_true, true_or, or_self, and_true, true_and, and_false, false_and, and_self, not_true_eq_false, not_false_eq_true, ↓reduceIte]
      · have hz : mrG (lv N r) k j S1 = S1 := by unfold mrG; rw [if_neg (fun q => z1 q.1)]
        rw [hz]
        refine ⟨t, ⟨by omega, k1, k2, k3, k4⟩, ?_⟩
        simp (disch := omega) only [f2_findMirror_c33, k3, qL, qb, qbl, qadd, qmul, qsubm, qdm, qsub, qdiv, qcl, qlt, qle, qeq, nltT, nltF, nleT, nleF, neqT, neqF, or_false, false_or, or_true, true_or, or_self, and_true, true_and, and_false, false_and, and_self, not_true_eq_false, not_false_eq_true, ↓reduceIte]
    · intro m' t ⟨k0, k1, k2, k3, k4⟩
      refine ⟨t, ⟨k1, k2, k3, k4⟩, ?_⟩
      simp (disch := omega) only [f2_findMirror_c33, qL, qb, qbl, qadd, qmul, qsubm, qdm, qsub, qdiv, qcl, qlt, qle, qeq, nltT, nltF, nleT, nleF, neqT, neqF, or_false, false_or, or_true, true_or, or_self, and_true, true_and, and_false, false_and, and_self, not_true_eq_false, not_false_eq_true, ↓reduceIte]
  · intro m s ⟨h1, h2, h3, h4⟩
    refine ⟨s, ?_, fun x hx => by rw [h1 x (by omega), f1 x (by omega)], h2, h3⟩
    simp (disch := omega) only [f2_findMirror_c23, qL, qb, qbl, qadd, qmul, qsubm, qdm, qsub, qdiv, qcl, qlt, qle, qeq, nltT, nltF, nleT, nleF, neqT, neqF, or_false, false_or, or_true, true_or, or_self, and_true, true_and, and_false, false_and, and_self, not_true_eq_false, not_false_eq_true, ↓reduceIte]
  · rw [sI_k _ _ (by omega), sI_s]; rfl
  · rw [sI_s]; rfl
  · exact Nat.zero_le _
theorem m_mirror (hn : 100000 ≤ n) {J : TI} (hM : MV J O N) (hB : WB N) {r : Nat} (hr : r < N 0) (b : Int32) : f12_mirror n J O 331 (nI r) b = some (if b = 0 then nI (fo (mrGG (lv N r) (Ln N r)) (Ln N r) 0 (-1, 0)).2 else (fo (mrGG (lv N r) (Ln N r)) (Ln N r) 0 (-1, 0)).1) := by
  have b1 := hB.1
  have l1 := hB.2.2.1 r (by omega)
  have el := m_len hM (r := r) (by omega)
  have ea : ∀ p q, p ≤ q → q < Ln N r → f12_isBack n J O 331 (nI r) (nI p) (nI (q - p + 1)) = some (if mbB (lv N r) p q then 1 else 0) := fun p q h1 h2 => m_isBack hn hM hB hr h1 h2
  have e0 : f12_mirror n J O 331 (nI r) b = f12_mirror_c19 n J O n 331 (nI r) b (nI 0) (-1) (nI 0) := by
    simp (disch := omega) only [f12_mirror, m_isRoll hM hB hr, qL, qb, qbl, qadd, qmul, qsubm, qdm, qsub, qdiv, qcl, qlt, qle, qeq, nltT, nltF, nleT, nleF, neqT, neqF, or_false, false_or, or_true, true_or, or_self, and_true, true_and, and_false, false_and, and_self, not_true_eq_false, not_false_eq_true, ↓reduceIte]
  rw [e0]
  generalize Ln N r = l at *
  refine lpF (L := fun m k (s : Int32 × Nat) => f12_mirror_c19 n J O m 331 (nI r) b (nI s.2) s.1 (nI k)) (mrGG (lv N r) l) (fun k s => s.2 ≤ l) l (fun s => if b = 0 then nI s.2 else s.1) ?_ ?_ ?_ l 0 n (-1, 0) (by omega) (by omega) (Nat.zero_le _)
  · intro m k s hk hs
    have st : f12_mirror_c19 n J O (m + 1) 331 (nI r) b (nI s.2) s.1 (nI k) = f12_mirror_c38 n J O (f12_mirror_c19 n J O m) n 331 (nI r) b (nI s.2) s.1 (nI k) (nI (s.2 + 1)) := by
      simp (disch := omega) only [f12_mirror_c19, hM.1, el, qL, qb, qbl, qadd, qmul, qsubm, qdm, qsub, qdiv, qcl, qlt, qle, qeq, nltT, nltF, nleT, nleF, neqT, neqF, or_false, false_or, or_true, true_or, or_self, and_true, true_and, and_false, false_and, and_self, not_true_eq_false, not_false_eq_true, ↓reduceIte]
    show f12_mirror_c19 n J O (m + 1) 331 (nI r) b (nI s.2) s.1 (nI k) = _
    rw [st]
    by_cases hbig : l < k + (s.2 + 1)
    · have hz : mrGG (lv N r) l k s = s := mr_skip (lv N r) k s (l - k) (by omega)
      obtain ⟨n', hn'⟩ : ∃ n', n = n' + 1 := ⟨n - 1, by omega⟩
      have : ∀ n', f12_mirror_c38 n J O (f12_mirror_c19 n J O m) (n' + 1) 331 (nI r) b (nI s.2) s.1 (nI k) (nI (s.2 + 1)) = f12_mirror_c19 n J O m 331 (nI r) b (nI s.2) s.1 (nI (k + 1)) := by
        intro n'
        simp (disch := omega) only [f12_mirror_c38, hM.1, el, qL, qb, qbl, qadd, qmul, qsubm, qdm, qsub, qdiv, qcl, qlt, qle, qeq, nltT, nltF, nleT, nleF, neqT, neqF, or_false, false_or, or_true, true_or, or_self, and_true, true_and, and_false, false_and, and_self, not_true_eq_false, not_false_eq_true, ↓reduceIte]
      rw [hz]
      have t := this n'
      rw [← hn'] at t
      exact t
    refine lpR (L := fun m' j (t : Int32 × Nat) => f12_mirror_c38 n J O (f12_mirror_c19 n J O m) m' 331 (nI r) b (nI t.2) t.1 (nI k) (nI (j - k + 1))) (fun j t => k + s.2 ≤ j ∧ t = fo (mrG (lv N r) k) (j - k) k s ∧ t.2 ≤ j - k) (fun res => res = f12_mirror_c19 n J O m 331 (nI r) b (nI (mrGG (lv N r) l k s).2) (mrGG (lv N r) l k s).1 (nI (k + 1))) l ?_ ?_ (l - (k + s.2)) (k + s.2) n s (by omega) (by omega) ⟨Nat.le_refl _, by rw [Nat.add_sub_cancel_left, mr_skip _ _ _ _ (Nat.le_refl _)], by omega⟩ |> fun h => by
      rw [show k + s.2 - k + 1 = s.2 + 1 by omega] at h; exact h
    · intro m' j t hj ⟨k0, k1, k2⟩
      left
      have e5 := ea k j (by omega) (by omega)
      have y : j + 1 - k + 1 = j - k + 1 + 1 := by omega
      refine ⟨mrG (lv N r) k j t, ⟨by omega, ?_, ?_⟩, ?_⟩
      · rw [show j + 1 - k = j - k + 1 by omega, fo_s, show k + (j - k) = j by omega, ← k1]
      · unfold mrG; split
        · show j - k + 1 ≤ j + 1 - k; omega
        · omega
      · unfold mrG
        rw [y]
        cases z : mbB (lv N r) k j
        · rw [if_neg (fun q => Bool.noConfusion q.2)]
          simp (disch := omega) only [f12_mirror_c38, hM.1, el, e5, z, Bool.false_eq_true, qL, qb, qbl, qadd, qmul, qsubm, qdm, qsub, qdiv, qcl, qlt, qle, qeq, nltT, nltF, nleT, nleF, neqT, neqF, or_false, false_or, or_true, true_or, or_self, and_true, true_and, and_false, false_and, and_self, not_true_eq_false, not_false_eq_true, ↓reduceIte]
        · rw [if_pos ⟨by omega, rfl⟩]
          simp (disch := omega) only [f12_mirror_c38, hM.1, el, e5, z, qL, qb, qbl, qadd, qmul, qsubm, qdm, qsub, qdiv, qcl, qlt, qle, qeq, nltT, nltF, nleT, nleF, neqT, neqF, or_false, false_or, or_true, true_or, or_self, and_true, true_and, and_false, false_and, and_self, not_true_eq_false, not_false_eq_true, ↓reduceIte]
    · intro m' t ⟨k0, k1, k2⟩
      have : mrGG (lv N r) l k s = t := k1.symm
      rw [this]
      simp (disch := omega) only [f12_mirror_c38, hM.1, el, qL, qb, qbl, qadd, qmul, qsubm, qdm, qsub, qdiv, qcl, qlt, qle, qeq, nltT, nltF, nleT, nleF, neqT, neqF, or_false, false_or, or_true, true_or, or_self, and_true, true_and, and_false, false_and, and_self, not_true_eq_false, not_false_eq_true, ↓reduceIte]
  · intro k s hk hs
    exact foI (mrG (lv N r) k) (fun _ t => t.2 ≤ l) l (fun j t hj ht => mrG_le hj ht) (l - k) k s (by omega) hs
  · intro m s hs
    by_cases z : b = 0
    · have z' : b = nI 0 := z
      simp (disch := omega) only [f12_mirror_c19, hM.1, el, z', qL, qb, qbl, qadd, qmul, qsubm, qdm, qsub, qdiv, qcl, qlt, qle, qeq, nltT, nltF, nleT, nleF, neqT, neqF, or_false, false_or, or_true, true_or, or_self, and_true, true_and, and_false, false_and, and_self, not_true_eq_false, not_false_eq_true, ↓reduceIte]
    · have z' : ¬ b = nI 0 := z
      simp (disch := omega) only [f12_mirror_c19, hM.1, el, z', qL, qb, qbl, qadd, qmul, qsubm, qdm, qsub, qdiv, qcl, qlt, qle, qeq, nltT, nltF, nleT, nleF, neqT, neqF, or_false, false_or, or_true, true_or, or_self, and_true, true_and, and_false, false_and, and_self, not_true_eq_false, not_false_eq_true, ↓reduceIte]
end MR
section SM
variable {TX : TI → Nat → Prop} {n : Nat} {I : TI} {O : TO}
theorem s_motif (hn : 100000 ≤ n) (hT : TXst TX) (h : RE TX I O) (p1 p2 : Int32) : ∃ (v : Int32) (I1 : TI), f11_motif n I O 1 p1 p2 = some (v, I1) ∧ f12_motif n I1 O 331 p1 p2 = some v ∧ RE TX I1 O := by
  obtain ⟨N, G, e, f, tp, h⟩ := h
  have hO := h.1
  have hV := RW_WV hO h.2.2.2.2.2.2.1
  have hN := h.2.2.2.1
  have hB := NB_WB hN
  have hM := h.2.1
  have hF := RW_fd h.2.2.2.2.2.2.1
  have b0 : N 0 ≤ 5 := hB.1
  have b1 : N 1 ≤ 4 := hB.2.1
  by_cases h1 : inR p1 (N 0)
  · obtain ⟨r, hr, rfl⟩ := inR_of h1
    obtain ⟨I1, e1, x1, y1, y2⟩ := x_motif hn hO hV hB hr
    have r1 := R0_x hT h x1
    refine ⟨_, I1, ?_, m_motif hn (r1.2.1 : MV I1 O N) hB hr p2, N, G, e, f, tp, r1⟩
    by_cases z : p2 = 0
    · have z' : p2 = nI 0 := z
      simp (disch := omega) only [f11_motif, o_1_0 hO, o_1_1 hO, o_1_2 hO, o_1_3 hO, o_1_4 hO, o_1_5 hO, o_1_6 hO, o_1_7 hO, o_1_8 hO, o_1_9 hO, o_2_0 hO, o_2_1 hO, o_2_2 hO, o_2_3 hO, o_2_4 hO, o_2_5 hO, o_3_0 hO, o_3_1 hO, o_3_2 hO, o_6_0 hO, o_6_1 hO, o_6_2 hO, o_10_0 hO, o_331_0 hO, x_hasRoll hV hB hr, e1, z', y2, qL, qb, qbl, qadd, qmul, qsubm, qdm, qsub, qdiv, qcl, qlt, qle, qeq, nltT, nltF, nleT, nleF, neqT, neqF, or_false, false_or, or_true, true_or, or_self, and_true, true_and, and_false, false_and, and_self, not_true_eq_false, not_false_eq_true, ↓reduceIte]
    · have z' : ¬ p2 = nI 0 := z
      simp (disch := omega) only [f11_motif, o_1_0 hO, o_1_1 hO, o_1_2 hO, o_1_3 hO, o_1_4 hO, o_1_5 hO, o_1_6 hO, o_1_7 hO, o_1_8 hO, o_1_9 hO, o_2_0 hO, o_2_1 hO, o_2_2 hO, o_2_3 hO, o_2_4 hO, o_2_5 hO, o_3_0 hO, o_3_1 hO, o_3_2 hO, o_6_0 hO, o_6_1 hO, o_6_2 hO, o_10_0 hO, o_331_0 hO, x_hasRoll hV hB hr, e1, z', y1, qL, qb, qbl, qadd, qmul, qsubm, qdm, qsub, qdiv, qcl, qlt, qle, qeq, nltT, nltF, nleT, nleF, neqT, neqF, or_false, false_or, or_true, true_or, or_self, and_true, true_and, and_false, false_and, and_self, not_true_eq_false, not_false_eq_true, ↓reduceIte]
  · refine ⟨-2, I, ?_, ?_, N, G, e, f, tp, h⟩
    · simp (disch := omega) only [f11_motif, o_1_0 hO, o_1_1 hO, o_1_2 hO, o_1_3 hO, o_1_4 hO, o_1_5 hO, o_1_6 hO, o_1_7 hO, o_1_8 hO, o_1_9 hO, o_2_0 hO, o_2_1 hO, o_2_2 hO, o_2_3 hO, o_2_4 hO, o_2_5 hO, o_3_0 hO, o_3_1 hO, o_3_2 hO, o_6_0 hO, o_6_1 hO, o_6_2 hO, o_10_0 hO, o_331_0 hO, x_noRoll hV hB h1, qL, qb, qbl, qadd, qmul, qsubm, qdm, qsub, qdiv, qcl, qlt, qle, qeq, nltT, nltF, nleT, nleF, neqT, neqF, or_false, false_or, or_true, true_or, or_self, and_true, true_and, and_false, false_and, and_self, not_true_eq_false, not_false_eq_true, ↓reduceIte]
    · simp (disch := omega) only [f12_motif, m_noRoll hM hB h1, qL, qb, qbl, qadd, qmul, qsubm, qdm, qsub, qdiv, qcl, qlt, qle, qeq, nltT, nltF, nleT, nleF, neqT, neqF, or_false, false_or, or_true, true_or, or_self, and_true, true_and, and_false, false_and, and_self, not_true_eq_false, not_false_eq_true, ↓reduceIte]
theorem s_mirror (hn : 100000 ≤ n) (hT : TXst TX) (h : RE TX I O) (p1 p2 : Int32) : ∃ (v : Int32) (I1 : TI), f11_mirror n I O 1 p1 p2 = some (v, I1) ∧ f12_mirror n I1 O 331 p1 p2 = some v ∧ RE TX I1 O := by
  obtain ⟨N, G, e, f, tp, h⟩ := h
  have hO := h.1
  have hV := RW_WV hO h.2.2.2.2.2.2.1
  have hN := h.2.2.2.1
  have hB := NB_WB hN
  have hM := h.2.1
  have hF := RW_fd h.2.2.2.2.2.2.1
  have b0 : N 0 ≤ 5 := hB.1
  have b1 : N 1 ≤ 4 := hB.2.1
  by_cases h1 : inR p1 (N 0)
  · obtain ⟨r, hr, rfl⟩ := inR_of h1
    obtain ⟨I1, e1, x1, y1, y2⟩ := x_mirror hn hO hV hB hr
    have r1 := R0_x hT h x1
    refine ⟨_, I1, ?_, m_mirror hn (r1.2.1 : MV I1 O N) hB hr p2, N, G, e, f, tp, r1⟩
    by_cases z : p2 = 0
    · have z' : p2 = nI 0 := z
      simp (disch := omega) only [f11_mirror, o_1_0 hO, o_1_1 hO, o_1_2 hO, o_1_3 hO, o_1_4 hO, o_1_5 hO, o_1_6 hO, o_1_7 hO, o_1_8 hO, o_1_9 hO, o_2_0 hO, o_2_1 hO, o_2_2 hO, o_2_3 hO, o_2_4 hO, o_2_5 hO, o_3_0 hO, o_3_1 hO, o_3_2 hO, o_6_0 hO, o_6_1 hO, o_6_2 hO, o_10_0 hO, o_331_0 hO, x_hasRoll hV hB hr, e1, z', y2, qL, qb, qbl, qadd, qmul, qsubm, qdm, qsub, qdiv, qcl, qlt, qle, qeq, nltT, nltF, nleT, nleF, neqT, neqF, or_false, false_or, or_true, true_or, or_self, and_true, true_and, and_false, false_and, and_self, not_true_eq_false, not_false_eq_true, ↓reduceIte]
    · have z' : ¬ p2 = nI 0 := z
      simp (disch := omega) only [f11_mirror, o_1_0 hO, o_1_1 hO, o_1_2 hO, o_1_3 hO, o_1_4 hO, o_1_5 hO, o_1_6 hO, o_1_7 hO, o_1_8 hO, o_1_9 hO, o_2_0 hO, o_2_1 hO, o_2_2 hO, o_2_3 hO, o_2_4 hO, o_2_5 hO, o_3_0 hO, o_3_1 hO, o_3_2 hO, o_6_0 hO, o_6_1 hO, o_6_2 hO, o_10_0 hO, o_331_0 hO, x_hasRoll hV hB hr, e1, z', y1, qL, qb, qbl, qadd, qmul, qsubm, qdm, qsub, qdiv, qcl, qlt, qle, qeq, nltT, nltF, nleT, nleF, neqT, neqF, or_false, false_or, or_true, true_or, or_self, and_true, true_and, and_false, false_and, and_self, not_true_eq_false, not_false_eq_true, ↓reduceIte]
  · refine ⟨-2, I, ?_, ?_, N, G, e, f, tp, h⟩
    · simp (disch := omega) only [f11_mirror, o_1_0 hO, o_1_1 hO, o_1_2 hO, o_1_3 hO, o_1_4 hO, o_1_5 hO, o_1_6 hO, o_1_7 hO, o_1_8 hO, o_1_9 hO, o_2_0 hO, o_2_1 hO, o_2_2 hO, o_2_3 hO, o_2_4 hO, o_2_5 hO, o_3_0 hO, o_3_1 hO, o_3_2 hO, o_6_0 hO, o_6_1 hO, o_6_2 hO, o_10_0 hO, o_331_0 hO, x_noRoll hV hB h1, qL, qb, qbl, qadd, qmul, qsubm, qdm, qsub, qdiv, qcl, qlt, qle, qeq, nltT, nltF, nleT, nleF, neqT, neqF, or_false, false_or, or_true, true_or, or_self, and_true, true_and, and_false, false_and, and_self, not_true_eq_false, not_false_eq_true, ↓reduceIte]
    · simp (disch := omega) only [f12_mirror, m_noRoll hM hB h1, qL, qb, qbl, qadd, qmul, qsubm, qdm, qsub, qdiv, qcl, qlt, qle, qeq, nltT, nltF, nleT, nleF, neqT, neqF, or_false, false_or, or_true, true_or, or_self, and_true, true_and, and_false, false_and, and_self, not_true_eq_false, not_false_eq_true, ↓reduceIte]
end SM
