/-! parts -/
def laG (a : Nat → Nat) (l at0 : Nat) : Nat := fo (fun p c => max c (sf a l p at0)) at0 0 0
theorem laG_le (a : Nat → Nat) (l at0 : Nat) : laG a l at0 ≤ l - at0 :=
  foI (fun p c => max c (sf a l p at0)) (fun _ c => c ≤ l - at0) at0 (fun k c _ hc => by
    have := sf_le a l k at0
    show max c (sf a l k at0) ≤ l - at0
    omega) at0 0 0 (by omega) (Nat.zero_le _)
def pcs (a : Nat → Nat) (l : Nat) : Nat → Nat → Nat → Nat
  | 0, _, c => c
  | d + 1, at0, c => if l ≤ at0 then c else pcs a l d (at0 + laG a l at0 + 1) (c + 1)
section PX
variable {n : Nat} {s : TI} {O : TO} {a : Nat → Nat} {l : Nat}
theorem x_longest (hn : 100000 ≤ n) (hO : OF O) (hr : Row s 288 a l) (ha : ∀ p, p < l → a p ≤ 6) (hl : l ≤ 16) {at0 : Nat} (h1 : at0 ≤ l) : f2_longestAhead n s O 287 (nI at0) (nI l) = some (nI (laG a l at0)) := by
  refine lpF (L := fun m k c => f2_longestAhead_c5 n s O m 287 (nI at0) (nI l) (nI c) (nI k)) (fun p c => max c (sf a l p at0)) (fun _ c => c ≤ 16) at0 nI ?_ ?_ ?_ at0 0 n 0 (by omega) (by omega) (Nat.zero_le _)
  · intro m k c hk hc
    have e := x_sameFrom hn hO hr ha hl (at0 := k) (later := at0) (by omega) h1
    have := sf_le a l k at0
    by_cases z : c < sf a l k at0
    · have u : max c (sf a l k at0) = sf a l k at0 := by omega
      rw [u]
      simp (disch := omega) only [f2_longestAhead_c5, e, fJ9_max_7cf53, qL, qb, qbl, qadd, qmul, qsubm, qdm, qsub, qdiv, qcl, qlt, qle, qeq, nltT, nltF, nleT, nleF, neqT, neqF, or_false, false_or, or_true, true_or, or_self, and_true, true_and, and_false, false_and, and_self, not_true_eq_false, not_false_eq_true, ↓reduceIte]
    · have u : max c (sf a l k at0) = c := by omega
      rw [u]
      simp (disch := omega) only [f2_longestAhead_c5, e, fJ9_max_7cf53, qL, qb, qbl, qadd, qmul, qsubm, qdm, qsub, qdiv, qcl, qlt, qle, qeq, nltT, nltF, nleT, nleF, neqT, neqF, or_false, false_or, or_true, true_or, or_self, and_true, true_and, and_false, false_and, and_self, not_true_eq_false, not_false_eq_true, ↓reduceIte]
  · intro k c hk hc
    have := sf_le a l k at0
    show max c (sf a l k at0) ≤ 16
    omega
  · intro m c hc
    simp (disch := omega) only [f2_longestAhead_c5, qL, qb, qbl, qadd, qmul, qsubm, qdm, qsub, qdiv, qcl, qlt, qle, qeq, nltT, nltF, nleT, nleF, neqT, neqF, or_false, false_or, or_true, true_or, or_self, and_true, true_and, and_false, false_and, and_self, not_true_eq_false, not_false_eq_true, ↓reduceIte]
theorem x_pcs (hn : 100000 ≤ n) (hO : OF O) (hr : Row s 288 a l) (ha : ∀ p, p < l → a p ≤ 6) (hl : l ≤ 16) : ∀ d at0 c m, l ≤ at0 + d → d < m → c ≤ at0 → at0 ≤ 20 → f2_pieces_c46 n O m s 287 (nI l) (nI c) (nI at0) = some (nI (pcs a l d at0 c), s) := by
  intro d
  induction d with
  | zero =>
    intro at0 c m h1 h2 h3 h4
    obtain ⟨m', rfl⟩ : ∃ m', m = m' + 1 := ⟨m - 1, by omega⟩
    simp (disch := omega) only [f2_pieces_c46, pcs, qL, qb, qbl, qadd, qmul, qsubm, qdm, qsub, qdiv, qcl, qlt, qle, qeq, nltT, nltF, nleT, nleF, neqT, neqF, or_false, false_or, or_true, true_or, or_self, and_true, true_and, and_false, false_and, and_self, not_true_eq_false, not_false_eq_true, ↓reduceIte]
  | succ d ih =>
    intro at0 c m h1 h2 h3 h4
    obtain ⟨m', rfl⟩ : ∃ m', m = m' + 1 := ⟨m - 1, by omega⟩
    by_cases z : l ≤ at0
    · simp (disch := omega) only [f2_pieces_c46, pcs, qL, qb, qbl, qadd, qmul, qsubm, qdm, qsub, qdiv, qcl, qlt, qle, qeq, nltT, nltF, nleT, nleF, neqT, neqF, or_false, false_or, or_true, true_or, or_self, and_true, true_and, and_false, false_and, and_self, not_true_eq_false, not_false_eq_true, ↓reduceIte]
    · have e := x_longest hn hO hr ha hl (at0 := at0) (by omega)
      have := laG_le a l at0
      have st : f2_pieces_c46 n O (m' + 1) s 287 (nI l) (nI c) (nI at0) = f2_pieces_c46 n O m' s 287 (nI l) (nI (c + 1)) (nI (at0 + laG a l at0 + 1)) := by
        simp (disch := omega) only [f2_pieces_c46, e, qL, qb, qbl, qadd, qmul, qsubm, qdm, qsub, qdiv, qcl, qlt, qle, qeq, nltT, nltF, nleT, nleF, neqT, neqF, or_false, false_or, or_true, true_or, or_self, and_true, true_and, and_false, false_and, and_self, not_true_eq_false, not_false_eq_true, ↓reduceIte]
      rw [st, ih _ _ m' (by omega) (by omega) (by omega) (by omega)]
      simp (disch := omega) only [pcs, qL, qb, qbl, qadd, qmul, qsubm, qdm, qsub, qdiv, qcl, qlt, qle, qeq, nltT, nltF, nleT, nleF, neqT, neqF, or_false, false_or, or_true, true_or, or_self, and_true, true_and, and_false, false_and, and_self, not_true_eq_false, not_false_eq_true, ↓reduceIte]
end PX
section PY
variable {TX : TI → Nat → Prop} {n : Nat} {I : TI} {O : TO} {N : TN}
theorem x_pieces (hn : 100000 ≤ n) (hO : OF O) (hV : WV I O 3 4 5 6 7 8 N) (hB : WB N) {r : Nat} (hr : r < N 0) : ∃ I', f2_pieces n I O 287 3 (nI r) = some (nI (pcs (K N r) (Ln N r) 16 0 0), I') ∧ XF I I' := by
  have b1 := hB.1
  have l1 := hB.2.2.1 r (by omega)
  have e0 : f2_pieces n I O 287 3 (nI r) = f2_pieces_c14 n O n I 287 3 (nI r) (nI (Ln N r)) (nI 0) := by
    simp (disch := omega) only [f2_pieces, x_size hV hB hr, fJ9_min_7cf53, qL, qb, qbl, qadd, qmul, qsubm, qdm, qsub, qdiv, qcl, qlt, qle, qeq, nltT, nltF, nleT, nleF, neqT, neqF, or_false, false_or, or_true, true_or, or_self, and_true, true_and, and_false, false_and, and_self, not_true_eq_false, not_false_eq_true, ↓reduceIte]
  rw [e0]
  refine lpR (L := fun m k s => f2_pieces_c14 n O m s 287 3 (nI r) (nI (Ln N r)) (nI k)) (fun k s => (∀ a, a ≠ 288 → s a = I a) ∧ ∀ p, p < k → s 288 p = nI (K N r p)) (fun res => ∃ I', res = some (nI (pcs (K N r) (Ln N r) 16 0 0), I') ∧ XF I I') (Ln N r) ?_ ?_ (Ln N r) 0 n I (by omega) (by omega) ⟨fun a _ => rfl, fun p hp => absurd hp (Nat.not_lt_zero _)⟩
  · intro m k s hk ⟨h1, h2⟩
    have hV' : WV s O 3 4 5 6 7 8 N := WV_fr hV (fun a ha => h1 a (by omega))
    refine Or.inl ⟨sI s 288 k (nI (K N r k)), ⟨fun a ha => by rw [sI_o _ _ ha, h1 a ha], fun p hp => ?_⟩, ?_⟩
    · by_cases q : p = k
      · subst q; rw [sI_s]
      · rw [sI_k _ _ q]; exact h2 p (by omega)
    · have e2 := x_keyAt hV' hB hr hk
      simp (disch := omega) only [f2_pieces_c14, e2, o_287_0 hO, qL, qb, qbl, qadd, qmul, qsubm, qdm, qsub, qdiv, qcl, qlt, qle, qeq, nltT, nltF, nleT, nleF, neqT, neqF, or_false, false_or, or_true, true_or, or_self, and_true, true_and, and_false, false_and, and_self, not_true_eq_false, not_false_eq_true, ↓reduceIte]
  · intro m s ⟨h1, h2⟩
    have e := x_pcs (n := n) hn hO (s := s) (a := K N r) (l := Ln N r) h2 (fun p hp => by have := hB.2.2.2.2.1 r p (by omega) (by omega); omega) l1 16 0 0 n (by omega) (by omega) (by omega) (by omega)
    refine ⟨s, ?_, fun a ha => h1 a (by omega)⟩
    rw [← e]
    simp (disch := omega) only [f2_pieces_c14, qL, qb, qbl, qadd, qmul, qsubm, qdm, qsub, qdiv, qcl, qlt, qle, qeq, nltT, nltF, nleT, nleF, neqT, neqF, or_false, false_or, or_true, true_or, or_self, and_true, true_and, and_false, false_and, and_self, not_true_eq_false, not_false_eq_true, ↓reduceIte]
theorem smK {N : TN} (hB : WB N) {r i j : Nat} (hr : r < 5) (hi : i < 16) : smB (K N r i) (K N r j) = (K N r i == K N r j) := by
  have k1 := hB.2.2.2.2.1 r i hr hi
  have z : (K N r i != 6) = true := bne_iff_ne.mpr (by omega)
  unfold smB
  rw [z, Bool.and_true]
theorem m_parts42 (hn : 100000 ≤ n) {J : TI} (hM : MV J O N) (hB : WB N) {r : Nat} (hr : r < N 0) {k14 : Nat → Int32 → Int32 → Int32 → Option Int32} {k33 : Nat → Int32 → Int32 → Int32 → Int32 → Int32 → Option Int32} {c at0 most p : Nat} (hp : p < at0) (ha : at0 ≤ Ln N r) (hm : most ≤ 16) : f12_parts_c42 n J O k14 k33 n 331 (nI r) (nI c) (nI at0) (nI most) (nI p) (nI 0) = k33 331 (nI r) (nI c) (nI at0) (nI (max most (sf (K N r) (Ln N r) p at0))) (nI (p + 1)) := by
  have b1 := hB.1
  have l1 := hB.2.2.1 r (by omega)
  have el := m_len hM (r := r) (by omega)
  have sl := sf_le (K N r) (Ln N r) p at0
  have hh : f12_parts_c42 n J O k14 k33 n 331 (nI r) (nI c) (nI at0) (nI most) (nI p) (nI 0) = (fun k => k33 331 (nI r) (nI c) (nI at0) (nI (if k ≤ most then most else k)) (nI (p + 1))) (sf (K N r) (Ln N r) p at0) := by
    refine lpE (L := fun m k => f12_parts_c42 n J O k14 k33 m 331 (nI r) (nI c) (nI at0) (nI most) (nI p) (nI k)) (fun k => !smB (K N r (p + k)) (K N r (at0 + k))) (Ln N r - at0) (fun k => k33 331 (nI r) (nI c) (nI at0) (nI (if k ≤ most then most else k)) (nI (p + 1))) ?_ ?_ (Ln N r - at0) 0 n (by omega) (by omega)
    · intro m k hk
      have q3 := m_keyOf hM (r := r) (p := p + k) (by omega) (by omega)
      have q4 := m_keyOf hM (r := r) (p := at0 + k) (by omega) (by omega)
      have q5 := hB.2.2.2.2.1 r (p + k) (by omega) (by omega)
      have q6 := hB.2.2.2.2.1 r (at0 + k) (by omega) (by omega)
      rw [smK hB (by omega) (by omega)]
      by_cases z : K N r (p + k) = K N r (at0 + k)
      · rw [beq_iff_eq.mpr z]
        simp (disch := omega) only [f12_parts_c42, hM.1, el, q3, q4, Bool.not_true, Bool.false_eq_true, qL, qb, qbl, qadd, qmul, qsubm, qdm, qsub, qdiv, qcl, qlt, qle, qeq, nltT, nltF, nleT, nleF, neqT, neqF, or_false, false_or, or_true, true_or, or_self, and_true, true_and, and_false, false_and, and_self, not_true_eq_false, not_false_eq_true, ↓reduceIte]
      · rw [beq_false_of_ne z]
        by_cases z2 : k ≤ most
        · simp (disch := omega) only [f12_parts_c42, hM.1, el, q3, q4, Bool.not_false, z2, qL, qb, qbl, qadd, qmul, qsubm, qdm, qsub, qdiv, qcl, qlt, qle, qeq, nltT, nltF, nleT, nleF, neqT, neqF, or_false, false_or, or_true, true_or, or_self, and_true, true_and, and_false, false_and, and_self, not_true_eq_false, not_false_eq_true, ↓reduceIte]
        · simp (disch := omega) only [f12_parts_c42, hM.1, el, q3, q4, Bool.not_false, z2, qL, qb, qbl, qadd, qmul, qsubm, qdm, qsub, qdiv, qcl, qlt, qle, qeq, nltT, nltF, nleT, nleF, neqT, neqF, or_false, false_or, or_true, true_or, or_self, and_true, true_and, and_false, false_and, and_self, not_true_eq_false, not_false_eq_true, ↓reduceIte]
    · intro m
      by_cases z2 : Ln N r - at0 ≤ most
      · simp (disch := omega) only [f12_parts_c42, hM.1, el, z2, qL, qb, qbl, qadd, qmul, qsubm, qdm, qsub, qdiv, qcl, qlt, qle, qeq, nltT, nltF, nleT, nleF, neqT, neqF, or_false, false_or, or_true, true_or, or_self, and_true, true_and, and_false, false_and, and_self, not_true_eq_false, not_false_eq_true, ↓reduceIte]
      · simp (disch := omega) only [f12_parts_c42, hM.1, el, z2, qL, qb, qbl, qadd, qmul, qsubm, qdm, qsub, qdiv, qcl, qlt, qle, qeq, nltT, nltF, nleT, nleF, neqT, neqF, or_false, false_or, or_true, true_or, or_self, and_true, true_and, and_false, false_and, and_self, not_true_eq_false, not_false_eq_true, ↓reduceIte]
  rw [hh]
  show k33 331 (nI r) (nI c) (nI at0) (nI (if sf (K N r) (Ln N r) p at0 ≤ most then most else sf (K N r) (Ln N r) p at0)) (nI (p + 1)) = _
  by_cases z : sf (K N r) (Ln N r) p at0 ≤ most
  · rw [if_pos z, show max most (sf (K N r) (Ln N r) p at0) = most by omega]
  · rw [if_neg z, show max most (sf (K N r) (Ln N r) p at0) = sf (K N r) (Ln N r) p at0 by omega]
theorem m_parts33 (hn : 100000 ≤ n) {J : TI} (hM : MV J O N) (hB : WB N) {r : Nat} (hr : r < N 0) {k14 : Nat → Int32 → Int32 → Int32 → Option Int32} {c at0 : Nat} (ha : at0 ≤ Ln N r) : f12_parts_c33 n J O k14 n 331 (nI r) (nI c) (nI at0) (nI 0) (nI 0) = k14 331 (nI r) (nI (c + 1)) (nI (at0 + laG (K N r) (Ln N r) at0 + 1)) := by
  have b1 := hB.1
  have l1 := hB.2.2.1 r (by omega)
  refine lpR (L := fun m k w => f12_parts_c33 n J O k14 m 331 (nI r) (nI c) (nI at0) (nI w) (nI k)) (fun k w => w = fo (fun p c => max c (sf (K N r) (Ln N r) p at0)) k 0 0 ∧ w ≤ 16) (fun res => res = k14 331 (nI r) (nI (c + 1)) (nI (at0 + laG (K N r) (Ln N r) at0 + 1))) at0 ?_ ?_ at0 0 n 0 (by omega) (by omega) ⟨rfl, Nat.zero_le _⟩
  · intro m k w hk ⟨hw, hw2⟩
    left
    have sl := sf_le (K N r) (Ln N r) k at0
    refine ⟨max w (sf (K N r) (Ln N r) k at0), ⟨by rw [fo_s, Nat.zero_add, ← hw], by omega⟩, ?_⟩
    have e := m_parts42 hn hM hB hr (k14 := k14) (k33 := f12_parts_c33 n J O k14 m) (c := c) (at0 := at0) (most := w) (p := k) hk ha hw2
    show f12_parts_c33 n J O k14 (m + 1) 331 (nI r) (nI c) (nI at0) (nI w) (nI k) = _
    rw [← e]
    simp (disch := omega) only [f12_parts_c33, qL, qb, qbl, qadd, qmul, qsubm, qdm, qsub, qdiv, qcl, qlt, qle, qeq, nltT, nltF, nleT, nleF, neqT, neqF, or_false, false_or, or_true, true_or, or_self, and_true, true_and, and_false, false_and, and_self, not_true_eq_false, not_false_eq_true, ↓reduceIte]
  · intro m w ⟨hw, hw2⟩
    have hw' : w = laG (K N r) (Ln N r) at0 := hw
    rw [← hw']
    simp (disch := omega) only [f12_parts_c33, Nat.add_assoc, qL, qb, qbl, qadd, qmul, qsubm, qdm, qsub, qdiv, qcl, qlt, qle, qeq, nltT, nltF, nleT, nleF, neqT, neqF, or_false, false_or, or_true, true_or, or_self, and_true, true_and, and_false, false_and, and_self, not_true_eq_false, not_false_eq_true, ↓reduceIte]
theorem m_parts14 (hn : 100000 ≤ n) {J : TI} (hM : MV J O N) (hB : WB N) {r : Nat} (hr : r < N 0) : ∀ d at0 c m, Ln N r ≤ at0 + d → d < m → c ≤ at0 → at0 ≤ 20 → f12_parts_c14 n J O m 331 (nI r) (nI c) (nI at0) = some (nI (pcs (K N r) (Ln N r) d at0 c)) := by
  have b1 := hB.1
  have l1 := hB.2.2.1 r (by omega)
  have el := m_len hM (r := r) (by omega)
  intro d
  induction d with
  | zero =>
    intro at0 c m h1 h2 h3 h4
    obtain ⟨m', rfl⟩ : ∃ m', m = m' + 1 := ⟨m - 1, by omega⟩
    simp (disch := omega) only [f12_parts_c14, pcs, hM.1, el, qL, qb, qbl, qadd, qmul, qsubm, qdm, qsub, qdiv, qcl, qlt, qle, qeq, nltT, nltF, nleT, nleF, neqT, neqF, or_false, false_or, or_true, true_or, or_self, and_true, true_and, and_false, false_and, and_self, not_true_eq_false, not_false_eq_true, ↓reduceIte]
  | succ d ih =>
    intro at0 c m h1 h2 h3 h4
    obtain ⟨m', rfl⟩ : ∃ m', m = m' + 1 := ⟨m - 1, by omega⟩
    by_cases z : Ln N r ≤ at0
    · simp (disch := omega) only [f12_parts_c14, pcs, hM.1, el, qL, qb, qbl, qadd, qmul, qsubm, qdm, qsub, qdiv, qcl, qlt, qle, qeq, nltT, nltF, nleT, nleF, neqT, neqF, or_false, false_or, or_true, true_or, or_self, and_true, true_and, and_false, false_and, and_self, not_true_eq_false, not_false_eq_true, ↓reduceIte]
    · have e := m_parts33 hn hM hB hr (k14 := f12_parts_c14 n J O m') (c := c) (at0 := at0) (by omega)
      have := laG_le (K N r) (Ln N r) at0
      have st : f12_parts_c14 n J O (m' + 1) 331 (nI r) (nI c) (nI at0) = f12_parts_c33 n J O (f12_parts_c14 n J O m') n 331 (nI r) (nI c) (nI at0) (nI 0) (nI 0) := by
        simp (disch := omega) only [f12_parts_c14, hM.1, el, qL, qb, qbl, qadd, qmul, qsubm, qdm, qsub, qdiv, qcl, qlt, qle, qeq, nltT, nltF, nleT, nleF, neqT, neqF, or_false, false_or, or_true, true_or, or_self, and_true, true_and, and_false, false_and, and_self, not_true_eq_false, not_false_eq_true, ↓reduceIte]
      rw [st, e, ih _ _ m' (by omega) (by omega) (by omega) (by omega)]
      simp (disch := omega) only [pcs, qL, qb, qbl, qadd, qmul, qsubm, qdm, qsub, qdiv, qcl, qlt, qle, qeq, nltT, nltF, nleT, nleF, neqT, neqF, or_false, false_or, or_true, true_or, or_self, and_true, true_and, and_false, false_and, and_self, not_true_eq_false, not_false_eq_true, ↓reduceIte]
theorem s_parts (hn : 100000 ≤ n) (hT : TXst TX) (h : RE TX I O) (p1 : Int32) : ∃ (v : Int32) (I1 : TI), f11_parts n I O 1 p1 = some (v, I1) ∧ f12_parts n I1 O 331 p1 = some v ∧ RE TX I1 O := by
  obtain ⟨N, G, e, f, tp, h⟩ := h
  have hO := h.1
  have hV := RW_WV hO h.2.2.2.2.2.2.1
  have hN := h.2.2.2.1
  have hB := NB_WB hN
  have hM := h.2.1
  have hF := RW_fd h.2.2.2.2.2.2.1
  have b0 : N 0 ≤ 5 := hB.1
  have b1 : N 1 ≤ 4 := hB.2.1
  by_cases h1 : inR p1 (N 0)
  · obtain ⟨r, hr, rfl⟩ := inR_of h1
    have l1 := hB.2.2.1 r (by omega)
    obtain ⟨I1, e1, x1⟩ := x_pieces hn hO hV hB hr
    have r1 := R0_x hT h x1
    have hM1 : MV I1 O N := r1.2.1
    have e2 := m_parts14 (n := n) hn hM1 hB hr 16 0 0 n (by omega) (by omega) (by omega) (by omega)
    refine ⟨nI (pcs (K N r) (Ln N r) 16 0 0), I1, ?_, ?_, N, G, e, f, tp, r1⟩
    · simp (disch := omega) only [f11_parts, o_1_0 hO, o_1_1 hO, o_1_2 hO, o_1_3 hO, o_1_4 hO, o_1_5 hO, o_1_6 hO, o_1_7 hO, o_1_8 hO, o_1_9 hO, o_2_0 hO, o_2_1 hO, o_2_2 hO, o_2_3 hO, o_2_4 hO, o_2_5 hO, o_3_0 hO, o_3_1 hO, o_3_2 hO, o_6_0 hO, o_6_1 hO, o_6_2 hO, o_10_0 hO, o_331_0 hO, x_hasRoll hV hB hr, e1, qL, qb, qbl, qadd, qmul, qsubm, qdm, qsub, qdiv, qcl, qlt, qle, qeq, nltT, nltF, nleT, nleF, neqT, neqF, or_false, false_or, or_true, true_or, or_self, and_true, true_and, and_false, false_and, and_self, not_true_eq_false, not_false_eq_true, ↓reduceIte]
    · simp (disch := omega) only [f12_parts, m_isRoll hM1 hB hr, e2, qL, qb, qbl, qadd, qmul, qsubm, qdm, qsub, qdiv, qcl, qlt, qle, qeq, nltT, nltF, nleT, nleF, neqT, neqF, or_false, false_or, or_true, true_or, or_self, and_true, true_and, and_false, false_and, and_self, not_true_eq_false, not_false_eq_true, ↓reduceIte]
  · refine ⟨-1, I, ?_, ?_, N, G, e, f, tp, h⟩
    · simp (disch := omega) only [f11_parts, o_1_0 hO, o_1_1 hO, o_1_2 hO, o_1_3 hO, o_1_4 hO, o_1_5 hO, o_1_6 hO, o_1_7 hO, o_1_8 hO, o_1_9 hO, o_2_0 hO, o_2_1 hO, o_2_2 hO, o_2_3 hO, o_2_4 hO, o_2_5 hO, o_3_0 hO, o_3_1 hO, o_3_2 hO, o_6_0 hO, o_6_1 hO, o_6_2 hO, o_10_0 hO, o_331_0 hO, x_noRoll hV hB h1, qL, qb, qbl, qadd, qmul, qsubm, qdm, qsub, qdiv, qcl, qlt, qle, qeq, nltT, nltF, nleT, nleF, neqT, neqF, or_false, false_or, or_true, true_or, or_self, and_true, true_and, and_false, false_and, and_self, not_true_eq_false, not_false_eq_true, ↓reduceIte]
    · simp (disch := omega) only [f12_parts, m_noRoll hM hB h1, qL, qb, qbl, qadd, qmul, qsubm, qdm, qsub, qdiv, qcl, qlt, qle, qeq, nltT, nltF, nleT, nleF, neqT, neqF, or_false, false_or, or_true, true_or, or_self, and_true, true_and, and_false, false_and, and_self, not_true_eq_false, not_false_eq_true, ↓reduceIte]
end PY
/-! clash, together -/
theorem sh_lv {N : TN} (hB : WB N) {r q i j : Nat} (h1 : r < 5) (h2 : i < 16) (h3 : q < 5) (h4 : j < 16) : shB (lv N r i) (lv N q j) = (holeB N r i && holeB N q j && K N r i == K N q j) := by
  have k1 := hB.2.2.2.2.1 r i h1 h2
  have k2 := hB.2.2.2.2.1 q j h3 h4
  unfold shB smB lv holeB tornB
  rw [Bool.eq_iff_iff]
  by_cases z1 : Wr N r i = 9 <;> by_cases z2 : Wr N q j = 9 <;> simp [z1, z2] <;> omega
def clG (N : TN) (r q off k c : Nat) : Nat := if shB (lv N r (k + off)) (lv N q k) then c + 1 else c
def cl (N : TN) (r q off : Nat) : Nat := fo (clG N r q off) (min (Ln N q) (Ln N r - off)) 0 0
section CX
variable {TX : TI → Nat → Prop} {n : Nat} {I J : TI} {O : TO} {N : TN}
theorem clG_le {N : TN} {r q off k c M : Nat} (h : c ≤ M) : clG N r q off k c ≤ M + 1 := by unfold clG; split <;> omega
theorem cl_le {N : TN} {r q off : Nat} : cl N r q off ≤ min (Ln N q) (Ln N r - off) :=
  foI (clG N r q off) (fun k c => c ≤ k) (min (Ln N q) (Ln N r - off)) (fun k c _ hc => clG_le hc) _ 0 0 (by omega) (Nat.zero_le _)
theorem x_clashes (hn : 100000 ≤ n) (hO : OF O) (hV : WV I O 3 4 5 6 7 8 N) (hB : WB N) {r q off : Nat} (hr : r < N 0) (hq : q < N 0) (ho : off ≤ 16) : ∃ I', f2_clashes n I O 287 3 (nI r) (nI q) (nI off) = some (nI (cl N r q off), I') ∧ XF I I' := by
  have b1 := hB.1
  have l1 := hB.2.2.1 r (by omega)
  have l2 := hB.2.2.1 q (by omega)
  obtain ⟨I1, e1, f1, g1⟩ := lay_ok hn hV hB hr (b := 288) (by omega)
  have hV1 : WV I1 O 3 4 5 6 7 8 N := WV_fr hV (fun a ha => f1 a (by omega))
  obtain ⟨I2, e2, f2, g2⟩ := lay_ok hn hV1 hB hq (b := 289) (by omega)
  have w1 : ∀ p, p < Ln N r → I2 288 p = nI (lv N r p) := fun p hp => by rw [f2 288 (by omega)]; exact g1 p hp
  refine ⟨I2, ?_, fun a ha => by rw [f2 a (by omega), f1 a (by omega)]⟩
  have e0 : f2_clashes n I O 287 3 (nI r) (nI q) (nI off) = f2_clashes_c28 n O n I2 287 (nI off) (nI (Ln N r)) (nI (Ln N q)) (nI 0) (nI 0) := by
    simp (disch := omega) only [f2_clashes, o_287_0 hO, o_287_1 hO, e1, e2, qL, qb, qbl, qadd, qmul, qsubm, qdm, qsub, qdiv, qcl, qlt, qle, qeq, nltT, nltF, nleT, nleF, neqT, neqF, or_false, false_or, or_true, true_or, or_self, and_true, true_and, and_false, false_and, and_self, not_true_eq_false, not_false_eq_true, ↓reduceIte]
  rw [e0]
  refine lpF (L := fun m k c => f2_clashes_c28 n O m I2 287 (nI off) (nI (Ln N r)) (nI (Ln N q)) (nI c) (nI k)) (clG N r q off) (fun k c => c ≤ k) (min (Ln N q) (Ln N r - off)) (fun c => (nI c, I2)) ?_ (fun k c _ hc => clG_le hc) ?_ _ 0 n 0 (by omega) (by omega) (Nat.zero_le _)
  · intro m k c hk hc
    have a1 := w1 (k + off) (by omega)
    have a2 := g2 k (by omega)
    have v1 := lv_le hB (r := r) (p := k + off) (by omega) (by omega)
    have v2 := lv_le hB (r := q) (p := k) (by omega) (by omega)
    have e3 := x_isSameHole (a := lv N r (k + off)) (b := lv N q k) (by omega) (by omega)
    unfold clG
    cases z : shB (lv N r (k + off)) (lv N q k)
    · simp (disch := omega) only [f2_clashes_c28, o_287_0 hO, o_287_1 hO, a1, a2, e3, z, Bool.false_eq_true, qL, qb, qbl, qadd, qmul, qsubm, qdm, qsub, qdiv, qcl, qlt, qle, qeq, nltT, nltF, nleT, nleF, neqT, neqF, or_false, false_or, or_true, true_or, or_self, and_true, true_and, and_false, false_and, and_self, not_true_eq_false, not_false_eq_true, ↓reduceIte]
    · simp (disch := omega) only [f2_clashes_c28, o_287_0 hO, o_287_1 hO, a1, a2, e3, z, qL, qb, qbl, qadd, qmul, qsubm, qdm, qsub, qdiv, qcl, qlt, qle, qeq, nltT, nltF, nleT, nleF, neqT, neqF, or_false, false_or, or_true, true_or, or_self, and_true, true_and, and_false, false_and, and_self, not_true_eq_false, not_false_eq_true, ↓reduceIte]
  · intro m c hc
    by_cases z : Ln N q ≤ Ln N r - off
    · rw [show min (Ln N q) (Ln N r - off) = Ln N q by omega]
      simp (disch := omega) only [f2_clashes_c28, qL, qb, qbl, qadd, qmul, qsubm, qdm, qsub, qdiv, qcl, qlt, qle, qeq, nltT, nltF, nleT, nleF, neqT, neqF, or_false, false_or, or_true, true_or, or_self, and_true, true_and, and_false, false_and, and_self, not_true_eq_false, not_false_eq_true, ↓reduceIte]
    · rw [show min (Ln N q) (Ln N r - off) = Ln N r - off by omega]
      simp (disch := omega) only [f2_clashes_c28, qL, qb, qbl, qadd, qmul, qsubm, qdm, qsub, qdiv, qcl, qlt, qle, qeq, nltT, nltF, nleT, nleF, neqT, neqF, or_false, false_or, or_true, true_or, or_self, and_true, true_and, and_false, false_and, and_self, not_true_eq_false, not_false_eq_true, ↓reduceIte]
theorem m_areOne (hM : MV J O N) (hB : WB N) {r q i j : Nat} (h1 : r < 5) (h2 : i < 16) (h3 : q < 5) (h4 : j < 16) : f12_areOne J O 331 (nI r) (nI i) (nI q) (nI j) = some (if shB (lv N r i) (lv N q j) then 1 else 0) := by
  rw [sh_lv hB h1 h2 h3 h4]
  have q1 := m_isHole hM hB h1 h2
  have q2 := m_isHole hM hB h3 h4
  have q3 := m_keyOf hM h1 h2
  have q4 := m_keyOf hM h3 h4
  have q5 := hB.2.2.2.2.1 r i h1 h2
  have q6 := hB.2.2.2.2.1 q j h3 h4
  cases x1 : holeB N r i
  · simp (disch := omega) only [f12_areOne, q1, x1, Bool.false_eq_true, Bool.false_and, qL, qb, qbl, qadd, qmul, qsubm, qdm, qsub, qdiv, qcl, qlt, qle, qeq, nltT, nltF, nleT, nleF, neqT, neqF, or_false, false_or, or_true, true_or, or_self, and_true, true_and, and_false, false_and, and_self, not_true_eq_false, not_false_eq_true, ↓reduceIte]
  · cases x2 : holeB N q j
    · simp (disch := omega) only [f12_areOne, q1, q2, x1, x2, Bool.false_eq_true, Bool.false_and, Bool.and_false, qL, qb, qbl, qadd, qmul, qsubm, qdm, qsub, qdiv, qcl, qlt, qle, qeq, nltT, nltF, nleT, nleF, neqT, neqF, or_false, false_or, or_true, true_or, or_self, and_true, true_and, and_false, false_and, and_self, not_true_eq_false, not_false_eq_true, ↓reduceIte]
    · by_cases x3 : K N r i = K N q j
      · have x3' : (K N r i == K N q j) = true := beq_iff_eq.mpr x3
        simp (disch := omega) only [f12_areOne, q1, q2, q3, q4, x1, x2, x3', Bool.and_true, qL, qb, qbl, qadd, qmul, qsubm, qdm, qsub, qdiv, qcl, qlt, qle, qeq, nltT, nltF, nleT, nleF, neqT, neqF, or_false, false_or, or_true, true_or, or_self, and_true, true_and, and_false, false_and, and_self, not_true_eq_false, not_false_eq_true, ↓reduceIte]
      · have x3' : (K N r i == K N q j) = false := beq_false_of_ne x3
        simp (disch := omega) only [f12_areOne, q1, q2, q3, q4, x1, x2, x3', Bool.and_false, Bool.false_eq_true, qL, qb, qbl, qadd, qmul, qsubm, qdm, qsub, qdiv, qcl, qlt, qle, qeq, nltT, nltF, nleT, nleF, neqT, neqF, or_false, false_or, or_true, true_or, or_self, and_true, true_and, and_false, false_and, and_self, not_true_eq_false, not_false_eq_true, ↓reduceIte]
theorem m_clashes (hn : 100000 ≤ n) (hM : MV J O N) (hB : WB N) {r q off : Nat} (hr : r < N 0) (hq : q < N 0) (ho : off ≤ 16) : f12_clashes n J O 331 (nI r) (nI q) (nI off) = some (nI (cl N r q off)) := by
  have b1 := hB.1
  have l1 := hB.2.2.1 r (by omega)
  have l2 := hB.2.2.1 q (by omega)
  have el := m_len hM (r := r) (by omega)
  have el2 := m_len hM (r := q) (by omega)
  have hh : f12_clashes n J O 331 (nI r) (nI q) (nI off) = f12_clashes_c6 n J O n 331 (nI r) (nI q) (nI off) (nI 0) (nI (0 + off)) := by rw [Nat.zero_add]; rfl
  rw [hh]
  refine lpF (L := fun m k c => f12_clashes_c6 n J O m 331 (nI r) (nI q) (nI off) (nI c) (nI (k + off))) (clG N r q off) (fun k c => c ≤ k) (min (Ln N q) (Ln N r - off)) nI ?_ (fun k c _ hc => clG_le hc) ?_ _ 0 n 0 (by omega) (by omega) (Nat.zero_le _)
  · intro m k c hk hc
    have e3 := m_areOne hM hB (r := r) (i := k + off) (q := q) (j := k) (by omega) (by omega) (by omega) (by omega)
    have y : k + off + 1 = k + 1 + off := by omega
    unfold clG
    cases z : shB (lv N r (k + off)) (lv N q k)
    · simp (disch := omega) only [f12_clashes_c6, hM.1, el, el2, Nat.add_sub_cancel, e3, z, Bool.false_eq_true, y, Nat.add_zero, qL, qb, qbl, qadd, qmul, qsubm, qdm, qsub, qdiv, qcl, qlt, qle, qeq, nltT, nltF, nleT, nleF, neqT, neqF, or_false, false_or, or_true, true_or, or_self, and_true, true_and, and_false, false_and, and_self, not_true_eq_false, not_false_eq_true, ↓reduceIte]
    · simp (disch := omega) only [f12_clashes_c6, hM.1, el, el2, Nat.add_sub_cancel, e3, z, y, qL, qb, qbl, qadd, qmul, qsubm, qdm, qsub, qdiv, qcl, qlt, qle, qeq, nltT, nltF, nleT, nleF, neqT, neqF, or_false, false_or, or_true, true_or, or_self, and_true, true_and, and_false, false_and, and_self, not_true_eq_false, not_false_eq_true, ↓reduceIte]
  · intro m c hc
    by_cases z : Ln N q ≤ Ln N r - off
    · rw [show min (Ln N q) (Ln N r - off) = Ln N q by omega]
      by_cases z2 : Ln N r ≤ Ln N q + off
      · simp (disch := omega) only [f12_clashes_c6, hM.1, el, qL, qb, qbl, qadd, qmul, qsubm, qdm, qsub, qdiv, qcl, qlt, qle, qeq, nltT, nltF, nleT, nleF, neqT, neqF, or_false, false_or, or_true, true_or, or_self, and_true, true_and, and_false, false_and, and_self, not_true_eq_false, not_false_eq_true, ↓reduceIte]
      · simp (disch := omega) only [f12_clashes_c6, hM.1, el, el2, Nat.add_sub_cancel, qL, qb, qbl, qadd, qmul, qsubm, qdm, qsub, qdiv, qcl, qlt, qle, qeq, nltT, nltF, nleT, nleF, neqT, neqF, or_false, false_or, or_true, true_or, or_self, and_true, true_and, and_false, false_and, and_self, not_true_eq_false, not_false_eq_true, ↓reduceIte]
    · rw [show min (Ln N q) (Ln N r - off) = Ln N r - off by omega]
      simp (disch := omega) only [f12_clashes_c6, hM.1, el, qL, qb, qbl, qadd, qmul, qsubm, qdm, qsub, qdiv, qcl, qlt, qle, qeq, nltT, nltF, nleT, nleF, neqT, neqF, or_false, false_or, or_true, true_or, or_self, and_true, true_and, and_false, false_and, and_self, not_true_eq_false, not_false_eq_true, ↓reduceIte]
theorem s_clash (hn : 100000 ≤ n) (hT : TXst TX) (h : RE TX I O) (p1 p2 p3 : Int32) : ∃ (v : Int32) (I1 : TI), f11_clash n I O 1 p1 p2 p3 = some (v, I1) ∧ f12_clash n I1 O 331 p1 p2 p3 = some v ∧ RE TX I1 O := by
  obtain ⟨N, G, e, f, tp, h⟩ := h
  have hO := h.1
  have hV := RW_WV hO h.2.2.2.2.2.2.1
  have hN := h.2.2.2.1
  have hB := NB_WB hN
  have hM := h.2.1
  have hF := RW_fd h.2.2.2.2.2.2.1
  have b0 : N 0 ≤ 5 := hB.1
  have b1 : N 1 ≤ 4 := hB.2.1
  by_cases h1 : inR p1 (N 0)
  · obtain ⟨r, hr, rfl⟩ := inR_of h1
    by_cases h2 : inR p2 (N 0)
    · obtain ⟨q, hq, rfl⟩ := inR_of h2
      by_cases h3 : ((0 : Nat) : Int) ≤ p3.toInt ∧ p3.toInt ≤ ((16 : Nat) : Int)
      · obtain ⟨off, -, ho, rfl⟩ := inB h3
        obtain ⟨I1, e1, x1⟩ := x_clashes hn hO hV hB hr hq ho
        have r1 := R0_x hT h x1
        have hM1 : MV I1 O N := r1.2.1
        refine ⟨nI (cl N r q off), I1, ?_, ?_, N, G, e, f, tp, r1⟩
        · simp (disch := omega) only [f11_clash, o_1_0 hO, o_1_1 hO, o_1_2 hO, o_1_3 hO, o_1_4 hO, o_1_5 hO, o_1_6 hO, o_1_7 hO, o_1_8 hO, o_1_9 hO, o_2_0 hO, o_2_1 hO, o_2_2 hO, o_2_3 hO, o_2_4 hO, o_2_5 hO, o_3_0 hO, o_3_1 hO, o_3_2 hO, o_6_0 hO, o_6_1 hO, o_6_2 hO, o_10_0 hO, o_331_0 hO, x_hasRoll hV hB hr, x_hasRoll hV hB hq, e1, qL, qb, qbl, qadd, qmul, qsubm, qdm, qsub, qdiv, qcl, qlt, qle, qeq, nltT, nltF, nleT, nleF, neqT, neqF, or_false, false_or, or_true, true_or, or_self, and_true, true_and, and_false, false_and, and_self, not_true_eq_false, not_false_eq_true, ↓reduceIte]
        · simp (disch := omega) only [f12_clash, m_isRoll hM1 hB hr, m_isRoll hM1 hB hq, m_inT (Nat.zero_le off) ho, m_clashes hn hM1 hB hr hq ho, qL, qb, qbl, qadd, qmul, qsubm, qdm, qsub, qdiv, qcl, qlt, qle, qeq, nltT, nltF, nleT, nleF, neqT, neqF, or_false, false_or, or_true, true_or, or_self, and_true, true_and, and_false, false_and, and_self, not_true_eq_false, not_false_eq_true, ↓reduceIte]
      · have e1 := outB (by omega) (by omega) h3
        have e2 := m_inF h3 (by omega) (by omega)
        refine ⟨-1, I, ?_, ?_, N, G, e, f, tp, h⟩
        · rcases e1 with e1 | ⟨e1, e3⟩
          · simp (disch := omega) only [f11_clash, o_1_0 hO, o_1_1 hO, o_1_2 hO, o_1_3 hO, o_1_4 hO, o_1_5 hO, o_1_6 hO, o_1_7 hO, o_1_8 hO, o_1_9 hO, o_2_0 hO, o_2_1 hO, o_2_2 hO, o_2_3 hO, o_2_4 hO, o_2_5 hO, o_3_0 hO, o_3_1 hO, o_3_2 hO, o_6_0 hO, o_6_1 hO, o_6_2 hO, o_10_0 hO, o_331_0 hO, x_hasRoll hV hB hr, x_hasRoll hV hB hq, e1, qL, qb, qbl, qadd, qmul, qsubm, qdm, qsub, qdiv, qcl, qlt, qle, qeq, nltT, nltF, nleT, nleF, neqT, neqF, or_false, false_or, or_true, true_or, or_self, and_true, true_and, and_false, false_and, and_self, not_true_eq_false, not_false_eq_true, ↓reduceIte]
          · have e4 : ¬ p3 ≤ nI 16 := fun q => by rw [i_le, qtoI (by omega)] at q; rw [i_lt, qtoI (by omega)] at e3; omega
            simp (disch := omega) only [f11_clash, o_1_0 hO, o_1_1 hO, o_1_2 hO, o_1_3 hO, o_1_4 hO, o_1_5 hO, o_1_6 hO, o_1_7 hO, o_1_8 hO, o_1_9 hO, o_2_0 hO, o_2_1 hO, o_2_2 hO, o_2_3 hO, o_2_4 hO, o_2_5 hO, o_3_0 hO, o_3_1 hO, o_3_2 hO, o_6_0 hO, o_6_1 hO, o_6_2 hO, o_10_0 hO, o_331_0 hO, x_hasRoll hV hB hr, x_hasRoll hV hB hq, e1, e4, qL, qb, qbl, qadd, qmul, qsubm, qdm, qsub, qdiv, qcl, qlt, qle, qeq, nltT, nltF, nleT, nleF, neqT, neqF, or_false, false_or, or_true, true_or, or_self, and_true, true_and, and_false, false_and, and_self, not_true_eq_false, not_false_eq_true, ↓reduceIte]
        · simp (disch := omega) only [f12_clash, m_isRoll hM hB hr, m_isRoll hM hB hq, e2, qL, qb, qbl, qadd, qmul, qsubm, qdm, qsub, qdiv, qcl, qlt, qle, qeq, nltT, nltF, nleT, nleF, neqT, neqF, or_false, false_or, or_true, true_or, or_self, and_true, true_and, and_false, false_and, and_self, not_true_eq_false, not_false_eq_true, ↓reduceIte]
    · refine ⟨-1, I, ?_, ?_, N, G, e, f, tp, h⟩
      · simp (disch := omega) only [f11_clash, o_1_0 hO, o_1_1 hO, o_1_2 hO, o_1_3 hO, o_1_4 hO, o_1_5 hO, o_1_6 hO, o_1_7 hO, o_1_8 hO, o_1_9 hO, o_2_0 hO, o_2_1 hO, o_2_2 hO, o_2_3 hO, o_2_4 hO, o_2_5 hO, o_3_0 hO, o_3_1 hO, o_3_2 hO, o_6_0 hO, o_6_1 hO, o_6_2 hO, o_10_0 hO, o_331_0 hO, x_hasRoll hV hB hr, x_noRoll hV hB h2, qL, qb, qbl, qadd, qmul, qsubm, qdm, qsub, qdiv, qcl, qlt, qle, qeq, nltT, nltF, nleT, nleF, neqT, neqF, or_false, false_or, or_true, true_or, or_self, and_true, true_and, and_false, false_and, and_self, not_true_eq_false, not_false_eq_true, ↓reduceIte]
      · simp (disch := omega) only [f12_clash, m_isRoll hM hB hr, m_noRoll hM hB h2, qL, qb, qbl, qadd, qmul, qsubm, qdm, qsub, qdiv, qcl, qlt, qle, qeq, nltT, nltF, nleT, nleF, neqT, neqF, or_false, false_or, or_true, true_or, or_self, and_true, true_and, and_false, false_and, and_self, not_true_eq_false, not_false_eq_true, ↓reduceIte]
  · refine ⟨-1, I, ?_, ?_, N, G, e, f, tp, h⟩
    · simp (disch := omega) only [f11_clash, o_1_0 hO, o_1_1 hO, o_1_2 hO, o_1_3 hO, o_1_4 hO, o_1_5 hO, o_1_6 hO, o_1_7 hO, o_1_8 hO, o_1_9 hO, o_2_0 hO, o_2_1 hO, o_2_2 hO, o_2_3 hO, o_2_4 hO, o_2_5 hO, o_3_0 hO, o_3_1 hO, o_3_2 hO, o_6_0 hO, o_6_1 hO, o_6_2 hO, o_10_0 hO, o_331_0 hO, x_noRoll hV hB h1, qL, qb, qbl, qadd, qmul, qsubm, qdm, qsub, qdiv, qcl, qlt, qle, qeq, nltT, nltF, nleT, nleF, neqT, neqF, or_false, false_or, or_true, true_or, or_self, and_true, true_and, and_false, false_and, and_self, not_true_eq_false, not_false_eq_true, ↓reduceIte]
    · simp (disch := omega) only [f12_clash, m_noRoll hM hB h1, qL, qb, qbl, qadd, qmul, qsubm, qdm, qsub, qdiv, qcl, qlt, qle, qeq, nltT, nltF, nleT, nleF, neqT, neqF, or_false, false_or, or_true, true_or, or_self, and_true, true_and, and_false, false_and, and_self, not_true_eq_false, not_false_eq_true, ↓reduceIte]
def tgG (N : TN) (r q off b : Nat) : Nat := if cl N r q off < cl N r q b then off else b
theorem tgG_le {N : TN} {r q k b : Nat} (hk : k < 17) (hb : b ≤ 16) : tgG N r q k b ≤ 16 := by unfold tgG; split <;> omega
theorem s_together (hn : 100000 ≤ n) (hT : TXst TX) (h : RE TX I O) (p1 p2 : Int32) : ∃ (v : Int32) (I1 : TI), f11_together n I O 1 p1 p2 = some (v, I1) ∧ f12_together n I1 O 331 p1 p2 = some v ∧ RE TX I1 O := by
  obtain ⟨N, G, e, f, tp, h⟩ := h
  have hO := h.1
  have hV := RW_WV hO h.2.2.2.2.2.2.1
  have hN := h.2.2.2.1
  have hB := NB_WB hN
  have hM := h.2.1
  have hF := RW_fd h.2.2.2.2.2.2.1
  have b0 : N 0 ≤ 5 := hB.1
  have b1 : N 1 ≤ 4 := hB.2.1
  by_cases h1 : inR p1 (N 0)
  · obtain ⟨r, hr, rfl⟩ := inR_of h1
    by_cases h2 : inR p2 (N 0)
    · obtain ⟨q, hq, rfl⟩ := inR_of h2
      have l1 := hB.2.2.1 r (by omega)
      have l2 := hB.2.2.1 q (by omega)
      have cb : ∀ k, cl N r q k ≤ 16 := fun k => by have := cl_le (N := N) (r := r) (q := q) (off := k); omega
      obtain ⟨I0, e0, x0⟩ := x_clashes hn hO hV hB hr hq (off := 0) (by omega)
      have key : ∃ I1, f11_together_c54 n O n I0 1 (nI r) (nI q) (nI 0) (nI (cl N r q 0)) (nI 1) = some (nI (fo (tgG N r q) 16 1 0), I1) ∧ XF I I1 := by
        refine lpR (L := fun m k (s : TI × Nat) => f11_together_c54 n O m s.1 1 (nI r) (nI q) (nI s.2) (nI (cl N r q s.2)) (nI k)) (fun k s => 1 ≤ k ∧ XF I s.1 ∧ s.2 = fo (tgG N r q) (k - 1) 1 0 ∧ s.2 ≤ 16) (fun res => ∃ I1, res = some (nI (fo (tgG N r q) 16 1 0), I1) ∧ XF I I1) 17 ?_ ?_ 16 1 n (I0, 0) (by omega) (by omega) ⟨Nat.le_refl _, x0, rfl, Nat.zero_le _⟩
        · intro m k s hk ⟨k0, k1, k2, k3⟩
          left
          have hV' : WV s.1 O 3 4 5 6 7 8 N := WV_fr hV (fun a ha => k1 a (by omega))
          obtain ⟨I2, e2, x2⟩ := x_clashes hn hO hV' hB hr hq (off := k) (by omega)
          have c1 := cb k
          have c2 := cb s.2
          refine ⟨(I2, tgG N r q k s.2), ⟨by omega, XF_t k1 x2, ?_, tgG_le hk k3⟩, ?_⟩
          · rw [show k + 1 - 1 = k - 1 + 1 by omega, fo_s, ← k2, show 1 + (k - 1) = k by omega]
          · unfold tgG
            by_cases z : cl N r q k < cl N r q s.2
            · rw [if_pos z]
              simp (disch := omega) only [f11_together_c54, o_1_0 hO, o_1_1 hO, o_1_2 hO, o_1_3 hO, o_1_4 hO, o_1_5 hO, o_1_6 hO, o_1_7 hO, o_1_8 hO, o_1_9 hO, o_2_0 hO, o_2_1 hO, o_2_2 hO, o_2_3 hO, o_2_4 hO, o_2_5 hO, o_3_0 hO, o_3_1 hO, o_3_2 hO, o_6_0 hO, o_6_1 hO, o_6_2 hO, o_10_0 hO, o_331_0 hO, e2, qL, qb, qbl, qadd, qmul, qsubm, qdm, qsub, qdiv, qcl, qlt, qle, qeq, nltT, nltF, nleT, nleF, neqT, neqF, or_false, false_or, or_true, true_or, or_self, and_true, true_and, and_false, false_and, and_self, not_true_eq_false, not_false_eq_true, ↓reduceIte]
            · rw [if_neg z]
              simp (disch := omega) only [f11_together_c54, o_1_0 hO, o_1_1 hO, o_1_2 hO, o_1_3 hO, o_1_4 hO, o_1_5 hO, o_1_6 hO, o_1_7 hO, o_1_8 hO, o_1_9 hO, o_2_0 hO, o_2_1 hO, o_2_2 hO, o_2_3 hO, o_2_4 hO, o_2_5 hO, o_3_0 hO, o_3_1 hO, o_3_2 hO, o_6_0 hO, o_6_1 hO, o_6_2 hO, o_10_0 hO, o_331_0 hO, e2, qL, qb, qbl, qadd, qmul, qsubm, qdm, qsub, qdiv, qcl, qlt, qle, qeq, nltT, nltF, nleT, nleF, neqT, neqF, or_false, false_or, or_true, true_or, or_self, and_true, true_and, and_false, false_and, and_self, not_true_eq_false, not_false_eq_true, ↓reduceIte]
        · intro m s ⟨k0, k1, k2, k3⟩
          refine ⟨s.1, ?_, k1⟩
          rw [← k2]
          simp (disch := omega) only [f11_together_c54, qL, qb, qbl, qadd, qmul, qsubm, qdm, qsub, qdiv, qcl, qlt, qle, qeq, nltT, nltF, nleT, nleF, neqT, neqF, or_false, false_or, or_true, true_or, or_self, and_true, true_and, and_false, false_and, and_self, not_true_eq_false, not_false_eq_true, ↓reduceIte]
      obtain ⟨I1, e1, x1⟩ := key
      have r1 := R0_x hT h x1
      have hM1 : MV I1 O N := r1.2.1
      have e2 : f12_together_c23 n I1 O n 331 (nI r) (nI q) (nI 0) (nI 1) = some (nI (fo (tgG N r q) 16 1 0)) := by
        refine lpF (L := fun m k b => f12_together_c23 n I1 O m 331 (nI r) (nI q) (nI b) (nI k)) (tgG N r q) (fun _ b => b ≤ 16) 17 nI ?_ (fun k b hk hb => tgG_le hk hb) ?_ 16 1 n 0 (by omega) (by omega) (Nat.zero_le _)
        · intro m k b hk hb
          have c1 := cb k
          have c2 := cb b
          have q1 := m_clashes hn hM1 hB hr hq (off := k) (by omega)
          have q2 := m_clashes hn hM1 hB hr hq (off := b) hb
          unfold tgG
          by_cases z : cl N r q k < cl N r q b
          · rw [if_pos z]
            simp (disch := omega) only [f12_together_c23, q1, q2, qL, qb, qbl, qadd, qmul, qsubm, qdm, qsub, qdiv, qcl, qlt, qle, qeq, nltT, nltF, nleT, nleF, neqT, neqF, or_false, false_or, or_true, true_or, or_self, and_true, true_and, and_false, false_and, and_self, not_true_eq_false, not_false_eq_true, ↓reduceIte]
          · rw [if_neg z]
            simp (disch := omega) only [f12_together_c23, q1, q2, qL, qb, qbl, qadd, qmul, qsubm, qdm, qsub, qdiv, qcl, qlt, qle, qeq, nltT, nltF, nleT, nleF, neqT, neqF, or_false, false_or, or_true, true_or, or_self, and_true, true_and, and_false, false_and, and_self, not_true_eq_false, not_false_eq_true, ↓reduceIte]
        · intro m b hb
          simp (disch := omega) only [f12_together_c23, qL, qb, qbl, qadd, qmul, qsubm, qdm, qsub, qdiv, qcl, qlt, qle, qeq, nltT, nltF, nleT, nleF, neqT, neqF, or_false, false_or, or_true, true_or, or_self, and_true, true_and, and_false, false_and, and_self, not_true_eq_false, not_false_eq_true, ↓reduceIte]
      refine ⟨nI (fo (tgG N r q) 16 1 0), I1, ?_, ?_, N, G, e, f, tp, r1⟩
      · rw [← e1]
        simp (disch := omega) only [f11_together, o_1_0 hO, o_1_1 hO, o_1_2 hO, o_1_3 hO, o_1_4 hO, o_1_5 hO, o_1_6 hO, o_1_7 hO, o_1_8 hO, o_1_9 hO, o_2_0 hO, o_2_1 hO, o_2_2 hO, o_2_3 hO, o_2_4 hO, o_2_5 hO, o_3_0 hO, o_3_1 hO, o_3_2 hO, o_6_0 hO, o_6_1 hO, o_6_2 hO, o_10_0 hO, o_331_0 hO, x_hasRoll hV hB hr, x_hasRoll hV hB hq, e0, qL, qb, qbl, qadd, qmul, qsubm, qdm, qsub, qdiv, qcl, qlt, qle, qeq, nltT, nltF, nleT, nleF, neqT, neqF, or_false, false_or, or_true, true_or, or_self, and_true, true_and, and_false, false_and, and_self, not_true_eq_false, not_false_eq_true, ↓reduceIte]
      · simp (disch := omega) only [f12_together, m_isRoll hM1 hB hr, m_isRoll hM1 hB hq, e2, qL, qb, qbl, qadd, qmul, qsubm, qdm, qsub, qdiv, qcl, qlt, qle, qeq, nltT, nltF, nleT, nleF, neqT, neqF, or_false, false_or, or_true, true_or, or_self, and_true, true_and, and_false, false_and, and_self, not_true_eq_false, not_false_eq_true, ↓reduceIte]
    · refine ⟨-1, I, ?_, ?_, N, G, e, f, tp, h⟩
      · simp (disch := omega) only [f11_together, o_1_0 hO, o_1_1 hO, o_1_2 hO, o_1_3 hO, o_1_4 hO, o_1_5 hO, o_1_6 hO, o_1_7 hO, o_1_8 hO, o_1_9 hO, o_2_0 hO, o_2_1 hO, o_2_2 hO, o_2_3 hO, o_2_4 hO, o_2_5 hO, o_3_0 hO, o_3_1 hO, o_3_2 hO, o_6_0 hO, o_6_1 hO, o_6_2 hO, o_10_0 hO, o_331_0 hO, x_hasRoll hV hB hr, x_noRoll hV hB h2, qL, qb, qbl, qadd, qmul, qsubm, qdm, qsub, qdiv, qcl, qlt, qle, qeq, nltT, nltF, nleT, nleF, neqT, neqF, or_false, false_or, or_true, true_or, or_self, and_true, true_and, and_false, false_and, and_self, not_true_eq_false, not_false_eq_true, ↓reduceIte]
      · simp (disch := omega) only [f12_together, m_isRoll hM hB hr, m_noRoll hM hB h2, qL, qb, qbl, qadd, qmul, qsubm, qdm, qsub, qdiv, qcl, qlt, qle, qeq, nltT, nltF, nleT, nleF, neqT, neqF, or_false, false_or, or_true, true_or, or_self, and_true, true_and, and_false, false_and, and_self, not_true_eq_false, not_false_eq_true, ↓reduceIte]
  · refine ⟨-1, I, ?_, ?_, N, G, e, f, tp, h⟩
    · simp (disch := omega) only [f11_together, o_1_0 hO, o_1_1 hO, o_1_2 hO, o_1_3 hO, o_1_4 hO, o_1_5 hO, o_1_6 hO, o_1_7 hO, o_1_8 hO, o_1_9 hO, o_2_0 hO, o_2_1 hO, o_2_2 hO, o_2_3 hO, o_2_4 hO, o_2_5 hO, o_3_0 hO, o_3_1 hO, o_3_2 hO, o_6_0 hO, o_6_1 hO, o_6_2 hO, o_10_0 hO, o_331_0 hO, x_noRoll hV hB h1, qL, qb, qbl, qadd, qmul, qsubm, qdm, qsub, qdiv, qcl, qlt, qle, qeq, nltT, nltF, nleT, nleF, neqT, neqF, or_false, false_or, or_true, true_or, or_self, and_true, true_and, and_false, false_and, and_self, not_true_eq_false, not_false_eq_true, ↓reduceIte]
    · simp (disch := omega) only [f12_together, m_noRoll hM hB h1, qL, qb, qbl, qadd, qmul, qsubm, qdm, qsub, qdiv, qcl, qlt, qle, qeq, nltT, nltF, nleT, nleF, neqT, neqF, or_false, false_or, or_true, true_or, or_self, and_true, true_and, and_false, false_and, and_self, not_true_eq_false, not_false_eq_true, ↓reduceIte]
end CX
