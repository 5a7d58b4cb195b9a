/-! the world as the class and as the reference hold it -/
abbrev TI := Nat → Nat → Int32
abbrev TL := Nat → Nat → Int64
abbrev TO := Nat → Nat → Option Nat
abbrev TN := Nat → Nat
def K (N : TN) (r p : Nat) : Nat := N (119 + 16 * r + p)
def Wr (N : TN) (r p : Nat) : Nat := N (10 + 16 * r + p)
def Hd (N : TN) (c k : Nat) : Nat := N (90 + 6 * c + k)
def Ln (N : TN) (r : Nat) : Nat := N (114 + r)
def WB (N : TN) : Prop := N 0 ≤ 5 ∧ N 1 ≤ 4 ∧ (∀ r, r < 5 → Ln N r ≤ 16) ∧ (∀ r, r < N 0 → 1 ≤ Ln N r) ∧ (∀ r p, r < 5 → p < 16 → K N r p ≤ 5) ∧ (∀ r p, r < 5 → p < 16 → Wr N r p ≤ 9) ∧ (∀ c k, c < 4 → k < 6 → Hd N c k ≤ 99) ∧ (∀ c, c < 4 → Hd N c 0 = 0) ∧ N 7 ≤ 9999 ∧ N 8 < 30697
def WV (I : TI) (O : TO) (wa sz ky mo wr hr : Nat) (N : TN) : Prop := (rO O wa 0 = sz ∧ rO O wa 1 = ky ∧ rO O wa 2 = mo ∧ rO O mo 0 = wr ∧ rO O mo 1 = hr) ∧ I wa 3 = nI (N 0) ∧ I wa 4 = nI (N 1) ∧ (∀ r, r < 5 → I sz r = nI (Ln N r)) ∧ (∀ r p, r < 5 → p < 16 → I ky (r * 16 + p) = nI (K N r p)) ∧ (∀ r p, r < 5 → p < 16 → I wr (r * 16 + p) = nI (Wr N r p)) ∧ (∀ c k, c < 4 → k < 6 → I hr (c * 6 + k) = nI (Hd N c k)) ∧ I mo 4 = nI (N 7) ∧ I mo 5 = nI (N 8)
def MV (J : TI) (O : TO) (N : TN) : Prop := rO O 331 0 = 332 ∧ ∀ t, t < 4371 → J 332 t = nI (N t)
theorem place_lt {N : TN} {r p : Nat} (hB : WB N) (hr : r < N 0) (hp : p < Ln N r) : r < 5 ∧ p < 16 := by
  have h1 := hB.1
  have h2 := hB.2.2.1 r (by omega)
  omega
section WX
variable {I : TI} {O : TO} {wa sz ky mo wr hr : Nat} {N : TN}
theorem x_hasRoll (hV : WV I O wa sz ky mo wr hr N) (hB : WB N) {r : Nat} (h : r < N 0) : f10_hasRoll I wa (nI r) = some 1 := by
  obtain ⟨-, v3, -⟩ := hV
  have b1 := hB.1
  simp (disch := omega) only [f10_hasRoll, v3, qL, qb, qbl, qadd, qmul, qsubm, qdm, qsub, qdiv, qcl, qlt, qle, qeq, nltT, nltF, nleT, nleF, neqT, neqF, or_false, false_or, or_true, true_or, or_self, and_true, true_and, and_false, false_and, and_self, not_true_eq_false, not_false_eq_true, ↓reduceIte]
theorem x_noRoll (hV : WV I O wa sz ky mo wr hr N) (hB : WB N) {x : Int32} (h : ¬ inR x (N 0)) : f10_hasRoll I wa x = some 0 := by
  obtain ⟨-, v3, -⟩ := hV
  have b1 := hB.1
  unfold f10_hasRoll
  by_cases h1 : x < 0
  · rw [if_pos h1]
  · rw [if_neg h1]
    obtain ⟨j, hj, rfl⟩ := nI_of h1
    have h2 : N 0 ≤ j := Nat.le_of_not_lt (fun q => h (inR_nI q hj))
    rw [v3, if_pos ((nI_leI (by omega) hj).mpr h2)]
theorem x_hasChild (hV : WV I O wa sz ky mo wr hr N) (hB : WB N) {r : Nat} (h : r < N 1) : f10_hasChild I wa (nI r) = some 1 := by
  obtain ⟨-, -, v3, -⟩ := hV
  have b1 := hB.2.1
  simp (disch := omega) only [f10_hasChild, v3, qL, qb, qbl, qadd, qmul, qsubm, qdm, qsub, qdiv, qcl, qlt, qle, qeq, nltT, nltF, nleT, nleF, neqT, neqF, or_false, false_or, or_true, true_or, or_self, and_true, true_and, and_false, false_and, and_self, not_true_eq_false, not_false_eq_true, ↓reduceIte]
theorem x_noChild (hV : WV I O wa sz ky mo wr hr N) (hB : WB N) {x : Int32} (h : ¬ inR x (N 1)) : f10_hasChild I wa x = some 0 := by
  obtain ⟨-, -, v3, -⟩ := hV
  have b1 := hB.2.1
  unfold f10_hasChild
  by_cases h1 : x < 0
  · rw [if_pos h1]
  · rw [if_neg h1]
    obtain ⟨j, hj, rfl⟩ := nI_of h1
    have h2 : N 1 ≤ j := Nat.le_of_not_lt (fun q => h (inR_nI q hj))
    rw [v3, if_pos ((nI_leI (by omega) hj).mpr h2)]
theorem x_hasPlace (hV : WV I O wa sz ky mo wr hr N) (hB : WB N) {r p : Nat} (h : r < N 0) (hp : p < Ln N r) : f10_hasPlace I O wa (nI r) (nI p) = some 1 := by
  obtain ⟨⟨o0, -⟩, v3, -, vs, -⟩ := hV
  have b1 := hB.1
  have b2 := hB.2.2.1 r (by omega)
  simp (disch := omega) only [f10_hasPlace, v3, o0, vs, qL, qb, qbl, qadd, qmul, qsubm, qdm, qsub, qdiv, qcl, qlt, qle, qeq, nltT, nltF, nleT, nleF, neqT, neqF, or_false, false_or, or_true, true_or, or_self, and_true, true_and, and_false, false_and, and_self, not_true_eq_false, not_false_eq_true, ↓reduceIte]
theorem x_noPlace (hV : WV I O wa sz ky mo wr hr N) (hB : WB N) {r : Nat} {y : Int32} (h : r < N 0) (hp : ¬ inR y (Ln N r)) : f10_hasPlace I O wa (nI r) y = some 0 := by
  obtain ⟨⟨o0, -⟩, v3, -, vs, -⟩ := hV
  have b1 := hB.1
  have b2 := hB.2.2.1 r (by omega)
  by_cases h1 : y < 0
  · have h1' : y < nI 0 := h1
    simp (disch := omega) only [f10_hasPlace, v3, o0, h1', qL, qb, qbl, qadd, qmul, qsubm, qdm, qsub, qdiv, qcl, qlt, qle, qeq, nltT, nltF, nleT, nleF, neqT, neqF, or_false, false_or, or_true, true_or, or_self, and_true, true_and, and_false, false_and, and_self, not_true_eq_false, not_false_eq_true, ↓reduceIte]
  · obtain ⟨j, hj, rfl⟩ := nI_of h1
    have h2 : Ln N r ≤ j := Nat.le_of_not_lt (fun q => hp (inR_nI q hj))
    simp (disch := omega) only [f10_hasPlace, v3, o0, vs, qL, qb, qbl, qadd, qmul, qsubm, qdm, qsub, qdiv, qcl, qlt, qle, qeq, nltT, nltF, nleT, nleF, neqT, neqF, or_false, false_or, or_true, true_or, or_self, and_true, true_and, and_false, false_and, and_self, not_true_eq_false, not_false_eq_true, ↓reduceIte]
theorem x_noPlaceR (hV : WV I O wa sz ky mo wr hr N) (hB : WB N) {x y : Int32} (h : ¬ inR x (N 0)) : f10_hasPlace I O wa x y = some 0 := by
  obtain ⟨-, v3, -⟩ := hV
  have b1 := hB.1
  unfold f10_hasPlace
  by_cases h1 : x < 0
  · rw [if_pos h1]
  · rw [if_neg h1]
    obtain ⟨j, hj, rfl⟩ := nI_of h1
    have h2 : N 0 ≤ j := Nat.le_of_not_lt (fun q => h (inR_nI q hj))
    rw [v3, if_pos ((nI_leI (by omega) hj).mpr h2)]
theorem x_size (hV : WV I O wa sz ky mo wr hr N) (hB : WB N) {r : Nat} (h : r < N 0) : f10_size I O wa (nI r) = some (nI (Ln N r)) := by
  have e := x_hasRoll hV hB h
  obtain ⟨⟨o0, -⟩, v3, -, vs, -⟩ := hV
  have b1 := hB.1
  simp (disch := omega) only [f10_size, e, o0, vs, qL, qb, qbl, qadd, qmul, qsubm, qdm, qsub, qdiv, qcl, qlt, qle, qeq, nltT, nltF, nleT, nleF, neqT, neqF, or_false, false_or, or_true, true_or, or_self, and_true, true_and, and_false, false_and, and_self, not_true_eq_false, not_false_eq_true, ↓reduceIte]
theorem x_keyAt (hV : WV I O wa sz ky mo wr hr N) (hB : WB N) {r p : Nat} (h : r < N 0) (hp : p < Ln N r) : f10_keyAt I O wa (nI r) (nI p) = some (nI (K N r p)) := by
  have e := x_hasPlace hV hB h hp
  obtain ⟨b1, b2⟩ := place_lt hB h hp
  obtain ⟨⟨-, o1, -⟩, -, -, -, vk, -⟩ := hV
  simp (disch := omega) only [f10_keyAt, e, o1, vk, qL, qb, qbl, qadd, qmul, qsubm, qdm, qsub, qdiv, qcl, qlt, qle, qeq, nltT, nltF, nleT, nleF, neqT, neqF, or_false, false_or, or_true, true_or, or_self, and_true, true_and, and_false, false_and, and_self, not_true_eq_false, not_false_eq_true, ↓reduceIte]
theorem x_wearAt (hV : WV I O wa sz ky mo wr hr N) (hB : WB N) {r p : Nat} (h : r < N 0) (hp : p < Ln N r) : f10_wearAt I O wa (nI r) (nI p) = some (nI (Wr N r p)) := by
  have e := x_hasPlace hV hB h hp
  obtain ⟨b1, b2⟩ := place_lt hB h hp
  obtain ⟨⟨-, -, o2, o3, -⟩, -, -, -, -, vk, -⟩ := hV
  simp (disch := omega) only [f10_wearAt, e, o2, o3, vk, qL, qb, qbl, qadd, qmul, qsubm, qdm, qsub, qdiv, qcl, qlt, qle, qeq, nltT, nltF, nleT, nleF, neqT, neqF, or_false, false_or, or_true, true_or, or_self, and_true, true_and, and_false, false_and, and_self, not_true_eq_false, not_false_eq_true, ↓reduceIte]
theorem x_noWearR (hV : WV I O wa sz ky mo wr hr N) (hB : WB N) {x y : Int32} (h : ¬ inR x (N 0)) : f10_wearAt I O wa x y = some 0 := by
  simp (disch := omega) only [f10_wearAt, x_noPlaceR hV hB h, qL, qb, qbl, qadd, qmul, qsubm, qdm, qsub, qdiv, qcl, qlt, qle, qeq, nltT, nltF, nleT, nleF, neqT, neqF, or_false, false_or, or_true, true_or, or_self, and_true, true_and, and_false, false_and, and_self, not_true_eq_false, not_false_eq_true, ↓reduceIte]
theorem x_noWear (hV : WV I O wa sz ky mo wr hr N) (hB : WB N) {r : Nat} {y : Int32} (h : r < N 0) (hp : ¬ inR y (Ln N r)) : f10_wearAt I O wa (nI r) y = some 0 := by
  simp (disch := omega) only [f10_wearAt, x_noPlace hV hB h hp, qL, qb, qbl, qadd, qmul, qsubm, qdm, qsub, qdiv, qcl, qlt, qle, qeq, nltT, nltF, nleT, nleF, neqT, neqF, or_false, false_or, or_true, true_or, or_self, and_true, true_and, and_false, false_and, and_self, not_true_eq_false, not_false_eq_true, ↓reduceIte]
def tornB (N : TN) (r p : Nat) : Bool := Wr N r p == 9
def holeB (N : TN) (r p : Nat) : Bool := (K N r p != 0) && (Wr N r p != 9)
theorem x_isTorn (hV : WV I O wa sz ky mo wr hr N) (hB : WB N) {r p : Nat} (h : r < N 0) (hp : p < Ln N r) : f10_isTorn I O wa (nI r) (nI p) = some (if tornB N r p then 1 else 0) := by
  have e := x_hasPlace hV hB h hp
  obtain ⟨b1, b2⟩ := place_lt hB h hp
  have b3 := hB.2.2.2.2.2.1 r p b1 b2
  obtain ⟨⟨-, -, o2, o3, -⟩, -, -, -, -, vk, -⟩ := hV
  by_cases hw : Wr N r p = 9
  · have hb : tornB N r p = true := by unfold tornB; rw [hw]; rfl
    simp (disch := omega) only [f10_isTorn, e, o2, o3, vk, hb, qL, qb, qbl, qadd, qmul, qsubm, qdm, qsub, qdiv, qcl, qlt, qle, qeq, nltT, nltF, nleT, nleF, neqT, neqF, or_false, false_or, or_true, true_or, or_self, and_true, true_and, and_false, false_and, and_self, not_true_eq_false, not_false_eq_true, ↓reduceIte]
  · have hb : tornB N r p = false := by unfold tornB; exact beq_false_of_ne hw
    simp (disch := omega) only [f10_isTorn, e, o2, o3, vk, hb, Bool.false_eq_true, qL, qb, qbl, qadd, qmul, qsubm, qdm, qsub, qdiv, qcl, qlt, qle, qeq, nltT, nltF, nleT, nleF, neqT, neqF, or_false, false_or, or_true, true_or, or_self, and_true, true_and, and_false, false_and, and_self, not_true_eq_false, not_false_eq_true, ↓reduceIte]
theorem x_sounds (hV : WV I O wa sz ky mo wr hr N) (hB : WB N) {r p : Nat} (h : r < N 0) (hp : p < Ln N r) : f10_sounds I O wa (nI r) (nI p) = some (if holeB N r p then 1 else 0) := by
  have e := x_hasPlace hV hB h hp
  obtain ⟨b1, b2⟩ := place_lt hB h hp
  have b3 := hB.2.2.2.2.2.1 r p b1 b2
  have b4 := hB.2.2.2.2.1 r p b1 b2
  obtain ⟨⟨-, o1, o2, o3, -⟩, -, -, -, vk, vw, -⟩ := hV
  by_cases hk : K N r p = 0
  · have hb : holeB N r p = false := by unfold holeB; rw [hk]; rfl
    simp (disch := omega) only [f10_sounds, e, o1, o2, o3, vk, vw, hb, Bool.false_eq_true, qL, qb, qbl, qadd, qmul, qsubm, qdm, qsub, qdiv, qcl, qlt, qle, qeq, nltT, nltF, nleT, nleF, neqT, neqF, or_false, false_or, or_true, true_or, or_self, and_true, true_and, and_false, false_and, and_self, not_true_eq_false, not_false_eq_true, ↓reduceIte]
  · by_cases hw : Wr N r p = 9
    · have hb : holeB N r p = false := by unfold holeB; rw [hw]; exact Bool.and_false _
      simp (disch := omega) only [f10_sounds, e, o1, o2, o3, vk, vw, hb, Bool.false_eq_true, qL, qb, qbl, qadd, qmul, qsubm, qdm, qsub, qdiv, qcl, qlt, qle, qeq, nltT, nltF, nleT, nleF, neqT, neqF, or_false, false_or, or_true, true_or, or_self, and_true, true_and, and_false, false_and, and_self, not_true_eq_false, not_false_eq_true, ↓reduceIte]
    · have hb : holeB N r p = true := by unfold holeB; rw [bne_iff_ne.mpr hk, bne_iff_ne.mpr hw]; rfl
      simp (disch := omega) only [f10_sounds, e, o1, o2, o3, vk, vw, hb, qL, qb, qbl, qadd, qmul, qsubm, qdm, qsub, qdiv, qcl, qlt, qle, qeq, nltT, nltF, nleT, nleF, neqT, neqF, or_false, false_or, or_true, true_or, or_self, and_true, true_and, and_false, false_and, and_self, not_true_eq_false, not_false_eq_true, ↓reduceIte]
theorem x_heardBy (hV : WV I O wa sz ky mo wr hr N) (hB : WB N) {c k : Nat} (h : c < N 1) (h1 : 1 ≤ k) (hk : k < 6) : f10_heardBy I O wa (nI c) (nI k) = some (nI (Hd N c k)) := by
  have e := x_hasChild hV hB h
  have b1 := hB.2.1
  obtain ⟨⟨-, -, o2, -, o4⟩, -, -, -, -, -, vh, -⟩ := hV
  simp (disch := omega) only [f10_heardBy, e, o2, o4, vh, qL, qb, qbl, qadd, qmul, qsubm, qdm, qsub, qdiv, qcl, qlt, qle, qeq, nltT, nltF, nleT, nleF, neqT, neqF, or_false, false_or, or_true, true_or, or_self, and_true, true_and, and_false, false_and, and_self, not_true_eq_false, not_false_eq_true, ↓reduceIte]
theorem x_noHeardC (hV : WV I O wa sz ky mo wr hr N) (hB : WB N) {x y : Int32} (h : ¬ inR x (N 1)) : f10_heardBy I O wa x y = some (-1) := by
  have e := x_noChild hV hB h
  simp (disch := omega) only [f10_heardBy, e, qL, qb, qbl, qadd, qmul, qsubm, qdm, qsub, qdiv, qcl, qlt, qle, qeq, nltT, nltF, nleT, nleF, neqT, neqF, or_false, false_or, or_true, true_or, or_self, and_true, true_and, and_false, false_and, and_self, not_true_eq_false, not_false_eq_true, ↓reduceIte]
theorem x_noHeard (hV : WV I O wa sz ky mo wr hr N) (hB : WB N) {c : Nat} {y : Int32} (h : c < N 1) (hy : ¬ (1 ≤ y.toInt ∧ y.toInt ≤ 5)) : f10_heardBy I O wa (nI c) y = some (-1) := by
  have e := x_hasChild hV hB h
  unfold f10_heardBy
  rw [e, qb, if_neg (by decide)]
  by_cases h1 : y < 1
  · rw [if_pos h1]
  · rw [if_neg h1, if_pos]
    rw [i_lt, l1] at h1
    rw [i_le, qlk 6 (by omega)]
    omega
theorem x_timesHeard (hV : WV I O wa sz ky mo wr hr N) (hB : WB N) {c k : Nat} (h : c < N 1) (hk : k < 6) : f10_timesHeard I O wa (nI c) (nI k) = some (nI (Hd N c k)) := by
  have e := x_hasChild hV hB h
  have b1 := hB.2.1
  obtain ⟨⟨-, -, o2, -, o4⟩, -, -, -, -, -, vh, -⟩ := hV
  simp (disch := omega) only [f10_timesHeard, e, o2, o4, vh, qL, qb, qbl, qadd, qmul, qsubm, qdm, qsub, qdiv, qcl, qlt, qle, qeq, nltT, nltF, nleT, nleF, neqT, neqF, or_false, false_or, or_true, true_or, or_self, and_true, true_and, and_false, false_and, and_self, not_true_eq_false, not_false_eq_true, ↓reduceIte]
end WX
section MX
variable {J : TI} {O : TO} {N : TN}
theorem m_isRoll (hM : MV J O N) (hB : WB N) {r : Nat} (h : r < N 0) : f12_isRoll J O 331 (nI r) = some 1 := by
  have b1 := hB.1
  obtain ⟨o0, hm⟩ := hM
  simp (disch := omega) only [f12_isRoll, f12_isIn, o0, hm 0 (by omega), qL, qb, qbl, qadd, qmul, qsubm, qdm, qsub, qdiv, qcl, qlt, qle, qeq, nltT, nltF, nleT, nleF, neqT, neqF, or_false, false_or, or_true, true_or, or_self, and_true, true_and, and_false, false_and, and_self, not_true_eq_false, not_false_eq_true, ↓reduceIte]
theorem m_noRoll (hM : MV J O N) (hB : WB N) {x : Int32} (h : ¬ inR x (N 0)) : f12_isRoll J O 331 x = some 0 := by
  have b1 := hB.1
  obtain ⟨o0, hm⟩ := hM
  unfold f12_isRoll
  rw [o0, hm 0 (by omega), m_isIn0 (by omega) (Classical.propDecidable _), if_neg h]; rfl
theorem m_isChild (hM : MV J O N) (hB : WB N) {r : Nat} (h : r < N 1) : f12_isChild J O 331 (nI r) = some 1 := by
  have b1 := hB.2.1
  obtain ⟨o0, hm⟩ := hM
  simp (disch := omega) only [f12_isChild, f12_isIn, o0, hm 1 (by omega), qL, qb, qbl, qadd, qmul, qsubm, qdm, qsub, qdiv, qcl, qlt, qle, qeq, nltT, nltF, nleT, nleF, neqT, neqF, or_false, false_or, or_true, true_or, or_self, and_true, true_and, and_false, false_and, and_self, not_true_eq_false, not_false_eq_true, ↓reduceIte]
theorem m_noChild (hM : MV J O N) (hB : WB N) {x : Int32} (h : ¬ inR x (N 1)) : f12_isChild J O 331 x = some 0 := by
  have b1 := hB.2.1
  obtain ⟨o0, hm⟩ := hM
  unfold f12_isChild
  rw [o0, hm 1 (by omega), m_isIn0 (by omega) (Classical.propDecidable _), if_neg h]; rfl
theorem m_len (hM : MV J O N) {r : Nat} (h : r < 5) : J 332 (114 + r) = nI (Ln N r) := hM.2 _ (by omega)
theorem m_K (hM : MV J O N) (r p : Nat) (h : r < 5) (hp : p < 16) : J 332 (119 + 16 * r + p) = nI (K N r p) := hM.2 _ (by omega)
theorem m_W (hM : MV J O N) (r p : Nat) (h : r < 5) (hp : p < 16) : J 332 (10 + 16 * r + p) = nI (Wr N r p) := hM.2 _ (by omega)
theorem m_H (hM : MV J O N) (c k : Nat) (h : c < 4) (hp : k < 6) : J 332 (90 + 6 * c + k) = nI (Hd N c k) := hM.2 _ (by omega)
theorem m_isPlace (hM : MV J O N) (hB : WB N) {r p : Nat} (h : r < N 0) (hp : p < Ln N r) : f12_isPlace J O 331 (nI r) (nI p) = some 1 := by
  have b1 := hB.1
  have b2 := hB.2.2.1 r (by omega)
  have e := m_isRoll hM hB h
  have el := m_len hM (r := r) (by omega)
  obtain ⟨o0, hm⟩ := hM
  simp (disch := omega) only [f12_isPlace, f12_isIn, e, o0, el, qL, qb, qbl, qadd, qmul, qsubm, qdm, qsub, qdiv, qcl, qlt, qle, qeq, nltT, nltF, nleT, nleF, neqT, neqF, or_false, false_or, or_true, true_or, or_self, and_true, true_and, and_false, false_and, and_self, not_true_eq_false, not_false_eq_true, ↓reduceIte]
theorem m_noPlace (hM : MV J O N) (hB : WB N) {r : Nat} {y : Int32} (h : r < N 0) (hp : ¬ inR y (Ln N r)) : f12_isPlace J O 331 (nI r) y = some 0 := by
  have b1 := hB.1
  have b2 := hB.2.2.1 r (by omega)
  have b3 := hB.2.2.2.1 r h
  have e := m_isRoll hM hB h
  have el := m_len hM (r := r) (by omega)
  have e2 : f12_isIn y (nI 0) (nI (Ln N r - 1)) = some (nI 0) := m_inF (fun q => hp ⟨by omega, by omega⟩) (by omega) (by omega)
  obtain ⟨o0, hm⟩ := hM
  simp (disch := omega) only [f12_isPlace, e, o0, el, e2, qL, qb, qbl, qadd, qmul, qsubm, qdm, qsub, qdiv, qcl, qlt, qle, qeq, nltT, nltF, nleT, nleF, neqT, neqF, or_false, false_or, or_true, true_or, or_self, and_true, true_and, and_false, false_and, and_self, not_true_eq_false, not_false_eq_true, ↓reduceIte]
theorem m_noPlaceR (hM : MV J O N) (hB : WB N) {x y : Int32} (h : ¬ inR x (N 0)) : f12_isPlace J O 331 x y = some 0 := by
  simp (disch := omega) only [f12_isPlace, m_noRoll hM hB h, qL, qb, qbl, qadd, qmul, qsubm, qdm, qsub, qdiv, qcl, qlt, qle, qeq, nltT, nltF, nleT, nleF, neqT, neqF, or_false, false_or, or_true, true_or, or_self, and_true, true_and, and_false, false_and, and_self, not_true_eq_false, not_false_eq_true, ↓reduceIte]
theorem m_keyOf (hM : MV J O N) {r p : Nat} (h : r < 5) (hp : p < 16) : f12_keyOf J O 331 (nI r) (nI p) = some (nI (K N r p)) := by
  simp (disch := omega) only [f12_keyOf, hM.1, m_K hM, qL, qb, qbl, qadd, qmul, qsubm, qdm, qsub, qdiv, qcl, qlt, qle, qeq, nltT, nltF, nleT, nleF, neqT, neqF, or_false, false_or, or_true, true_or, or_self, and_true, true_and, and_false, false_and, and_self, not_true_eq_false, not_false_eq_true, ↓reduceIte]
theorem m_wearOf (hM : MV J O N) {r p : Nat} (h : r < 5) (hp : p < 16) : f12_wearOf J O 331 (nI r) (nI p) = some (nI (Wr N r p)) := by
  simp (disch := omega) only [f12_wearOf, hM.1, m_W hM, qL, qb, qbl, qadd, qmul, qsubm, qdm, qsub, qdiv, qcl, qlt, qle, qeq, nltT, nltF, nleT, nleF, neqT, neqF, or_false, false_or, or_true, true_or, or_self, and_true, true_and, and_false, false_and, and_self, not_true_eq_false, not_false_eq_true, ↓reduceIte]
theorem m_heardBy (hM : MV J O N) {c k : Nat} (h : c < 4) (hp : k < 6) : f12_heardBy J O 331 (nI c) (nI k) = some (nI (Hd N c k)) := by
  simp (disch := omega) only [f12_heardBy, hM.1, m_H hM, qL, qb, qbl, qadd, qmul, qsubm, qdm, qsub, qdiv, qcl, qlt, qle, qeq, nltT, nltF, nleT, nleF, neqT, neqF, or_false, false_or, or_true, true_or, or_self, and_true, true_and, and_false, false_and, and_self, not_true_eq_false, not_false_eq_true, ↓reduceIte]
theorem m_isTorn (hM : MV J O N) (hB : WB N) {r p : Nat} (h : r < 5) (hp : p < 16) : f12_isTorn J O 331 (nI r) (nI p) = some (if tornB N r p then 1 else 0) := by
  have b3 := hB.2.2.2.2.2.1 r p h hp
  by_cases hw : Wr N r p = 9
  · have hb : tornB N r p = true := by unfold tornB; rw [hw]; rfl
    simp (disch := omega) only [f12_isTorn, m_wearOf hM h hp, hb, qL, qb, qbl, qadd, qmul, qsubm, qdm, qsub, qdiv, qcl, qlt, qle, qeq, nltT, nltF, nleT, nleF, neqT, neqF, or_false, false_or, or_true, true_or, or_self, and_true, true_and, and_false, false_and, and_self, not_true_eq_false, not_false_eq_true, ↓reduceIte]
  · have hb : tornB N r p = false := by unfold tornB; exact beq_false_of_ne hw
    simp (disch := omega) only [f12_isTorn, m_wearOf hM h hp, hb, Bool.false_eq_true, qL, qb, qbl, qadd, qmul, qsubm, qdm, qsub, qdiv, qcl, qlt, qle, qeq, nltT, nltF, nleT, nleF, neqT, neqF, or_false, false_or, or_true, true_or, or_self, and_true, true_and, and_false, false_and, and_self, not_true_eq_false, not_false_eq_true, ↓reduceIte]
theorem m_isHole (hM : MV J O N) (hB : WB N) {r p : Nat} (h : r < 5) (hp : p < 16) : f12_isHole J O 331 (nI r) (nI p) = some (if holeB N r p then 1 else 0) := by
  have b3 := hB.2.2.2.2.2.1 r p h hp
  have b4 := hB.2.2.2.2.1 r p h hp
  have e := m_wearOf hM h hp
  have e1 := m_keyOf hM h hp
  by_cases hk : K N r p = 0
  · have hb : holeB N r p = false := by unfold holeB; rw [hk]; rfl
    simp (disch := omega) only [f12_isHole, f12_isTorn, e, e1, hb, Bool.false_eq_true, qL, qb, qbl, qadd, qmul, qsubm, qdm, qsub, qdiv, qcl, qlt, qle, qeq, nltT, nltF, nleT, nleF, neqT, neqF, or_false, false_or, or_true, true_or, or_self, and_true, true_and, and_false, false_and, and_self, not_true_eq_false, not_false_eq_true, ↓reduceIte]
  · by_cases hw : Wr N r p = 9
    · have hb : holeB N r p = false := by unfold holeB; rw [hw]; exact Bool.and_false _
      simp (disch := omega) only [f12_isHole, f12_isTorn, e, e1, hb, Bool.false_eq_true, qL, qb, qbl, qadd, qmul, qsubm, qdm, qsub, qdiv, qcl, qlt, qle, qeq, nltT, nltF, nleT, nleF, neqT, neqF, or_false, false_or, or_true, true_or, or_self, and_true, true_and, and_false, false_and, and_self, not_true_eq_false, not_false_eq_true, ↓reduceIte]
    · have hb : holeB N r p = true := by unfold holeB; rw [bne_iff_ne.mpr hk, bne_iff_ne.mpr hw]; rfl
      simp (disch := omega) only [f12_isHole, f12_isTorn, e, e1, hb, qL, qb, qbl, qadd, qmul, qsubm, qdm, qsub, qdiv, qcl, qlt, qle, qeq, nltT, nltF, nleT, nleF, neqT, neqF, or_false, false_or, or_true, true_or, or_self, and_true, true_and, and_false, false_and, and_self, not_true_eq_false, not_false_eq_true, ↓reduceIte]
end MX
