/-! the reference's laws asked -/
section MB
variable {n : Nat} {J : TI} {L : TL} {O : TO} {N : TN} {lw : Lws}
theorem m_namePlace (hO : OF O) (hM : MV J O N) {r p : Nat} (hr : r < 5) (hp : p < 16) : ∃ J', f12_namePlace J O 331 (nI r) (nI p) = some J' ∧ (∀ a, a ≠ 337 → J' a = J a) ∧ J' 337 0 = nI (N 7) ∧ J' 337 1 = nI (K N r p) ∧ J' 337 4 = nI r ∧ J' 337 5 = nI p ∧ J' 337 6 = nI (Wr N r p) := by
  have v7 := hM.2 7 (by omega)
  have o1 := o_331_20 hO
  let J1 := sI J 337 0 (nI (N 7))
  have f1 : ∀ a, a ≠ 337 → J1 a = J a := fun a ha => sI_o _ _ ha
  have k1 := m_keyOf (MV_fr hM (f1 332 (by omega))) hr hp
  let J2 := sI (sI (sI J1 337 1 (nI (K N r p))) 337 4 (nI r)) 337 5 (nI p)
  have f2 : ∀ a, a ≠ 337 → J2 a = J a := fun a ha => by show sI _ _ _ _ a = _; rw [sI_o _ _ ha, sI_o _ _ ha, sI_o _ _ ha]; exact f1 a ha
  have k2 := m_wearOf (MV_fr hM (f2 332 (by omega))) hr hp
  refine ⟨sI J2 337 6 (nI (Wr N r p)), ?_, fun a ha => by rw [sI_o _ _ ha]; exact f2 a ha, ?_, ?_, ?_, ?_, sI_s _ _ _ _⟩
  · unfold f12_namePlace
    rw [o1, hM.1, v7, qbl]
    show (f12_keyOf J1 O 331 (nI r) (nI p)).bind _ = _
    rw [k1, qb, qbl, qbl, qbl]
    show (f12_wearOf J2 O 331 (nI r) (nI p)).bind _ = _
    rw [k2, qb, qbl]
  · simp (disch := omega) only [J2, J1, sI_s, sI_k, qL, qb, qbl, qadd, qmul, qsubm, qdm, qsub, qdiv, qcl, qlt, qle, qeq, nltT, nltF, nleT, nleF, neqT, neqF, or_false, false_or, or_true, true_or, or_self, and_true, true_and, and_false, false_and, and_self, not_true_eq_false, not_false_eq_true, ↓reduceIte]
  · simp (disch := omega) only [J2, J1, sI_s, sI_k, qL, qb, qbl, qadd, qmul, qsubm, qdm, qsub, qdiv, qcl, qlt, qle, qeq, nltT, nltF, nleT, nleF, neqT, neqF, or_false, false_or, or_true, true_or, or_self, and_true, true_and, and_false, false_and, and_self, not_true_eq_false, not_false_eq_true, ↓reduceIte]
  · simp (disch := omega) only [J2, J1, sI_s, sI_k, qL, qb, qbl, qadd, qmul, qsubm, qdm, qsub, qdiv, qcl, qlt, qle, qeq, nltT, nltF, nleT, nleF, neqT, neqF, or_false, false_or, or_true, true_or, or_self, and_true, true_and, and_false, false_and, and_self, not_true_eq_false, not_false_eq_true, ↓reduceIte]
  · simp (disch := omega) only [J2, J1, sI_s, sI_k, qL, qb, qbl, qadd, qmul, qsubm, qdm, qsub, qdiv, qcl, qlt, qle, qeq, nltT, nltF, nleT, nleF, neqT, neqF, or_false, false_or, or_true, true_or, or_self, and_true, true_and, and_false, false_and, and_self, not_true_eq_false, not_false_eq_true, ↓reduceIte]
theorem m_nameChild (hO : OF O) (hM : MV J O N) (hB : WB N) {c k : Nat} (hc : c < 4) (hk : k < 6) : ∃ J', f12_nameChild J O 331 (nI c) (nI k) = some J' ∧ (∀ a, a ≠ 337 → J' a = J a) ∧ J' 337 0 = nI (N 7) ∧ J' 337 1 = nI k ∧ J' 337 2 = nI c ∧ J' 337 3 = nI (Hd N c k) ∧ ∀ j, 4 ≤ j → J' 337 j = J 337 j := by
  have v7 := hM.2 7 (by omega)
  have o1 := o_331_20 hO
  let J1 := sI (sI (sI J 337 0 (nI (N 7))) 337 1 (nI k)) 337 2 (nI c)
  have f1 : ∀ a, a ≠ 337 → J1 a = J a := fun a ha => by show sI _ _ _ _ a = _; rw [sI_o _ _ ha, sI_o _ _ ha, sI_o _ _ ha]
  have k1 := m_heardBy (MV_fr hM (f1 332 (by omega))) hc hk
  refine ⟨sI J1 337 3 (nI (Hd N c k)), ?_, fun a ha => by rw [sI_o _ _ ha]; exact f1 a ha, ?_, ?_, ?_, sI_s _ _ _ _, fun j hj => ?_⟩
  · unfold f12_nameChild
    rw [o1, hM.1, v7, qbl, qbl, qbl]
    by_cases z : k = 0
    · subst z
      rw [if_pos (show nI 0 = 0 from rfl), qbl, show Hd N c 0 = 0 from hB.2.2.2.2.2.2.2.1 c hc]; rfl
    · rw [if_neg (nI_ne0 (by omega) (by omega))]
      show (f12_heardBy J1 O 331 (nI c) (nI k)).bind _ = _
      rw [k1, qb, qbl]
  · simp (disch := omega) only [J1, sI_s, sI_k, qL, qb, qbl, qadd, qmul, qsubm, qdm, qsub, qdiv, qcl, qlt, qle, qeq, nltT, nltF, nleT, nleF, neqT, neqF, or_false, false_or, or_true, true_or, or_self, and_true, true_and, and_false, false_and, and_self, not_true_eq_false, not_false_eq_true, ↓reduceIte]
  · simp (disch := omega) only [J1, sI_s, sI_k, qL, qb, qbl, qadd, qmul, qsubm, qdm, qsub, qdiv, qcl, qlt, qle, qeq, nltT, nltF, nleT, nleF, neqT, neqF, or_false, false_or, or_true, true_or, or_self, and_true, true_and, and_false, false_and, and_self, not_true_eq_false, not_false_eq_true, ↓reduceIte]
  · simp (disch := omega) only [J1, sI_s, sI_k, qL, qb, qbl, qadd, qmul, qsubm, qdm, qsub, qdiv, qcl, qlt, qle, qeq, nltT, nltF, nleT, nleF, neqT, neqF, or_false, false_or, or_true, true_or, or_self, and_true, true_and, and_false, false_and, and_self, not_true_eq_false, not_false_eq_true, ↓reduceIte]
  · simp (disch := omega) only [J1, sI_k, qL, qb, qbl, qadd, qmul, qsubm, qdm, qsub, qdiv, qcl, qlt, qle, qeq, nltT, nltF, nleT, nleF, neqT, neqF, or_false, false_or, or_true, true_or, or_self, and_true, true_and, and_false, false_and, and_self, not_true_eq_false, not_false_eq_true, ↓reduceIte]
theorem m_blursOf (hn : 100000 ≤ n) (hO : OF O) (hB : WB N) (hM : MV J O N) (hL : LM0 J (N 3) lw) {r p c : Nat} (hr : r < N 0) (hp : p < Ln N r) (hc : c < N 1) : ∃ J' L', f12_blursOf n J L O 331 (nI r) (nI p) (nI c) = some (nI (blN N lw r p c), J', L') ∧ KN J J' := by
  have b1 := hB.1
  have b2 := hB.2.1
  obtain ⟨p5, p16⟩ := place_lt hB hr hp
  have wb := hB.2.2.2.2.2.1 r p p5 p16
  have kb := hB.2.2.2.2.1 r p p5 p16
  have hb := hB.2.2.2.2.2.2.1 c (K N r p) (by omega) (by omega)
  have s7 := hB.2.2.2.2.2.2.2.2.1
  obtain ⟨J1, a1, a2, a3, a4, a5, a6, a7⟩ := m_namePlace hO hM p5 p16
  have hM1 := MV_fr hM (a2 332 (by omega))
  obtain ⟨J2, c1, c2, c3, c4, c5, c6, c7⟩ := m_nameChild hO hM1 hB (c := c) (k := K N r p) (by omega) (by omega)
  have hM2 := MV_fr hM1 (c2 332 (by omega))
  have hL2 : LM0 J2 (N 3) lw := LM_fr hL (by rw [c2 334 (by omega), a2 334 (by omega)])
  obtain ⟨J3, L3, q1, q2⟩ := m_says (L := L) (s := 0) (M := 10) (w := Wr N r p / 2) (e0 := eB N r p c) hn hO hB hM2 hL2 (by omega) (by omega) (by omega) (eN_ok hB (fun j hj => by
    show (if j = 0 then _ else _) ≤ 9999
    repeat' split
    all_goals omega)) rfl (fun k hk => by
    have : k = 0 ∨ k = 1 ∨ k = 2 ∨ k = 3 ∨ k = 4 ∨ k = 5 ∨ k = 6 := by have := okN_lt hk; omega
    rcases this with rfl | rfl | rfl | rfl | rfl | rfl | rfl
    · show _ = iV ((N 7 : Nat) : Int); rw [iV_n (by omega), c3]
    · show _ = iV ((K N r p : Nat) : Int); rw [iV_n (by omega), c4]
    · show _ = iV ((c : Nat) : Int); rw [iV_n (by omega), c5]
    · show _ = iV ((Hd N c (K N r p) : Nat) : Int); rw [iV_n (by omega), c6]
    · show _ = iV ((r : Nat) : Int); rw [iV_n (by omega), c7 4 (by omega), a5]
    · show _ = iV ((p : Nat) : Int); rw [iV_n (by omega), c7 5 (by omega), a6]
    · show _ = iV ((Wr N r p : Nat) : Int); rw [iV_n (by omega), c7 6 (by omega), a7])
  refine ⟨J3, L3, ?_, fun a h1 h2 => by rw [q2 a h2, c2 a h1, a2 a h1]⟩
  have q1' : f12_says n J2 L O 331 (nI (N 3)) 0 (nI (Wr N r p / 2)) 10 = some (nI (blN N lw r p c), J3, L3) := q1
  have d2 : nI (Wr N r p) / 2 = nI (Wr N r p / 2) := pk_div (d := 2) (by omega) (by omega) (by omega)
  unfold f12_blursOf
  rw [a1, qb, m_keyOf hM1 p5 p16, qb, c1, qb, m_wearOf hM2 p5 p16, qb, hM.1, hM2.2 3 (by omega), d2, q1', qb]
theorem m_wearsOf (hn : 100000 ≤ n) (hO : OF O) (hB : WB N) (hM : MV J O N) (hL : LM0 J (N 3) lw) {r p : Nat} (hr : r < N 0) (hp : p < Ln N r) : ∃ J' L', f12_wearsOf n J L O 331 (nI r) (nI p) = some (nI (weN N lw r p (Wr N r p)), J', L') ∧ KN J J' := by
  have b1 := hB.1
  obtain ⟨p5, p16⟩ := place_lt hB hr hp
  have wb := hB.2.2.2.2.2.1 r p p5 p16
  have kb := hB.2.2.2.2.1 r p p5 p16
  have s7 := hB.2.2.2.2.2.2.2.2.1
  obtain ⟨J1, a1, a2, a3, a4, a5, a6, a7⟩ := m_namePlace hO hM p5 p16
  have hM1 := MV_fr hM (a2 332 (by omega))
  have hL2 : LM0 J1 (N 3) lw := LM_fr hL (a2 334 (by omega))
  obtain ⟨J3, L3, q1, q2⟩ := m_says (L := L) (s := 2) (M := 9) (w := 1) (e0 := eW N r p (Wr N r p)) hn hO hB hM1 hL2 (by omega) (by omega) (by omega) (eN_ok hB (fun j hj => by
    show (if j = 0 then _ else _) ≤ 9999
    repeat' split
    all_goals omega)) rfl (fun k hk => by
    have : k = 0 ∨ k = 1 ∨ k = 2 ∨ k = 3 ∨ k = 4 ∨ k = 5 ∨ k = 6 := by have := okN_lt hk; omega
    rcases this with rfl | rfl | rfl | rfl | rfl | rfl | rfl
    · show _ = iV ((N 7 : Nat) : Int); rw [iV_n (by omega), a3]
    · show _ = iV ((K N r p : Nat) : Int); rw [iV_n (by omega), a4]
    · exact absurd hk (by decide)
    · exact absurd hk (by decide)
    · show _ = iV ((r : Nat) : Int); rw [iV_n (by omega), a5]
    · show _ = iV ((p : Nat) : Int); rw [iV_n (by omega), a6]
    · show _ = iV ((Wr N r p : Nat) : Int); rw [iV_n (by omega), a7])
  refine ⟨J3, L3, ?_, fun a h1 h2 => by rw [q2 a h2, a2 a h1]⟩
  have q1' : f12_says n J1 L O 331 (nI (N 3)) 2 1 9 = some (nI (weN N lw r p (Wr N r p)), J3, L3) := q1
  unfold f12_wearsOf
  rw [a1, qb, hM.1, hM1.2 3 (by omega), q1', qb]
theorem m_learnsOf (hn : 100000 ≤ n) (hO : OF O) (hB : WB N) (hM : MV J O N) {tx : Nat} (hL : LM0 J tx lw) {c k : Nat} (hc : c < 4) (hk : k < 6) : ∃ J' L', f12_learnsOf n J L O 331 (nI tx) (nI c) (nI k) = some (nI (leN N lw c k (Hd N c k)), J', L') ∧ KN J J' := by
  have hb := hB.2.2.2.2.2.2.1 c k hc hk
  have s7 := hB.2.2.2.2.2.2.2.2.1
  obtain ⟨J1, a1, a2, a3, a4, a5, a6, a7⟩ := m_nameChild hO hM hB hc hk
  have hM1 := MV_fr hM (a2 332 (by omega))
  have hL2 : LM0 J1 tx lw := LM_fr hL (a2 334 (by omega))
  obtain ⟨J3, L3, q1, q2⟩ := m_says (L := L) (s := 1) (M := 99) (w := 3) (e0 := eL N c k (Hd N c k)) hn hO hB hM1 hL2 (by omega) (by omega) (by omega) (eN_ok hB (fun j hj => by
    show (if j = 0 then _ else _) ≤ 9999
    repeat' split
    all_goals omega)) rfl (fun j hj => by
    have : j = 0 ∨ j = 1 ∨ j = 2 ∨ j = 3 ∨ j = 4 ∨ j = 5 ∨ j = 6 := by have := okN_lt hj; omega
    rcases this with rfl | rfl | rfl | rfl | rfl | rfl | rfl
    · show _ = iV ((N 7 : Nat) : Int); rw [iV_n (by omega), a3]
    · show _ = iV ((k : Nat) : Int); rw [iV_n (by omega), a4]
    · show _ = iV ((c : Nat) : Int); rw [iV_n (by omega), a5]
    · show _ = iV ((Hd N c k : Nat) : Int); rw [iV_n (by omega), a6]
    · exact absurd hj (by decide)
    · exact absurd hj (by decide)
    · exact absurd hj (by decide))
  refine ⟨J3, L3, ?_, fun a h1 h2 => by rw [q2 a h2, a2 a h1]⟩
  have q1' : f12_says n J1 L O 331 (nI tx) 1 3 99 = some (nI (leN N lw c k (Hd N c k)), J3, L3) := q1
  unfold f12_learnsOf
  rw [a1, qb, q1', qb]
end MB
theorem KN_MF {J J' : TI} (h : KN J J') : MF J J' := ⟨fun a h1 h2 => h a (by omega) (by omega), fun k _ => by rw [h 331 (by omega) (by omega)]⟩
theorem JN_XF {I I' : TI} (h : JN I I') : XF I I' := fun a ha => h a (by omega) (by omega) (by omega)
/-! the texts, as both hold them -/
def kxs (s : Nat) : Nat := if s = 3 then 7 else if s = 4 then 3 else if s = 5 then 4 else if s = 6 then 5 else if s = 7 then 6 else s
def ClD (I : TI) (t z k s : Nat) : Prop := (s = 3 → ∃ f c, 1 ≤ c ∧ c ≤ 16 ∧ f + c ≤ z ∧ I (300 + 6 * t + 3) k = nI f ∧ I (300 + 6 * t + 4) k = nI c ∧ I 334 (1065 * t + 1 + 19 * k + 1) = nI c ∧ ∀ i, i < c → ∃ q, q ≤ 5 ∧ I (300 + 6 * t + 1) (f + i) = nI q ∧ I 334 (1065 * t + 1 + 19 * k + 2 + i) = nI q) ∧ (5 ≤ s → s ≤ 7 → ∃ a b, a < 100 ∧ b < 100 ∧ I (300 + 6 * t + 3) k = nI a ∧ I (300 + 6 * t + 4) k = nI b ∧ I 334 (1065 * t + 1 + 19 * k + 1) = nI a ∧ I 334 (1065 * t + 1 + 19 * k + 2) = nI b) ∧ (s = 8 → ∃ a, 1 ≤ a ∧ a ≤ 60 ∧ I (300 + 6 * t + 3) k = nI a ∧ I 334 (1065 * t + 1 + 19 * k + 1) = nI a)
def tX (I : TI) (t : Nat) : Prop := t < 4 ∧ ∃ nc z, ∃ so : Nat → Nat, nc ≤ 24 ∧ z ≤ 300 ∧ I (300 + 6 * t) 6 = nI nc ∧ I (300 + 6 * t) 5 = nI z ∧ I 334 (1065 * t) = nI nc ∧ (∀ k, k < nc → so k ≤ 8 ∧ I 334 (1065 * t + 1 + 19 * k) = nI (so k) ∧ I (300 + 6 * t + 2) k = nI (kxs (so k)) ∧ ClD I t z k (so k)) ∧ ∃ lw : Lws, LX I (300 + 6 * t) lw ∧ LM I t lw
theorem tXst : TXst tX := by
  intro I I' t hI h4 h
  obtain ⟨ht, h⟩ := h
  refine ⟨ht, ?_⟩
  have f0 := hI (300 + 6 * t) (by omega) (by omega)
  have f1 := hI (300 + 6 * t + 1) (by omega) (by omega)
  have f2 := hI (300 + 6 * t + 2) (by omega) (by omega)
  have f3 := hI (300 + 6 * t + 3) (by omega) (by omega)
  have f4 := hI (300 + 6 * t + 4) (by omega) (by omega)
  have f5 := hI (300 + 6 * t + 5) (by omega) (by omega)
  unfold ClD LX LM XLaw MLaw MNo MCd at *
  rw [f0, f1, f2, f3, f4, f5, h4]
  exact h
def rlX (N : TN) : Option Nat := if N 3 = 4294967295 then none else some (300 + 6 * N 3)
section RL
variable {n : Nat} {I J : TI} {L : TL} {O : TO} {N G : TN} {e f tp : Nat}
theorem x_textOf (hO : OF O) (hF : FD I N) (hN : NB N) {t : Nat} (ht : t < N 2) : f11_textOf I O 1 (nI t) = some (some (300 + 6 * t)) := by
  have f2 := hF.2.2.2.1
  have b2 : N 2 ≤ 4 := hN.2.2.1
  have o4 := (hO.2.2.2 t (by omega)).1
  simp (disch := omega) only [f11_textOf, o_1_0 hO, o_1_1 hO, o_1_2 hO, o_1_3 hO, o_1_4 hO, o_1_5 hO, o_1_6 hO, o_1_7 hO, o_1_8 hO, o_1_9 hO, o_2_0 hO, o_2_1 hO, o_2_2 hO, o_2_3 hO, o_2_4 hO, o_2_5 hO, o_3_0 hO, o_3_1 hO, o_3_2 hO, o_6_0 hO, o_6_1 hO, o_6_2 hO, o_10_0 hO, o_331_0 hO, f2, o4, qL, qb, qbl, qadd, qmul, qsubm, qdm, qsub, qdiv, qcl, qlt, qle, qeq, nltT, nltF, nleT, nleF, neqT, neqF, or_false, false_or, or_true, true_or, or_self, and_true, true_and, and_false, false_and, and_self, not_true_eq_false, not_false_eq_true, ↓reduceIte]
theorem x_ruling (hO : OF O) (hF : FD I N) (hN : NB N) : f11_ruling I O 1 = some (rlX N) := by
  have f3 := hF.2.2.2.2.1
  unfold f11_ruling rlX
  rw [o_1_0 hO, f3]
  rcases hN.2.2.2.1 with q | q
  · rw [q, if_pos rfl]
    unfold f11_textOf
    rw [if_pos (by decide)]; rfl
  · have b2 : N 2 ≤ 4 := hN.2.2.1
    rw [if_neg (by omega), x_textOf hO hF hN q]; rfl
theorem R_lw (h : R0 tX I O N G e f tp) : ∃ lw, LX0 I (rlX N) lw ∧ LM0 I (N 3) lw := by
  have hN := h.2.2.2.1
  have hX := h.2.2.2.2.2.2.2.2.2.2.2
  rcases hN.2.2.2.1 with q | q
  · refine ⟨fun _ => none, ?_, Or.inl ⟨q, fun _ => rfl⟩⟩
    unfold rlX
    rw [if_pos q]
    exact fun _ => rfl
  · have b2 : N 2 ≤ 4 := hN.2.2.1
    obtain ⟨ht, nc, z, so, -, -, -, -, -, -, lw, l1, l2⟩ := hX (N 3) q
    refine ⟨lw, ?_, Or.inr ⟨ht, l2⟩⟩
    unfold rlX
    rw [if_neg (by omega)]
    exact ⟨⟨N 3, ht, rfl⟩, l1⟩
theorem R_lt (h : R0 tX I O N G e f tp) {t : Nat} (ht : t < N 2) : ∃ lw, LX0 I (some (300 + 6 * t)) lw ∧ LM0 I t lw := by
  obtain ⟨h4, nc, z, so, -, -, -, -, -, -, lw, l1, l2⟩ := h.2.2.2.2.2.2.2.2.2.2.2 t ht
  exact ⟨lw, ⟨⟨t, h4, rfl⟩, l1⟩, Or.inr ⟨h4, l2⟩⟩
theorem w3 : (3 < 283 ∧ 4 < 283 ∧ 5 < 283 ∧ 6 < 283 ∧ 7 < 283 ∧ 8 < 283) := by decide
theorem s_at (hn : 100000 ≤ n) (h : RE tX I O) (L : TL) (p1 p2 p3 : Int32) : ∃ (v : Int32) (I1 I2 : TI) (L2 : TL), f11_at n I O 1 p1 p2 p3 = some (v, I1) ∧ f12_at n I1 L O 331 p1 p2 p3 = some (v, I2, L2) ∧ RE tX I2 O := by
  obtain ⟨N, G, e, f, tp, h⟩ := h
  have hO := h.1
  have hV := RW_WV hO h.2.2.2.2.2.2.1
  have hN := h.2.2.2.1
  have hB := NB_WB hN
  have hM := h.2.1
  have hF := RW_fd h.2.2.2.2.2.2.1
  have b0 : N 0 ≤ 5 := hB.1
  have b1 : N 1 ≤ 4 := hB.2.1
  by_cases h1 : inR p1 (N 0)
  · obtain ⟨r, hr, rfl⟩ := inR_of h1
    by_cases h2 : inR p2 (Ln N r)
    · obtain ⟨p, hp, rfl⟩ := inR_of h2
      obtain ⟨p5, p16⟩ := place_lt hB hr hp
      have ex := x_hasPlace hV hB hr hp
      have em := m_isPlace hM hB hr hp
      have wb := hB.2.2.2.2.2.1 r p p5 p16
      by_cases z0 : p3 = 0
      · have z0' : p3 = nI 0 := z0
        refine ⟨nI (K N r p), I, I, L, ?_, ?_, N, G, e, f, tp, h⟩
        · simp (disch := omega) only [f11_at, o_1_0 hO, o_1_1 hO, o_1_2 hO, o_1_3 hO, o_1_4 hO, o_1_5 hO, o_1_6 hO, o_1_7 hO, o_1_8 hO, o_1_9 hO, o_2_0 hO, o_2_1 hO, o_2_2 hO, o_2_3 hO, o_2_4 hO, o_2_5 hO, o_3_0 hO, o_3_1 hO, o_3_2 hO, o_6_0 hO, o_6_1 hO, o_6_2 hO, o_10_0 hO, o_331_0 hO, ex, z0', x_keyAt hV hB hr hp, qL, qb, qbl, qadd, qmul, qsubm, qdm, qsub, qdiv, qcl, qlt, qle, qeq, nltT, nltF, nleT, nleF, neqT, neqF, or_false, false_or, or_true, true_or, or_self, and_true, true_and, and_false, false_and, and_self, not_true_eq_false, not_false_eq_true, ↓reduceIte]
        · simp (disch := omega) only [f12_at, em, z0', m_keyOf hM p5 p16, qL, qb, qbl, qadd, qmul, qsubm, qdm, qsub, qdiv, qcl, qlt, qle, qeq, nltT, nltF, nleT, nleF, neqT, neqF, or_false, false_or, or_true, true_or, or_self, and_true, true_and, and_false, false_and, and_self, not_true_eq_false, not_false_eq_true, ↓reduceIte]
      have z0' : ¬ p3 = nI 0 := z0
      by_cases z1 : p3 = 1
      · have z1' : p3 = nI 1 := z1
        refine ⟨nI (Wr N r p), I, I, L, ?_, ?_, N, G, e, f, tp, h⟩
        · simp (disch := omega) only [f11_at, o_1_0 hO, o_1_1 hO, o_1_2 hO, o_1_3 hO, o_1_4 hO, o_1_5 hO, o_1_6 hO, o_1_7 hO, o_1_8 hO, o_1_9 hO, o_2_0 hO, o_2_1 hO, o_2_2 hO, o_2_3 hO, o_2_4 hO, o_2_5 hO, o_3_0 hO, o_3_1 hO, o_3_2 hO, o_6_0 hO, o_6_1 hO, o_6_2 hO, o_10_0 hO, o_331_0 hO, ex, z1', x_wearAt hV hB hr hp, qL, qb, qbl, qadd, qmul, qsubm, qdm, qsub, qdiv, qcl, qlt, qle, qeq, nltT, nltF, nleT, nleF, neqT, neqF, or_false, false_or, or_true, true_or, or_self, and_true, true_and, and_false, false_and, and_self, not_true_eq_false, not_false_eq_true, ↓reduceIte]
        · simp (disch := omega) only [f12_at, em, z1', m_wearOf hM p5 p16, qL, qb, qbl, qadd, qmul, qsubm, qdm, qsub, qdiv, qcl, qlt, qle, qeq, nltT, nltF, nleT, nleF, neqT, neqF, or_false, false_or, or_true, true_or, or_self, and_true, true_and, and_false, false_and, and_self, not_true_eq_false, not_false_eq_true, ↓reduceIte]
      have z1' : ¬ p3 = nI 1 := z1
      by_cases z2 : p3 = 2
      · have z2' : p3 = nI 2 := z2
        obtain ⟨lw, l1, l2⟩ := R_lw h
        obtain ⟨I1, e1, x1⟩ := x_wears hn hO hB l1 hV w3 hr hp (w := Wr N r p) (by omega)
        have r1 := R0_x tXst h (JN_XF x1)
        have hM1 : MV I1 O N := r1.2.1
        obtain ⟨I2, L2, e2, x2⟩ := m_wearsOf (L := L) hn hO hB hM1 (LM_fr l2 (x1 334 (by omega) (by omega) (by omega))) hr hp
        have em1 := m_isPlace hM1 hB hr hp
        refine ⟨nI (weN N lw r p (Wr N r p)), I1, I2, L2, ?_, ?_, N, G, e, f, tp, R0_m tXst r1 (KN_MF x2)⟩
        · simp (disch := omega) only [f11_at, o_1_0 hO, o_1_1 hO, o_1_2 hO, o_1_3 hO, o_1_4 hO, o_1_5 hO, o_1_6 hO, o_1_7 hO, o_1_8 hO, o_1_9 hO, o_2_0 hO, o_2_1 hO, o_2_2 hO, o_2_3 hO, o_2_4 hO, o_2_5 hO, o_3_0 hO, o_3_1 hO, o_3_2 hO, o_6_0 hO, o_6_1 hO, o_6_2 hO, o_10_0 hO, o_331_0 hO, ex, z2', x_ruling hO hF hN, x_wearAt hV hB hr hp, e1, qL, qb, qbl, qadd, qmul, qsubm, qdm, qsub, qdiv, qcl, qlt, qle, qeq, nltT, nltF, nleT, nleF, neqT, neqF, or_false, false_or, or_true, true_or, or_self, and_true, true_and, and_false, false_and, and_self, not_true_eq_false, not_false_eq_true, ↓reduceIte]
        · simp (disch := omega) only [f12_at, em1, z2', e2, qL, qb, qbl, qadd, qmul, qsubm, qdm, qsub, qdiv, qcl, qlt, qle, qeq, nltT, nltF, nleT, nleF, neqT, neqF, or_false, false_or, or_true, true_or, or_self, and_true, true_and, and_false, false_and, and_self, not_true_eq_false, not_false_eq_true, ↓reduceIte]
      have z2' : ¬ p3 = nI 2 := z2
      refine ⟨-1, I, I, L, ?_, ?_, N, G, e, f, tp, h⟩
      · simp (disch := omega) only [f11_at, o_1_0 hO, o_1_1 hO, o_1_2 hO, o_1_3 hO, o_1_4 hO, o_1_5 hO, o_1_6 hO, o_1_7 hO, o_1_8 hO, o_1_9 hO, o_2_0 hO, o_2_1 hO, o_2_2 hO, o_2_3 hO, o_2_4 hO, o_2_5 hO, o_3_0 hO, o_3_1 hO, o_3_2 hO, o_6_0 hO, o_6_1 hO, o_6_2 hO, o_10_0 hO, o_331_0 hO, ex, z0', z1', z2', qL, qb, qbl, qadd, qmul, qsubm, qdm, qsub, qdiv, qcl, qlt, qle, qeq, nltT, nltF, nleT, nleF, neqT, neqF, or_false, false_or, or_true, true_or, or_self, and_true, true_and, and_false, false_and, and_self, not_true_eq_false, not_false_eq_true, ↓reduceIte]
      · simp (disch := omega) only [f12_at, em, z0', z1', z2', qL, qb, qbl, qadd, qmul, qsubm, qdm, qsub, qdiv, qcl, qlt, qle, qeq, nltT, nltF, nleT, nleF, neqT, neqF, or_false, false_or, or_true, true_or, or_self, and_true, true_and, and_false, false_and, and_self, not_true_eq_false, not_false_eq_true, ↓reduceIte]
    · refine ⟨-1, I, I, L, ?_, ?_, N, G, e, f, tp, h⟩
      · simp (disch := omega) only [f11_at, o_1_0 hO, o_1_1 hO, o_1_2 hO, o_1_3 hO, o_1_4 hO, o_1_5 hO, o_1_6 hO, o_1_7 hO, o_1_8 hO, o_1_9 hO, o_2_0 hO, o_2_1 hO, o_2_2 hO, o_2_3 hO, o_2_4 hO, o_2_5 hO, o_3_0 hO, o_3_1 hO, o_3_2 hO, o_6_0 hO, o_6_1 hO, o_6_2 hO, o_10_0 hO, o_331_0 hO, x_noPlace hV hB hr h2, qL, qb, qbl, qadd, qmul, qsubm, qdm, qsub, qdiv, qcl, qlt, qle, qeq, nltT, nltF, nleT, nleF, neqT, neqF, or_false, false_or, or_true, true_or, or_self, and_true, true_and, and_false, false_and, and_self, not_true_eq_false, not_false_eq_true, ↓reduceIte]
      · simp (disch := omega) only [f12_at, m_noPlace hM hB hr h2, qL, qb, qbl, qadd, qmul, qsubm, qdm, qsub, qdiv, qcl, qlt, qle, qeq, nltT, nltF, nleT, nleF, neqT, neqF, or_false, false_or, or_true, true_or, or_self, and_true, true_and, and_false, false_and, and_self, not_true_eq_false, not_false_eq_true, ↓reduceIte]
  · refine ⟨-1, I, I, L, ?_, ?_, N, G, e, f, tp, h⟩
    · simp (disch := omega) only [f11_at, o_1_0 hO, o_1_1 hO, o_1_2 hO, o_1_3 hO, o_1_4 hO, o_1_5 hO, o_1_6 hO, o_1_7 hO, o_1_8 hO, o_1_9 hO, o_2_0 hO, o_2_1 hO, o_2_2 hO, o_2_3 hO, o_2_4 hO, o_2_5 hO, o_3_0 hO, o_3_1 hO, o_3_2 hO, o_6_0 hO, o_6_1 hO, o_6_2 hO, o_10_0 hO, o_331_0 hO, x_noPlaceR hV hB h1, qL, qb, qbl, qadd, qmul, qsubm, qdm, qsub, qdiv, qcl, qlt, qle, qeq, nltT, nltF, nleT, nleF, neqT, neqF, or_false, false_or, or_true, true_or, or_self, and_true, true_and, and_false, false_and, and_self, not_true_eq_false, not_false_eq_true, ↓reduceIte]
    · simp (disch := omega) only [f12_at, m_noPlaceR hM hB h1, qL, qb, qbl, qadd, qmul, qsubm, qdm, qsub, qdiv, qcl, qlt, qle, qeq, nltT, nltF, nleT, nleF, neqT, neqF, or_false, false_or, or_true, true_or, or_self, and_true, true_and, and_false, false_and, and_self, not_true_eq_false, not_false_eq_true, ↓reduceIte]
theorem s_law (hn : 100000 ≤ n) (h : RE tX I O) (L : TL) (p1 p2 p3 b4 : Int32) : ∃ (v : Int32) (I1 I2 : TI) (L2 : TL), f11_law n I O 1 p1 p2 p3 b4 = some (v, I1) ∧ f12_law n I1 L O 331 p1 p2 p3 b4 = some (v, I2, L2) ∧ RE tX I2 O := by
  obtain ⟨N, G, e, f, tp, h⟩ := h
  have hO := h.1
  have hV := RW_WV hO h.2.2.2.2.2.2.1
  have hN := h.2.2.2.1
  have hB := NB_WB hN
  have hM := h.2.1
  have hF := RW_fd h.2.2.2.2.2.2.1
  have b0 : N 0 ≤ 5 := hB.1
  have b1 : N 1 ≤ 4 := hB.2.1
  by_cases h1 : inR p1 (N 0)
  · obtain ⟨r, hr, rfl⟩ := inR_of h1
    by_cases h2 : inR p2 (Ln N r)
    · obtain ⟨p, hp, rfl⟩ := inR_of h2
      obtain ⟨p5, p16⟩ := place_lt hB hr hp
      have ex := x_hasPlace hV hB hr hp
      have em := m_isPlace hM hB hr hp
      have kb := hB.2.2.2.2.1 r p p5 p16
      by_cases h3 : inR p3 (N 1)
      · obtain ⟨c, hc, rfl⟩ := inR_of h3
        have hb := hB.2.2.2.2.2.2.1 c (K N r p) (by omega) (by omega)
        obtain ⟨lw, l1, l2⟩ := R_lw h
        by_cases z0 : b4 = 0
        · have z0' : b4 = nI 0 := z0
          obtain ⟨I1, e1, x1⟩ := x_learns hn hO hB l1 hV w3 (c := c) (k := K N r p) (h := Hd N c (K N r p)) (by omega) (by omega) hb
          have r1 := R0_x tXst h (JN_XF x1)
          have hM1 : MV I1 O N := r1.2.1
          obtain ⟨I2, L2, e2, x2⟩ := m_learnsOf (L := L) hn hO hB hM1 (LM_fr l2 (x1 334 (by omega) (by omega) (by omega))) (c := c) (k := K N r p) (by omega) (by omega)
          refine ⟨nI (leN N lw c (K N r p) (Hd N c (K N r p))), I1, I2, L2, ?_, ?_, N, G, e, f, tp, R0_m tXst r1 (KN_MF x2)⟩
          · simp (disch := omega) only [f11_law, o_1_0 hO, o_1_1 hO, o_1_2 hO, o_1_3 hO, o_1_4 hO, o_1_5 hO, o_1_6 hO, o_1_7 hO, o_1_8 hO, o_1_9 hO, o_2_0 hO, o_2_1 hO, o_2_2 hO, o_2_3 hO, o_2_4 hO, o_2_5 hO, o_3_0 hO, o_3_1 hO, o_3_2 hO, o_6_0 hO, o_6_1 hO, o_6_2 hO, o_10_0 hO, o_331_0 hO, ex, x_hasChild hV hB hc, z0', x_ruling hO hF hN, x_keyAt hV hB hr hp, x_timesHeard hV hB hc (show K N r p < 6 by omega), e1, qL, qb, qbl, qadd, qmul, qsubm, qdm, qsub, qdiv, qcl, qlt, qle, qeq, nltT, nltF, nleT, nleF, neqT, neqF, or_false, false_or, or_true, true_or, or_self, and_true, true_and, and_false, false_and, and_self, not_true_eq_false, not_false_eq_true, ↓reduceIte]
          · simp (disch := omega) only [f12_law, m_isPlace hM1 hB hr hp, m_isChild hM1 hB hc, z0', m_keyOf hM1 p5 p16, hM1.1, hM1.2 3, e2, qL, qb, qbl, qadd, qmul, qsubm, qdm, qsub, qdiv, qcl, qlt, qle, qeq, nltT, nltF, nleT, nleF, neqT, neqF, or_false, false_or, or_true, true_or, or_self, and_true, true_and, and_false, false_and, and_self, not_true_eq_false, not_false_eq_true, ↓reduceIte]
        · have z0' : ¬ b4 = nI 0 := z0
          obtain ⟨I1, e1, x1⟩ := x_blurs hn hO hB l1 hV w3 hr hp hc
          have r1 := R0_x tXst h (JN_XF x1)
          have hM1 : MV I1 O N := r1.2.1
          obtain ⟨I2, L2, e2, x2⟩ := m_blursOf (L := L) hn hO hB hM1 (LM_fr l2 (x1 334 (by omega) (by omega) (by omega))) hr hp hc
          refine ⟨nI (blN N lw r p c), I1, I2, L2, ?_, ?_, N, G, e, f, tp, R0_m tXst r1 (KN_MF x2)⟩
          · simp (disch := omega) only [f11_law, o_1_0 hO, o_1_1 hO, o_1_2 hO, o_1_3 hO, o_1_4 hO, o_1_5 hO, o_1_6 hO, o_1_7 hO, o_1_8 hO, o_1_9 hO, o_2_0 hO, o_2_1 hO, o_2_2 hO, o_2_3 hO, o_2_4 hO, o_2_5 hO, o_3_0 hO, o_3_1 hO, o_3_2 hO, o_6_0 hO, o_6_1 hO, o_6_2 hO, o_10_0 hO, o_331_0 hO, ex, x_hasChild hV hB hc, z0', x_ruling hO hF hN, e1, qL, qb, qbl, qadd, qmul, qsubm, qdm, qsub, qdiv, qcl, qlt, qle, qeq, nltT, nltF, nleT, nleF, neqT, neqF, or_false, false_or, or_true, true_or, or_self, and_true, true_and, and_false, false_and, and_self, not_true_eq_false, not_false_eq_true, ↓reduceIte]
          · simp (disch := omega) only [f12_law, m_isPlace hM1 hB hr hp, m_isChild hM1 hB hc, z0', e2, qL, qb, qbl, qadd, qmul, qsubm, qdm, qsub, qdiv, qcl, qlt, qle, qeq, nltT, nltF, nleT, nleF, neqT, neqF, or_false, false_or, or_true, true_or, or_self, and_true, true_and, and_false, false_and, and_self, not_true_eq_false, not_false_eq_true, ↓reduceIte]
      · refine ⟨-1, I, I, L, ?_, ?_, N, G, e, f, tp, h⟩
        · simp (disch := omega) only [f11_law, o_1_0 hO, o_1_1 hO, o_1_2 hO, o_1_3 hO, o_1_4 hO, o_1_5 hO, o_1_6 hO, o_1_7 hO, o_1_8 hO, o_1_9 hO, o_2_0 hO, o_2_1 hO, o_2_2 hO, o_2_3 hO, o_2_4 hO, o_2_5 hO, o_3_0 hO, o_3_1 hO, o_3_2 hO, o_6_0 hO, o_6_1 hO, o_6_2 hO, o_10_0 hO, o_331_0 hO, ex, x_noChild hV hB h3, qL, qb, qbl, qadd, qmul, qsubm, qdm, qsub, qdiv, qcl, qlt, qle, qeq, nltT, nltF, nleT, nleF, neqT, neqF, or_false, false_or, or_true, true_or, or_self, and_true, true_and, and_false, false_and, and_self, not_true_eq_false, not_false_eq_true, ↓reduceIte]
        · simp (disch := omega) only [f12_law, em, m_noChild hM hB h3, qL, qb, qbl, qadd, qmul, qsubm, qdm, qsub, qdiv, qcl, qlt, qle, qeq, nltT, nltF, nleT, nleF, neqT, neqF, or_false, false_or, or_true, true_or, or_self, and_true, true_and, and_false, false_and, and_self, not_true_eq_false, not_false_eq_true, ↓reduceIte]
    · refine ⟨-1, I, I, L, ?_, ?_, N, G, e, f, tp, h⟩
      · simp (disch := omega) only [f11_law, o_1_0 hO, o_1_1 hO, o_1_2 hO, o_1_3 hO, o_1_4 hO, o_1_5 hO, o_1_6 hO, o_1_7 hO, o_1_8 hO, o_1_9 hO, o_2_0 hO, o_2_1 hO, o_2_2 hO, o_2_3 hO, o_2_4 hO, o_2_5 hO, o_3_0 hO, o_3_1 hO, o_3_2 hO, o_6_0 hO, o_6_1 hO, o_6_2 hO, o_10_0 hO, o_331_0 hO, x_noPlace hV hB hr h2, qL, qb, qbl, qadd, qmul, qsubm, qdm, qsub, qdiv, qcl, qlt, qle, qeq, nltT, nltF, nleT, nleF, neqT, neqF, or_false, false_or, or_true, true_or, or_self, and_true, true_and, and_false, false_and, and_self, not_true_eq_false, not_false_eq_true, ↓reduceIte]
      · simp (disch := omega) only [f12_law, m_noPlace hM hB hr h2, qL, qb, qbl, qadd, qmul, qsubm, qdm, qsub, qdiv, qcl, qlt, qle, qeq, nltT, nltF, nleT, nleF, neqT, neqF, or_false, false_or, or_true, true_or, or_self, and_true, true_and, and_false, false_and, and_self, not_true_eq_false, not_false_eq_true, ↓reduceIte]
  · refine ⟨-1, I, I, L, ?_, ?_, N, G, e, f, tp, h⟩
    · simp (disch := omega) only [f11_law, o_1_0 hO, o_1_1 hO, o_1_2 hO, o_1_3 hO, o_1_4 hO, o_1_5 hO, o_1_6 hO, o_1_7 hO, o_1_8 hO, o_1_9 hO, o_2_0 hO, o_2_1 hO, o_2_2 hO, o_2_3 hO, o_2_4 hO, o_2_5 hO, o_3_0 hO, o_3_1 hO, o_3_2 hO, o_6_0 hO, o_6_1 hO, o_6_2 hO, o_10_0 hO, o_331_0 hO, x_noPlaceR hV hB h1, qL, qb, qbl, qadd, qmul, qsubm, qdm, qsub, qdiv, qcl, qlt, qle, qeq, nltT, nltF, nleT, nleF, neqT, neqF, or_false, false_or, or_true, true_or, or_self, and_true, true_and, and_false, false_and, and_self, not_true_eq_false, not_false_eq_true, ↓reduceIte]
    · simp (disch := omega) only [f12_law, m_noPlaceR hM hB h1, qL, qb, qbl, qadd, qmul, qsubm, qdm, qsub, qdiv, qcl, qlt, qle, qeq, nltT, nltF, nleT, nleF, neqT, neqF, or_false, false_or, or_true, true_or, or_self, and_true, true_and, and_false, false_and, and_self, not_true_eq_false, not_false_eq_true, ↓reduceIte]
end RL
