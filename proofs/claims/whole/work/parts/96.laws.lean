/-! blurs, learns, wears: the class -/
def JN (I I' : TI) : Prop := ∀ a, a ≠ 283 → a ≠ 284 → a ≠ 285 → I' a = I a
theorem JN_r (I : TI) : JN I I := fun _ _ _ _ => rfl
theorem JN_t {I J H : TI} (h : JN I J) (k : JN J H) : JN I H := fun a h1 h2 h3 => (k a h1 h2 h3).trans (h a h1 h2 h3)
theorem WV_g {I I' : TI} {O : TO} {N : TN} {wa sz ky mo wr hr : Nat} (h : WV I O wa sz ky mo wr hr N) (h1 : I' wa = I wa) (h2 : I' sz = I sz) (h3 : I' ky = I ky) (h4 : I' mo = I mo) (h5 : I' wr = I wr) (h6 : I' hr = I hr) : WV I' O wa sz ky mo wr hr N := by
  unfold WV at *
  rw [h1, h2, h3, h4, h5, h6]; exact h
section BX
variable {n : Nat} {I : TI} {O : TO} {N : TN} {wa sz ky mo wr hr : Nat} {sx : Option Nat} {lw : Lws}
theorem x_hasLaw (hO : OF O) {t s : Nat} (ht : t < 4) (hs : s < 3) (h : LX I (300 + 6 * t) lw) : f7_hasLaw I O (300 + 6 * t) (nI s) = some (if (lw s).isSome then 1 else 0) := by
  obtain ⟨o0, o1, o2, o3, o4⟩ := sc_o hO ht
  have e1 : ∀ x, I (300 + 6 * t + 5) s = x → f7_lawAt I O (300 + 6 * t) (nI s) = some x := by
    intro x hx
    simp (disch := omega) only [f7_lawAt, o4, hx, qL, qb, qbl, qadd, qmul, qsubm, qdm, qsub, qdiv, qcl, qlt, qle, qeq, nltT, nltF, nleT, nleF, neqT, neqF, or_false, false_or, or_true, true_or, or_self, and_true, true_and, and_false, false_and, and_self, not_true_eq_false, not_false_eq_true, ↓reduceIte]
  unfold f7_hasLaw
  rcases h s hs with ⟨h1, h2⟩ | ⟨v, h1, h2⟩
  · rw [e1 _ h2, qb, if_pos rfl, h1]; rfl
  · obtain ⟨k, nc, z0, z1, z, st, a1, a2, a3, a4, -⟩ := h2
    rw [e1 _ a1, qb, if_neg, h1]
    · rfl
    · intro q
      have q' := i_eq.mp q
      rw [qtoI (by omega), lm1] at q'; omega
theorem x_blurs (hn : 100000 ≤ n) (hO : OF O) (hB : WB N) (hL : LX0 I sx lw) (hV : WV I O wa sz ky mo wr hr N) (hw : wa < 283 ∧ sz < 283 ∧ ky < 283 ∧ mo < 283 ∧ wr < 283 ∧ hr < 283) {r p c : Nat} (hr' : r < N 0) (hp : p < Ln N r) (hc : c < N 1) : ∃ I', f1_blurs n I O 283 sx wa (nI r) (nI p) (nI c) = some (nI (blN N lw r p c), I') ∧ JN I I' := by
  have b1 := hB.1
  have b2 := hB.2.1
  obtain ⟨p5, p16⟩ := place_lt hB hr' hp
  have ew := x_wearAt hV hB hr' hp
  have wb := hB.2.2.2.2.2.1 r p p5 p16
  have kb := hB.2.2.2.2.1 r p p5 p16
  have hb := hB.2.2.2.2.2.2.1 c (K N r p) (by omega) (by omega)
  have s7 := hB.2.2.2.2.2.2.2.2.1
  have d2 : nI (Wr N r p) / 2 = nI (Wr N r p / 2) := pk_div (d := 2) (by omega) (by omega) (by omega)
  unfold blN f1_blurs
  rw [ew, qb]
  unfold LX0 at hL
  cases sx with
  | none =>
    rw [hL 0]
    exact ⟨I, by rw [← d2], JN_r I⟩
  | some sc =>
    obtain ⟨⟨t, ht, rfl⟩, hL⟩ := hL
    have el := x_hasLaw hO (s := 0) ht (by omega) hL
    show ∃ I', (f7_hasLaw I O (300 + 6 * t) (nI 0)).bind _ = _ ∧ _
    rw [el, qb]
    rcases hL 0 (by omega) with ⟨h1, h2⟩ | ⟨v, h1, h2⟩
    · rw [h1]
      exact ⟨I, by rw [if_pos (by rfl), ← d2], JN_r I⟩
    · have hz : ¬ ((if (some v).isSome = true then (1 : Int32) else 0) = 0) := by
        show ¬ ((1 : Int32) = 0)
        decide
      rw [h1, if_neg hz, x_keyAt hV hB hr' hp, qb]
      have o1 := o_283_1 hO
      have om : rO O wa 2 = mo := hV.1.2.2.1
      have vs : I mo 4 = nI (N 7) := hV.2.2.2.2.2.2.2.1
      let I1 := sI (sI I 285 1 (nI (N 7))) 285 2 (nI (K N r p))
      have f1 : ∀ a, a ≠ 285 → I1 a = I a := fun a ha => by show sI _ _ _ _ a = _; rw [sI_o _ _ ha, sI_o _ _ ha]
      have e1 : f1_nameKey I O 283 wa (nI (K N r p)) = some I1 := by
        unfold f1_nameKey
        rw [qbl, qbl, o1, om, vs]
      rw [e1, qb]
      have hV1 : WV I1 O wa sz ky mo wr hr N := WV_g hV (f1 _ (by omega)) (f1 _ (by omega)) (f1 _ (by omega)) (f1 _ (by omega)) (f1 _ (by omega)) (f1 _ (by omega))
      rw [x_timesHeard hV1 hB hc (show K N r p < 6 by omega), qb]
      let I2 := sI (sI I1 285 3 (nI c)) 285 4 (nI (Hd N c (K N r p)))
      have e2 : f1_nameChild I1 O 283 (nI c) (nI (Hd N c (K N r p))) = some I2 := by
        unfold f1_nameChild
        rw [qbl, qbl, o1]
      rw [e2, qb]
      let I3 := sI (sI (sI I2 285 0 (nI r)) 285 5 (nI p)) 285 6 (nI (Wr N r p))
      have e3 : f1_namePlace I2 O 283 (nI r) (nI p) (nI (Wr N r p)) = some I3 := by
        unfold f1_namePlace
        rw [qbl, qbl, qbl, o1]
      rw [e3, qb]
      have f3 : ∀ a, a ≠ 285 → I3 a = I a := fun a ha => by show sI _ _ _ _ a = _; rw [sI_o _ _ ha, sI_o _ _ ha, sI_o _ _ ha]; show sI _ _ _ _ a = _; rw [sI_o _ _ ha, sI_o _ _ ha]; exact f1 a ha
      have hV3 : WV I3 O wa sz ky mo wr hr N := WV_g hV (f3 _ (by omega)) (f3 _ (by omega)) (f3 _ (by omega)) (f3 _ (by omega)) (f3 _ (by omega)) (f3 _ (by omega))
      have h23 : XLaw I3 (300 + 6 * t) 0 v := by
        unfold XLaw at *
        rw [f3 _ (by omega), f3 _ (by omega), f3 _ (by omega), f3 _ (by omega), f3 _ (by omega)]; exact h2
      obtain ⟨I4, q1, q2, q3⟩ := x_eval (e0 := eB N r p c) hn hO hB ht (by omega) h23 (eN_ok hB (fun j hj => by
        show (if j = 0 then _ else _) ≤ 9999
        repeat' split
        all_goals omega)) rfl (fun k hk _ => by
        have : k = 0 ∨ k = 1 ∨ k = 2 ∨ k = 3 ∨ k = 4 ∨ k = 5 ∨ k = 6 := by omega
        rcases this with rfl | rfl | rfl | rfl | rfl | rfl | rfl
        · show _ = iV ((r : Nat) : Int); rw [iV_n (by omega)]; simp (disch := omega) only [I3, sI_s, sI_k, qL, qb, qbl, qadd, qmul, qsubm, qdm, qsub, qdiv, qcl, qlt, qle, qeq, nltT, nltF, nleT, nleF, neqT, neqF, or_false, false_or, or_true, true_or, or_self, and_true, true_and, and_false, false_and, and_self, not_true_eq_false, not_false_eq_true, ↓reduceIte]
        · show _ = iV ((N 7 : Nat) : Int); rw [iV_n (by omega)]; simp (disch := omega) only [I3, I2, I1, sI_s, sI_k, qL, qb, qbl, qadd, qmul, qsubm, qdm, qsub, qdiv, qcl, qlt, qle, qeq, nltT, nltF, nleT, nleF, neqT, neqF, or_false, false_or, or_true, true_or, or_self, and_true, true_and, and_false, false_and, and_self, not_true_eq_false, not_false_eq_true, ↓reduceIte]
        · show _ = iV ((K N r p : Nat) : Int); rw [iV_n (by omega)]; simp (disch := omega) only [I3, I2, I1, sI_s, sI_k, qL, qb, qbl, qadd, qmul, qsubm, qdm, qsub, qdiv, qcl, qlt, qle, qeq, nltT, nltF, nleT, nleF, neqT, neqF, or_false, false_or, or_true, true_or, or_self, and_true, true_and, and_false, false_and, and_self, not_true_eq_false, not_false_eq_true, ↓reduceIte]
        · show _ = iV ((c : Nat) : Int); rw [iV_n (by omega)]; simp (disch := omega) only [I3, I2, I1, sI_s, sI_k, qL, qb, qbl, qadd, qmul, qsubm, qdm, qsub, qdiv, qcl, qlt, qle, qeq, nltT, nltF, nleT, nleF, neqT, neqF, or_false, false_or, or_true, true_or, or_self, and_true, true_and, and_false, false_and, and_self, not_true_eq_false, not_false_eq_true, ↓reduceIte]
        · show _ = iV ((Hd N c (K N r p) : Nat) : Int); rw [iV_n (by omega)]; simp (disch := omega) only [I3, I2, I1, sI_s, sI_k, qL, qb, qbl, qadd, qmul, qsubm, qdm, qsub, qdiv, qcl, qlt, qle, qeq, nltT, nltF, nleT, nleF, neqT, neqF, or_false, false_or, or_true, true_or, or_self, and_true, true_and, and_false, false_and, and_self, not_true_eq_false, not_false_eq_true, ↓reduceIte]
        · show _ = iV ((p : Nat) : Int); rw [iV_n (by omega)]; simp (disch := omega) only [I3, I2, I1, sI_s, sI_k, qL, qb, qbl, qadd, qmul, qsubm, qdm, qsub, qdiv, qcl, qlt, qle, qeq, nltT, nltF, nleT, nleF, neqT, neqF, or_false, false_or, or_true, true_or, or_self, and_true, true_and, and_false, false_and, and_self, not_true_eq_false, not_false_eq_true, ↓reduceIte]
        · show _ = iV ((Wr N r p : Nat) : Int); rw [iV_n (by omega)]; simp (disch := omega) only [I3, I2, I1, sI_s, sI_k, qL, qb, qbl, qadd, qmul, qsubm, qdm, qsub, qdiv, qcl, qlt, qle, qeq, nltT, nltF, nleT, nleF, neqT, neqF, or_false, false_or, or_true, true_or, or_self, and_true, true_and, and_false, false_and, and_self, not_true_eq_false, not_false_eq_true, ↓reduceIte]) hV3 hw
      have q1' : f1_evaluate n I3 O 283 (300 + 6 * t) 0 wa = some (iV (v (eB N r p c)), I4) := q1
      refine ⟨I4, ?_, fun a h1 h2 h3 => by rw [q3.1 a h1 h2, f3 a h3]⟩
      rw [q1', qb]
      show (f1_within (nI 10) (iV (v (eB N r p c)))).bind _ = _
      rw [x_within (by omega) q2, qb]
theorem x_learns (hn : 100000 ≤ n) (hO : OF O) (hB : WB N) (hL : LX0 I sx lw) (hV : WV I O wa sz ky mo wr hr N) (hw : wa < 283 ∧ sz < 283 ∧ ky < 283 ∧ mo < 283 ∧ wr < 283 ∧ hr < 283) {c k h : Nat} (hc : c < 4) (hk : k < 6) (hh : h ≤ 99) : ∃ I', f1_learns n I O 283 sx wa (nI c) (nI k) (nI h) = some (nI (leN N lw c k h), I') ∧ JN I I' := by
  have s7 := hB.2.2.2.2.2.2.2.2.1
  unfold leN f1_learns
  unfold LX0 at hL
  cases sx with
  | none =>
    rw [hL 1]
    exact ⟨I, rfl, JN_r I⟩
  | some sc =>
    obtain ⟨⟨t, ht, rfl⟩, hL⟩ := hL
    have el := x_hasLaw hO (s := 1) ht (by omega) hL
    show ∃ I', (f7_hasLaw I O (300 + 6 * t) (nI 1)).bind _ = _ ∧ _
    rw [el, qb]
    rcases hL 1 (by omega) with ⟨h1, h2⟩ | ⟨v, h1, h2⟩
    · rw [h1]
      exact ⟨I, by rw [if_pos (by rfl)]; rfl, JN_r I⟩
    · have hz : ¬ ((if (some v).isSome = true then (1 : Int32) else 0) = 0) := by
        show ¬ ((1 : Int32) = 0)
        decide
      rw [h1, if_neg hz]
      have o1 := o_283_1 hO
      have om : rO O wa 2 = mo := hV.1.2.2.1
      have vs : I mo 4 = nI (N 7) := hV.2.2.2.2.2.2.2.1
      let I1 := sI (sI I 285 1 (nI (N 7))) 285 2 (nI k)
      have f1 : ∀ a, a ≠ 285 → I1 a = I a := fun a ha => by show sI _ _ _ _ a = _; rw [sI_o _ _ ha, sI_o _ _ ha]
      have e1 : f1_nameKey I O 283 wa (nI k) = some I1 := by
        unfold f1_nameKey
        rw [qbl, qbl, o1, om, vs]
      rw [e1, qb]
      let I3 := sI (sI I1 285 3 (nI c)) 285 4 (nI h)
      have e2 : f1_nameChild I1 O 283 (nI c) (nI h) = some I3 := by
        unfold f1_nameChild
        rw [qbl, qbl, o1]
      rw [e2, qb]
      have f3 : ∀ a, a ≠ 285 → I3 a = I a := fun a ha => by show sI _ _ _ _ a = _; rw [sI_o _ _ ha, sI_o _ _ ha]; exact f1 a ha
      have hV3 : WV I3 O wa sz ky mo wr hr N := WV_g hV (f3 _ (by omega)) (f3 _ (by omega)) (f3 _ (by omega)) (f3 _ (by omega)) (f3 _ (by omega)) (f3 _ (by omega))
      have h23 : XLaw I3 (300 + 6 * t) 1 v := by
        unfold XLaw at *
        rw [f3 _ (by omega), f3 _ (by omega), f3 _ (by omega), f3 _ (by omega), f3 _ (by omega)]; exact h2
      obtain ⟨I4, q1, q2, q3⟩ := x_eval (e0 := eL N c k h) hn hO hB ht (by omega) h23 (eN_ok hB (fun j hj => by
        show (if j = 0 then _ else _) ≤ 9999
        repeat' split
        all_goals omega)) rfl (fun k' hk' ho => by
        have : k' = 0 ∨ k' = 1 ∨ k' = 2 ∨ k' = 3 ∨ k' = 4 ∨ k' = 5 ∨ k' = 6 := by omega
        rcases this with rfl | rfl | rfl | rfl | rfl | rfl | rfl
        · exact absurd ho (by decide)
        · show _ = iV ((N 7 : Nat) : Int); rw [iV_n (by omega)]; simp (disch := omega) only [I3, I1, sI_s, sI_k, qL, qb, qbl, qadd, qmul, qsubm, qdm, qsub, qdiv, qcl, qlt, qle, qeq, nltT, nltF, nleT, nleF, neqT, neqF, or_false, false_or, or_true, true_or, or_self, and_true, true_and, and_false, false_and, and_self, not_true_eq_false, not_false_eq_true, ↓reduceIte]
        · show _ = iV ((k : Nat) : Int); rw [iV_n (by omega)]; simp (disch := omega) only [I3, I1, sI_s, sI_k, qL, qb, qbl, qadd, qmul, qsubm, qdm, qsub, qdiv, qcl, qlt, qle, qeq, nltT, nltF, nleT, nleF, neqT, neqF, or_false, false_or, or_true, true_or, or_self, and_true, true_and, and_false, false_and, and_self, not_true_eq_false, not_false_eq_true, ↓reduceIte]
        · show _ = iV ((c : Nat) : Int); rw [iV_n (by omega)]; simp (disch := omega) only [I3, I1, sI_s, sI_k, qL, qb, qbl, qadd, qmul, qsubm, qdm, qsub, qdiv, qcl, qlt, qle, qeq, nltT, nltF, nleT, nleF, neqT, neqF, or_false, false_or, or_true, true_or, or_self, and_true, true_and, and_false, false_and, and_self, not_true_eq_false, not_false_eq_true, ↓reduceIte]
        · show _ = iV ((h : Nat) : Int); rw [iV_n (by omega)]; simp (disch := omega) only [I3, I1, sI_s, sI_k, qL, qb, qbl, qadd, qmul, qsubm, qdm, qsub, qdiv, qcl, qlt, qle, qeq, nltT, nltF, nleT, nleF, neqT, neqF, or_false, false_or, or_true, true_or, or_self, and_true, true_and, and_false, false_and, and_self, not_true_eq_false, not_false_eq_true, ↓reduceIte]
        · exact absurd ho (by decide)
        · exact absurd ho (by decide)) hV3 hw
      have q1' : f1_evaluate n I3 O 283 (300 + 6 * t) 1 wa = some (iV (v (eL N c k h)), I4) := q1
      refine ⟨I4, ?_, fun a h1 h2 h3 => by rw [q3.1 a h1 h2, f3 a h3]⟩
      rw [q1', qb]
      show (f1_within (nI 99) (iV (v (eL N c k h)))).bind _ = _
      rw [x_within (by omega) q2, qb]
theorem x_wears (hn : 100000 ≤ n) (hO : OF O) (hB : WB N) (hL : LX0 I sx lw) (hV : WV I O wa sz ky mo wr hr N) (hw : wa < 283 ∧ sz < 283 ∧ ky < 283 ∧ mo < 283 ∧ wr < 283 ∧ hr < 283) {r p w : Nat} (hr' : r < N 0) (hp : p < Ln N r) (hww : w ≤ 100) : ∃ I', f1_wears n I O 283 sx wa (nI r) (nI p) (nI w) = some (nI (weN N lw r p w), I') ∧ JN I I' := by
  have b1 := hB.1
  obtain ⟨p5, p16⟩ := place_lt hB hr' hp
  have kb := hB.2.2.2.2.1 r p p5 p16
  have s7 := hB.2.2.2.2.2.2.2.2.1
  unfold weN f1_wears
  unfold LX0 at hL
  cases sx with
  | none =>
    rw [hL 2]
    exact ⟨I, rfl, JN_r I⟩
  | some sc =>
    obtain ⟨⟨t, ht, rfl⟩, hL⟩ := hL
    have el := x_hasLaw hO (s := 2) ht (by omega) hL
    show ∃ I', (f7_hasLaw I O (300 + 6 * t) (nI 2)).bind _ = _ ∧ _
    rw [el, qb]
    rcases hL 2 (by omega) with ⟨h1, h2⟩ | ⟨v, h1, h2⟩
    · rw [h1]
      exact ⟨I, by rw [if_pos (by rfl)]; rfl, JN_r I⟩
    · have hz : ¬ ((if (some v).isSome = true then (1 : Int32) else 0) = 0) := by
        show ¬ ((1 : Int32) = 0)
        decide
      rw [h1, if_neg hz, x_keyAt hV hB hr' hp, qb]
      have o1 := o_283_1 hO
      have om : rO O wa 2 = mo := hV.1.2.2.1
      have vs : I mo 4 = nI (N 7) := hV.2.2.2.2.2.2.2.1
      let I1 := sI (sI I 285 1 (nI (N 7))) 285 2 (nI (K N r p))
      have f1 : ∀ a, a ≠ 285 → I1 a = I a := fun a ha => by show sI _ _ _ _ a = _; rw [sI_o _ _ ha, sI_o _ _ ha]
      have e1 : f1_nameKey I O 283 wa (nI (K N r p)) = some I1 := by
        unfold f1_nameKey
        rw [qbl, qbl, o1, om, vs]
      rw [e1, qb]
      let I3 := sI (sI (sI I1 285 0 (nI r)) 285 5 (nI p)) 285 6 (nI w)
      have e3 : f1_namePlace I1 O 283 (nI r) (nI p) (nI w) = some I3 := by
        unfold f1_namePlace
        rw [qbl, qbl, qbl, o1]
      rw [e3, qb]
      have f3 : ∀ a, a ≠ 285 → I3 a = I a := fun a ha => by show sI _ _ _ _ a = _; rw [sI_o _ _ ha, sI_o _ _ ha, sI_o _ _ ha]; exact f1 a ha
      have hV3 : WV I3 O wa sz ky mo wr hr N := WV_g hV (f3 _ (by omega)) (f3 _ (by omega)) (f3 _ (by omega)) (f3 _ (by omega)) (f3 _ (by omega)) (f3 _ (by omega))
      have h23 : XLaw I3 (300 + 6 * t) 2 v := by
        unfold XLaw at *
        rw [f3 _ (by omega), f3 _ (by omega), f3 _ (by omega), f3 _ (by omega), f3 _ (by omega)]; exact h2
      obtain ⟨I4, q1, q2, q3⟩ := x_eval (e0 := eW N r p w) hn hO hB ht (by omega) h23 (eN_ok hB (fun j hj => by
        show (if j = 0 then _ else _) ≤ 9999
        repeat' split
        all_goals omega)) rfl (fun k' hk' ho => by
        have : k' = 0 ∨ k' = 1 ∨ k' = 2 ∨ k' = 3 ∨ k' = 4 ∨ k' = 5 ∨ k' = 6 := by omega
        rcases this with rfl | rfl | rfl | rfl | rfl | rfl | rfl
        · show _ = iV ((r : Nat) : Int); rw [iV_n (by omega)]; simp (disch := omega) only [I3, I1, sI_s, sI_k, qL, qb, qbl, qadd, qmul, qsubm, qdm, qsub, qdiv, qcl, qlt, qle, qeq, nltT, nltF, nleT, nleF, neqT, neqF, or_false, false_or, or_true, true_or, or_self, and_true, true_and, and_false, false_and, and_self, not_true_eq_false, not_false_eq_true, ↓reduceIte]
        · show _ = iV ((N 7 : Nat) : Int); rw [iV_n (by omega)]; simp (disch := omega) only [I3, I1, sI_s, sI_k, qL, qb, qbl, qadd, qmul, qsubm, qdm, qsub, qdiv, qcl, qlt, qle, qeq, nltT, nltF, nleT, nleF, neqT, neqF, or_false, false_or, or_true, true_or, or_self, and_true, true_and, and_false, false_and, and_self, not_true_eq_false, not_false_eq_true, ↓reduceIte]
        · show _ = iV ((K N r p : Nat) : Int); rw [iV_n (by omega)]; simp (disch := omega) only [I3, I1, sI_s, sI_k, qL, qb, qbl, qadd, qmul, qsubm, qdm, qsub, qdiv, qcl, qlt, qle, qeq, nltT, nltF, nleT, nleF, neqT, neqF, or_false, false_or, or_true, true_or, or_self, and_true, true_and, and_false, false_and, and_self, not_true_eq_false, not_false_eq_true, ↓reduceIte]
        · exact absurd ho (by decide)
        · exact absurd ho (by decide)
        · show _ = iV ((p : Nat) : Int); rw [iV_n (by omega)]; simp (disch := omega) only [I3, I1, sI_s, sI_k, qL, qb, qbl, qadd, qmul, qsubm, qdm, qsub, qdiv, qcl, qlt, qle, qeq, nltT, nltF, nleT, nleF, neqT, neqF, or_false, false_or, or_true, true_or, or_self, and_true, true_and, and_false, false_and, and_self, not_true_eq_false, not_false_eq_true, ↓reduceIte]
        · show _ = iV ((w : Nat) : Int); rw [iV_n (by omega)]; simp (disch := omega) only [I3, I1, sI_s, sI_k, qL, qb, qbl, qadd, qmul, qsubm, qdm, qsub, qdiv, qcl, qlt, qle, qeq, nltT, nltF, nleT, nleF, neqT, neqF, or_false, false_or, or_true, true_or, or_self, and_true, true_and, and_false, false_and, and_self, not_true_eq_false, not_false_eq_true, ↓reduceIte]) hV3 hw
      have q1' : f1_evaluate n I3 O 283 (300 + 6 * t) 2 wa = some (iV (v (eW N r p w)), I4) := q1
      refine ⟨I4, ?_, fun a h1 h2 h3 => by rw [q3.1 a h1 h2, f3 a h3]⟩
      rw [q1', qb]
      show (f1_within (nI 9) (iV (v (eW N r p w)))).bind _ = _
      rw [x_within (by omega) q2, qb]
end BX
/-! blurs, learns, wears: the reference -/
def KN (J J' : TI) : Prop := ∀ a, a ≠ 337 → a ≠ 339 → J' a = J a
theorem KN_t {I J H : TI} (h : KN I J) (k : KN J H) : KN I H := fun a h1 h2 => (k a h1 h2).trans (h a h1 h2)
section BM
variable {n : Nat} {J : TI} {L : TL} {O : TO} {N : TN} {lw : Lws}
theorem m_summed (hn : 100000 ≤ n) (hO : OF O) (hB : WB N) (hM : MV J O N) {t s k nc c0 c1 : Nat} {cd : Nat → Nat × Nat} {v : lEnv → Int} (ht : t < 4) (hk : k < nc) (hnc : nc ≤ 24) (h0 : J 334 (1065 * t + 1 + 19 * k + 1) = nI c0) (h1 : J 334 (1065 * t + 1 + 19 * k + 2) = nI c1) (hc : c0 ≤ c1) (hc1 : c1 ≤ 300) (hcd : MCd J t c1 cd) (hv : VM s (cdl cd (c1 - c0) c0) v) {e0 : lEnv} (he : eOK s e0) (hh : e0.2 = hlN N) (hnm : ∀ c, okN s c = true → J 337 c = iV (e0.1 c)) : ∃ J' L', f12_summedUp n J L O 331 (nI t) (nI k) = some (lV (v e0), J', L') ∧ bB (v e0) ∧ KF J J' := by
  have ivt : ∀ x : Int32, iV x.toInt = x := fun x => Int32.ofInt_toInt x
  let e : lEnv := (fun j => (J 337 j).toInt, hlN N)
  have hag : agr s e0 e := by
    refine ⟨fun j hj => ?_, hh.symm⟩
    show (J 337 j).toInt = e0.1 j
    have b := he.1 j hj
    rw [hnm j hj, iV_t (by omega) (by omega)]
  obtain ⟨b, r⟩ := hv e0 e he hag
  have hE : EvM J O (1065 * t + 1 + 19 * k) (1065 * t + 457) c1 N e cd := ⟨by omega, by omega, by omega, h1, hcd, fun c _ => (ivt _).symm, hM, rfl⟩
  obtain ⟨J', L', q1, q2⟩ := m_run hn hO hB (c1 - c0) J L c0 [] [] (v e0) n hE (by omega) trivial trivial (fun x hx => absurd hx List.not_mem_nil) (Nat.zero_le _) (Nat.zero_le _) (r [] [] (fun x hx => absurd hx List.not_mem_nil)) (by omega)
  refine ⟨J', L', ?_, b, q2⟩
  rw [← q1]
  simp (disch := omega) only [f12_summedUp, o_331_2 hO, h0, List.length_nil, qL, qb, qbl, qadd, qmul, qsubm, qdm, qsub, qdiv, qcl, qlt, qle, qeq, nltT, nltF, nleT, nleF, neqT, neqF, or_false, false_or, or_true, true_or, or_self, and_true, true_and, and_false, false_and, and_self, not_true_eq_false, not_false_eq_true, ↓reduceIte]
theorem m_says (hn : 100000 ≤ n) (hO : OF O) (hB : WB N) (hM : MV J O N) {tx s M w : Nat} (hL : LM0 J tx lw) (hs : s < 3) (hMM : M < 1000) (hw : w ≤ M) {e0 : lEnv} (he : eOK s e0) (hh : e0.2 = hlN N) (hnm : ∀ c, okN s c = true → J 337 c = iV (e0.1 c)) : ∃ J' L', f12_says n J L O 331 (nI tx) (nI s) (nI w) (nI M) = some (nI (match lw s with | none => w | some v => ct (v e0) M), J', L') ∧ KF J J' := by
  have cw : f12_cut (nI w).toInt64 0 (nI M) = some (nI w) := by
    have t := m_cut hMM (x := (w : Int)) ⟨by omega, by omega⟩
    rw [show ct (w : Int) M = w by unfold ct; rw [if_neg (by omega), if_neg (by omega)]; omega, lV_n, ← nI_l (by omega)] at t
    exact t
  unfold f12_says
  rcases hL with ⟨rfl, h⟩ | ⟨ht, h⟩
  · rw [h s]
    obtain ⟨n', hn'⟩ : ∃ n', n = n' + 1 := ⟨n - 1, by omega⟩
    refine ⟨J, L, ?_, fun _ _ => rfl⟩
    have : ∀ n1, f12_says_c3 n O (n1 + 1) J L 331 (nI 4294967295) (nI s) (nI w) (nI M) 0 = some (nI w, J, L) := by
      intro n1
      rw [f12_says_c3, if_pos (by decide), cw, qb]
    have t := this n'
    rw [← hn'] at t
    exact t
  · have step : ∀ k nc, J 334 (1065 * tx) = nI nc → nc ≤ 24 → k ≤ nc → MNo J tx s k → ∀ d j m, j + d = k → d < m → f12_says_c3 n O m J L 331 (nI tx) (nI s) (nI w) (nI M) (nI j) = f12_says_c3 n O (m - d) J L 331 (nI tx) (nI s) (nI w) (nI M) (nI k) := by
      intro k nc e1 e2 e3 hno d
      induction d with
      | zero =>
        intro j m hj hm
        have : j = k := by omega
        subst this; rfl
      | succ d ih =>
        intro j m hj hm
        obtain ⟨m', rfl⟩ : ∃ m', m = m' + 1 := ⟨m - 1, by omega⟩
        obtain ⟨s', g1, g2, g3⟩ := hno j (by omega)
        rw [show m' + 1 - (d + 1) = m' - d by omega, ← ih (j + 1) m' (by omega) (by omega)]
        simp (disch := omega) only [f12_says_c3, o_331_2 hO, e1, g3, qL, qb, qbl, qadd, qmul, qsubm, qdm, qsub, qdiv, qcl, qlt, qle, qeq, nltT, nltF, nleT, nleF, neqT, neqF, or_false, false_or, or_true, true_or, or_self, and_true, true_and, and_false, false_and, and_self, not_true_eq_false, not_false_eq_true, ↓reduceIte]
    rcases h s hs with ⟨h1, nc, e1, e2, e3⟩ | ⟨v, h1, k, nc, c0, c1, cd, e1, e2, e3, e4, e5, e6, e7, e8, e9, e10, e11⟩
    · rw [h1]
      have t := step nc nc e1 e2 (Nat.le_refl _) e3 nc 0 n (by omega) (by omega)
      refine ⟨J, L, ?_, fun _ _ => rfl⟩
      show f12_says_c3 n O n J L 331 (nI tx) (nI s) (nI w) (nI M) (nI 0) = _
      rw [t]
      obtain ⟨m', hm'⟩ : ∃ m', n - nc = m' + 1 := ⟨n - nc - 1, by omega⟩
      rw [hm', f12_says_c3, if_neg (nI_pos (by omega)), show (1065 : Int32) * nI tx = nI (1065 * tx) from qmul 1065 tx, if_neg (nI_in (by omega) (by omega)), o_331_2 hO, qcl (by omega), e1, if_pos (by rw [nI_leI (by omega) (by omega)]; omega), cw, qb]
    · rw [h1]
      have t := step k nc e1 e2 (by omega) e5 k 0 n (by omega) (by omega)
      obtain ⟨J', L', q1, q2, q3⟩ := m_summed (L := L) hn hO hB hM ht e3 e2 e6 e7 e8 e9 e10 e11 he hh hnm
      refine ⟨J', L', ?_, q3⟩
      show f12_says_c3 n O n J L 331 (nI tx) (nI s) (nI w) (nI M) (nI 0) = _
      rw [t]
      obtain ⟨m', hm'⟩ : ∃ m', n - k = m' + 1 := ⟨n - k - 1, by omega⟩
      have y : (1065 : Int32) * nI tx + 1 + 19 * nI k = nI (1065 * tx + 1 + 19 * k) := by
        rw [show (1065 : Int32) * nI tx = nI (1065 * tx) from qmul 1065 tx, show (19 : Int32) * nI k = nI (19 * k) from qmul 19 k, nI_1, qadd]
      rw [hm', f12_says_c3, if_neg (nI_pos (by omega)), y, show (1065 : Int32) * nI tx = nI (1065 * tx) from qmul 1065 tx, if_neg (nI_in (by omega) (by omega)), o_331_2 hO, qcl (by omega), e1, if_neg (by rw [nI_leI (by omega) (by omega)]; omega), if_neg (nI_in (by omega) (by omega)), qcl (by omega), e4, if_pos rfl, q1, qb]
      show (f12_cut (lV (v e0)) 0 (nI M)).bind _ = _
      rw [m_cut hMM q2, qb]
end BM
