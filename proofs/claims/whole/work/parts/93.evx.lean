/-! the class's evaluating is its machine's -/
def hcG (N : TN) (r p c : Nat) : Nat := if K N r p = 0 then c else c + 1
def hc (N : TN) (r : Nat) : Nat := fo (hcG N r) (Ln N r) 0 0
theorem hcG_le {N : TN} {r p c M : Nat} (h : c ≤ M) : hcG N r p c ≤ M + 1 := by unfold hcG; split <;> omega
theorem hc_le {N : TN} {r : Nat} : hc N r ≤ Ln N r :=
  foI (hcG N r) (fun k c => c ≤ k) (Ln N r) (fun k c _ h => hcG_le h) _ 0 0 (by omega) (Nat.zero_le _)
def hlN (N : TN) (x : Int) : Int := if 0 ≤ x ∧ x < (N 0 : Int) then (hc N x.toNat : Int) else 0
section HX
variable {n : Nat} {I : TI} {O : TO} {N : TN} {wa sz ky mo wr hr : Nat}
theorem x_holesN (hn : 100000 ≤ n) (hV : WV I O wa sz ky mo wr hr N) (hB : WB N) {r : Nat} (h : r < N 0) : f10_holes n I O wa (nI r) = some (nI (hc N r)) := by
  have b1 := hB.1
  have l1 := hB.2.2.1 r (by omega)
  obtain ⟨⟨o0, o1, -⟩, v3, -, vs, vk, -⟩ := hV
  have es := vs r (by omega)
  have e0 : f10_holes n I O wa (nI r) = f10_holes_c33 n I O n wa (nI r) (nI (Ln N r)) (nI 0) (nI 0) := by
    simp (disch := omega) only [f10_holes, v3, o0, es, qL, qb, qbl, qadd, qmul, qsubm, qdm, qsub, qdiv, qcl, qlt, qle, qeq, nltT, nltF, nleT, nleF, neqT, neqF, or_false, false_or, or_true, true_or, or_self, and_true, true_and, and_false, false_and, and_self, not_true_eq_false, not_false_eq_true, ↓reduceIte]
  rw [e0]
  refine lpF (L := fun m k c => f10_holes_c33 n I O m wa (nI r) (nI (Ln N r)) (nI c) (nI k)) (hcG N r) (fun k c => c ≤ k) (Ln N r) nI ?_ (fun k c _ h => hcG_le h) ?_ (Ln N r) 0 n 0 (by omega) (by omega) (Nat.zero_le _)
  · intro m k c hk hc
    have ek := vk r k (by omega) (by omega)
    have kb := hB.2.2.2.2.1 r k (by omega) (by omega)
    unfold hcG
    by_cases z : K N r k = 0
    · rw [if_pos z]
      simp (disch := omega) only [f10_holes_c33, o1, ek, qL, qb, qbl, qadd, qmul, qsubm, qdm, qsub, qdiv, qcl, qlt, qle, qeq, nltT, nltF, nleT, nleF, neqT, neqF, or_false, false_or, or_true, true_or, or_self, and_true, true_and, and_false, false_and, and_self, not_true_eq_false, not_false_eq_true, ↓reduceIte]
    · rw [if_neg z]
      simp (disch := omega) only [f10_holes_c33, o1, ek, qL, qb, qbl, qadd, qmul, qsubm, qdm, qsub, qdiv, qcl, qlt, qle, qeq, nltT, nltF, nleT, nleF, neqT, neqF, or_false, false_or, or_true, true_or, or_self, and_true, true_and, and_false, false_and, and_self, not_true_eq_false, not_false_eq_true, ↓reduceIte]
  · intro m c hc
    simp (disch := omega) only [f10_holes_c33, qL, qb, qbl, qadd, qmul, qsubm, qdm, qsub, qdiv, qcl, qlt, qle, qeq, nltT, nltF, nleT, nleF, neqT, neqF, or_false, false_or, or_true, true_or, or_self, and_true, true_and, and_false, false_and, and_self, not_true_eq_false, not_false_eq_true, ↓reduceIte]
theorem x_holes (hn : 100000 ≤ n) (hV : WV I O wa sz ky mo wr hr N) (hB : WB N) {x : Int} (hx : bB x) : f10_holes n I O wa (iV x) = some (iV (hlN N x)) := by
  have b1 := hB.1
  have u := hx
  unfold bB at u
  obtain ⟨n', hn'⟩ : ∃ n', n = n' + 1 := ⟨n - 1, by omega⟩
  unfold hlN
  have c33 : ∀ y, f10_holes_c33 n I O n wa y 0 0 0 = some (nI 0) := by
    intro y
    have : ∀ n1, f10_holes_c33 n I O (n1 + 1) wa y (nI 0) (nI 0) (nI 0) = some (nI 0) := by
      intro n1
      simp (disch := omega) only [f10_holes_c33, qL, qb, qbl, qadd, qmul, qsubm, qdm, qsub, qdiv, qcl, qlt, qle, qeq, nltT, nltF, nleT, nleF, neqT, neqF, or_false, false_or, or_true, true_or, or_self, and_true, true_and, and_false, false_and, and_self, not_true_eq_false, not_false_eq_true, ↓reduceIte]
    have t := this n'
    rw [← hn'] at t
    exact t
  by_cases q : 0 ≤ x ∧ x < (N 0 : Int)
  · rw [if_pos q]
    have e := x_holesN hn hV hB (r := x.toNat) (by omega)
    have l := hc_le (N := N) (r := x.toNat)
    have l1 := hB.2.2.1 x.toNat (by omega)
    rw [iV_n (by omega), ← e, ← iV_n (k := x.toNat) (by omega), show ((x.toNat : Nat) : Int) = x by omega]
  · rw [if_neg q, iV0]
    obtain ⟨-, v3, -⟩ := hV
    unfold f10_holes
    by_cases q2 : x < 0
    · rw [if_pos (show iV x < 0 from (iV_lt hx bd0).mpr q2)]
      exact c33 _
    · rw [if_neg (show ¬ iV x < 0 from fun w => q2 ((iV_lt hx bd0).mp w)), v3, if_pos]
      · exact c33 _
      · rw [← iV_n (by omega), iV_le (by unfold bB; omega) hx]; omega
end HX
def SXr (I : TI) : List Int → Prop
  | [] => True
  | v :: S => I 284 S.length = iV v ∧ SXr I S
theorem SXr_fr {I I' : TI} : ∀ S, SXr I S → (∀ j, j < S.length → I' 284 j = I 284 j) → SXr I' S := by
  intro S
  induction S with
  | nil => intro _ _; trivial
  | cons v S ih =>
    intro h hI
    refine ⟨by rw [hI S.length (by rw [List.length_cons]; omega)]; exact h.1, ih h.2 (fun j hj => hI j (by rw [List.length_cons]; omega))⟩
def XSt (I : TI) (S : List Int) : Prop := I 283 2 = nI S.length ∧ SXr I S
def JF (I I' : TI) : Prop := (∀ a, a ≠ 283 → a ≠ 284 → I' a = I a) ∧ ∀ k, k ≠ 2 → I' 283 k = I 283 k
theorem JF_r (I : TI) : JF I I := ⟨fun _ _ _ => rfl, fun _ _ => rfl⟩
theorem JF_t {I J H : TI} (h : JF I J) (k : JF J H) : JF I H := ⟨fun a h1 h2 => (k.1 a h1 h2).trans (h.1 a h1 h2), fun j hj => (k.2 j hj).trans (h.2 j hj)⟩
section PP
variable {n : Nat} {I : TI} {O : TO}
theorem x_pop (hO : OF O) {x : Int} {S : List Int} (h : XSt I (x :: S)) (hl : S.length < 64) : ∃ I', f1_pop I O 283 = some (iV x, I') ∧ XSt I' S ∧ JF I I' := by
  obtain ⟨h1, h2, h3⟩ := h
  rw [List.length_cons] at h1
  have e1 : sI I 283 2 (nI S.length) 283 2 = nI S.length := sI_s _ _ _ _
  have e2 : sI I 283 2 (nI S.length) 284 S.length = iV x := by rw [sI_o _ _ (by omega)]; exact h2
  refine ⟨sI I 283 2 (nI S.length), ?_, ⟨e1, SXr_fr S h3 (fun j _ => by rw [sI_o _ _ (by omega)])⟩, fun a h1 h2 => sI_o _ _ h1, fun k hk => sI_k _ _ hk⟩
  simp (disch := omega) only [f1_pop, h1, Nat.add_sub_cancel, e1, o_283_0 hO, e2, qL, qb, qbl, qadd, qmul, qsubm, qdm, qsub, qdiv, qcl, qlt, qle, qeq, nltT, nltF, nleT, nleF, neqT, neqF, or_false, false_or, or_true, true_or, or_self, and_true, true_and, and_false, false_and, and_self, not_true_eq_false, not_false_eq_true, ↓reduceIte]
theorem x_push (hO : OF O) {x : Int} {S : List Int} (h : XSt I S) (hl : S.length < 64) : ∃ I', f1_push I O 283 (iV x) = some I' ∧ XSt I' (x :: S) ∧ JF I I' := by
  obtain ⟨h1, h3⟩ := h
  have e1 : sI I 284 S.length (iV x) 283 2 = nI S.length := by rw [sI_o _ _ (by omega)]; exact h1
  refine ⟨sI (sI I 284 S.length (iV x)) 283 2 (nI (S.length + 1)), ?_, ⟨by rw [sI_s, List.length_cons], by rw [sI_o _ _ (by omega), sI_s], SXr_fr S h3 (fun j hj => by rw [sI_o _ _ (by omega), sI_k _ _ (by omega)])⟩, fun a h1 h2 => by rw [sI_o _ _ h1, sI_o _ _ h2], fun k hk => by rw [sI_k _ _ hk, sI_o _ _ (by omega)]⟩
  simp (disch := omega) only [f1_push, h1, o_283_0 hO, e1, qL, qb, qbl, qadd, qmul, qsubm, qdm, qsub, qdiv, qcl, qlt, qle, qeq, nltT, nltF, nleT, nleF, neqT, neqF, or_false, false_or, or_true, true_or, or_self, and_true, true_and, and_false, false_and, and_self, not_true_eq_false, not_false_eq_true, ↓reduceIte]
theorem x_holds {k : Nat} (hk : k = 20 ∨ k = 21 ∨ k = 35 ∨ k = 60 ∨ k = 61 ∨ k = 62 ∨ k = 316 ∨ k = 318) {x y : Int} (hx : bB x) (hy : bB y) : f1_holds (nI k) (iV y) (iV x) = some (iV (xS2 k y x)) := by
  have a1 : iV y = 0 ↔ y = 0 := iV_eq hy bd0
  have a2 : iV x = 0 ↔ x = 0 := iV_eq hx bd0
  have a3 : iV y = iV x ↔ y = x := iV_eq hy hx
  have a4 : iV x ≤ iV y ↔ x ≤ y := iV_le hx hy
  have a5 : iV y ≤ iV x ↔ y ≤ x := iV_le hy hx
  have a6 : iV x < iV y ↔ x < y := iV_lt hx hy
  have a7 : iV y < iV x ↔ y < x := iV_lt hy hx
  have o1 : iV (b2i true) = 1 := by decide
  have o0 : iV (b2i false) = 0 := by decide
  unfold f1_holds
  rcases hk with rfl | rfl | rfl | rfl | rfl | rfl | rfl | rfl
  · rw [if_pos (by decide), x_two_cmp rfl]
    by_cases q1 : y = 0
    · by_cases q2 : x = 0
      · rw [if_pos (a1.mpr q1), if_pos (a2.mpr q2), show cmpB 20 y x = false by unfold cmpB; rw [if_pos rfl, q1, q2]; rfl, o0]
      · rw [if_pos (a1.mpr q1), if_neg (fun w => q2 (a2.mp w)), show cmpB 20 y x = true by unfold cmpB; rw [if_pos rfl, decide_eq_true q2, Bool.or_true], o1]
    · rw [if_neg (fun w => q1 (a1.mp w)), show cmpB 20 y x = true by unfold cmpB; rw [if_pos rfl, decide_eq_true q1, Bool.true_or], o1]
  · rw [if_neg (by decide), if_pos (by decide), x_two_cmp rfl]
    by_cases q1 : y = 0
    · rw [if_pos (a1.mpr q1), show cmpB 21 y x = false by unfold cmpB; rw [if_neg (by decide), if_pos rfl, q1]; rfl, o0]
    · by_cases q2 : x = 0
      · rw [if_neg (fun w => q1 (a1.mp w)), if_pos (a2.mpr q2), show cmpB 21 y x = false by unfold cmpB; rw [if_neg (by decide), if_pos rfl, q2]; exact Bool.and_false _, o0]
      · rw [if_neg (fun w => q1 (a1.mp w)), if_neg (fun w => q2 (a2.mp w)), show cmpB 21 y x = true by unfold cmpB; rw [if_neg (by decide), if_pos rfl, decide_eq_true q1, decide_eq_true q2]; rfl, o1]
  · rw [if_neg (by decide), if_neg (by decide), if_pos (by decide), x_two_cmp rfl]
    by_cases q : y = x
    · rw [if_pos (a3.mpr q), show cmpB 35 y x = false by unfold cmpB; rw [if_neg (by decide), if_neg (by decide), if_pos rfl]; exact decide_eq_false (fun w => w q), o0]
    · rw [if_neg (fun w => q (a3.mp w)), show cmpB 35 y x = true by unfold cmpB; rw [if_neg (by decide), if_neg (by decide), if_pos rfl]; exact decide_eq_true q, o1]
  · rw [if_neg (by decide), if_neg (by decide), if_neg (by decide), if_pos (by decide), x_two_cmp rfl]
    by_cases q : x ≤ y
    · rw [if_pos (a4.mpr q), show cmpB 60 y x = false by unfold cmpB; rw [if_neg (by decide), if_neg (by decide), if_neg (by decide), if_pos rfl]; exact decide_eq_false (by omega), o0]
    · rw [if_neg (fun w => q (a4.mp w)), show cmpB 60 y x = true by unfold cmpB; rw [if_neg (by decide), if_neg (by decide), if_neg (by decide), if_pos rfl]; exact decide_eq_true (by omega), o1]
  · rw [if_neg (by decide), if_neg (by decide), if_neg (by decide), if_neg (by decide), if_pos (by decide), x_two_cmp rfl]
    by_cases q : y = x
    · rw [if_pos (a3.mpr q), show cmpB 61 y x = true by unfold cmpB; rw [if_neg (by decide), if_neg (by decide), if_neg (by decide), if_neg (by decide), if_pos rfl]; exact decide_eq_true q, o1]
    · rw [if_neg (fun w => q (a3.mp w)), show cmpB 61 y x = false by unfold cmpB; rw [if_neg (by decide), if_neg (by decide), if_neg (by decide), if_neg (by decide), if_pos rfl]; exact decide_eq_false q, o0]
  · rw [if_neg (by decide), if_neg (by decide), if_neg (by decide), if_neg (by decide), if_neg (by decide), if_pos (by decide), x_two_cmp rfl]
    by_cases q : y ≤ x
    · rw [if_pos (a5.mpr q), show cmpB 62 y x = false by unfold cmpB; rw [if_neg (by decide), if_neg (by decide), if_neg (by decide), if_neg (by decide), if_neg (by decide), if_pos rfl]; exact decide_eq_false (by omega), o0]
    · rw [if_neg (fun w => q (a5.mp w)), show cmpB 62 y x = true by unfold cmpB; rw [if_neg (by decide), if_neg (by decide), if_neg (by decide), if_neg (by decide), if_neg (by decide), if_pos rfl]; exact decide_eq_true (by omega), o1]
  · rw [if_neg (by decide), if_neg (by decide), if_neg (by decide), if_neg (by decide), if_neg (by decide), if_neg (by decide), if_pos (by decide), x_two_cmp rfl]
    by_cases q : x < y
    · rw [if_pos (a6.mpr q), show cmpB 316 y x = false by unfold cmpB; rw [if_neg (by decide), if_neg (by decide), if_neg (by decide), if_neg (by decide), if_neg (by decide), if_neg (by decide), if_pos rfl]; exact decide_eq_false (by omega), o0]
    · rw [if_neg (fun w => q (a6.mp w)), show cmpB 316 y x = true by unfold cmpB; rw [if_neg (by decide), if_neg (by decide), if_neg (by decide), if_neg (by decide), if_neg (by decide), if_neg (by decide), if_pos rfl]; exact decide_eq_true (by omega), o1]
  · rw [if_neg (by decide), if_neg (by decide), if_neg (by decide), if_neg (by decide), if_neg (by decide), if_neg (by decide), if_neg (by decide), if_pos (by decide), x_two_cmp rfl]
    by_cases q : y < x
    · rw [if_pos (a7.mpr q), show cmpB 318 y x = false by unfold cmpB; rw [if_neg (by decide), if_neg (by decide), if_neg (by decide), if_neg (by decide), if_neg (by decide), if_neg (by decide), if_neg (by decide)]; exact decide_eq_false (by omega), o0]
    · rw [if_neg (fun w => q (a7.mp w)), show cmpB 318 y x = true by unfold cmpB; rw [if_neg (by decide), if_neg (by decide), if_neg (by decide), if_neg (by decide), if_neg (by decide), if_neg (by decide), if_neg (by decide)]; exact decide_eq_true (by omega), o1]
theorem x_far {i q : Nat} (hi : i < 2147483648) (hq : q < 2147483648) : fJ9_max_7cf53 (nI i) (nI q - nI 1) = some (nI (max i (q - 1))) := by
  unfold fJ9_max_7cf53
  by_cases z : 1 ≤ q
  · rw [qsub z]
    by_cases z2 : i < q - 1
    · rw [if_pos ((nI_ltI (by omega) (by omega)).mpr z2), show max i (q - 1) = q - 1 by omega]
    · rw [if_neg (fun w => z2 ((nI_ltI (by omega) (by omega)).mp w)), show max i (q - 1) = i by omega]
  · have : q = 0 := by omega
    subst this
    rw [if_neg, show max i (0 - 1) = i by omega]
    rw [i_lt, qtoI hi, show (nI 0 - nI 1).toInt = -1 by decide]; omega
end PP
/-- what the class's evaluating reads -/
def EvX (I : TI) (O : TO) (sc wa sz ky mo wr hr : Nat) (N : TN) (e : lEnv) (st : Nat → Nat) (en : Nat) : Prop := rO O sc 0 = sc + 1 ∧ (300 ≤ sc) ∧ (∃ z, I sc 5 = nI z ∧ en ≤ z ∧ z ≤ 300) ∧ (∀ i, i < en → I (sc + 1) i = nI (st i) ∧ st i < 2147483648) ∧ (∀ c, c < 7 → I 285 c = iV (e.1 (nmX c))) ∧ WV I O wa sz ky mo wr hr N ∧ e.2 = hlN N ∧ (wa < 283 ∧ sz < 283 ∧ ky < 283 ∧ mo < 283 ∧ wr < 283 ∧ hr < 283)
section XE
variable {n : Nat} {I : TI} {O : TO} {N : TN} {sc wa sz ky mo wr hr en : Nat} {e : lEnv} {st : Nat → Nat}
theorem EvX_fr {I' : TI} (h : EvX I O sc wa sz ky mo wr hr N e st en) (hf : JF I I') : EvX I' O sc wa sz ky mo wr hr N e st en := by
  obtain ⟨h1, h2, h3, h4, h5, h6, h7, h8⟩ := h
  have f := hf.1
  refine ⟨h1, h2, by rw [f sc (by omega) (by omega)]; exact h3, fun i hi => by rw [f (sc + 1) (by omega) (by omega)]; exact h4 i hi, fun c hc => by rw [f 285 (by omega) (by omega)]; exact h5 c hc, ?_, h7, h8⟩
  unfold WV at *
  rw [f wa (by omega) (by omega), f sz (by omega) (by omega), f ky (by omega) (by omega), f mo (by omega) (by omega), f wr (by omega) (by omega), f hr (by omega) (by omega)]
  exact h6
theorem x_stepAt (h : EvX I O sc wa sz ky mo wr hr N e st en) {i : Nat} (hi : i < en) : f7_stepAt I O sc (nI i) = some (nI (st i)) := by
  obtain ⟨h1, h2, ⟨z, h3, h3b, h3c⟩, h4, -⟩ := h
  have e4 := (h4 i hi).1
  simp (disch := omega) only [f7_stepAt, h1, h3, e4, qL, qb, qbl, qadd, qmul, qsubm, qdm, qsub, qdiv, qcl, qlt, qle, qeq, nltT, nltF, nleT, nleF, neqT, neqF, or_false, false_or, or_true, true_or, or_self, and_true, true_and, and_false, false_and, and_self, not_true_eq_false, not_false_eq_true, ↓reduceIte]
variable {m i w : Nat}
theorem ev28 (hst : f7_stepAt I O sc (nI i) = some (nI w)) (hw : w < 2147483648) (hi : i < en) (hen : en ≤ 300) (hk : w % 1024 = 28) {I' : TI} (hp : f1_push I O 283 (nI (w / 1024)) = some I') : f1_evaluate_c28 n O (m + 1) I 283 sc wa (nI en) (nI i) = f1_evaluate_c28 n O m I' 283 sc wa (nI en) (nI (i + 1)) := by
  have h0 : ¬ nI en ≤ nI i := fun q => by rw [nI_leI (by omega) (by omega)] at q; omega
  have far : fJ9_max_7cf53 (nI i) (nI w / 1024 - 1) = some (nI (max i (w / 1024 - 1))) := by
    have t := x_far (i := i) (q := w / 1024) (by omega) (by omega)
    rw [← pk_div (d := 1024) hw (by omega) (by omega)] at t
    exact t
  have hkk : nI w - nI w / 1024 * 1024 = nI 28 := by
    have t := pk_rem (a := w) (d := 1024) hw (by omega) (by omega)
    rw [hk] at t
    exact t
  have hq : nI w / 1024 = nI (w / 1024) := pk_div (d := 1024) hw (by omega) (by omega)
  rw [f1_evaluate_c28, if_neg h0, hst, qb]
  try dsimp only
  rw [far, qb]
  try dsimp only
  rw [hkk, if_neg (by decide), if_neg (by decide), if_neg (by decide), if_neg (by decide), if_neg (by decide), if_pos (by decide)]
  rw [hq, hp]
  simp only [qb, nI_1]
theorem ev18 (hst : f7_stepAt I O sc (nI i) = some (nI w)) (hw : w < 2147483648) (hi : i < en) (hen : en ≤ 300) (hk : w % 1024 = 18) : f1_evaluate_c28 n O (m + 1) I 283 sc wa (nI en) (nI i) = f1_evaluate_c28 n O m I 283 sc wa (nI en) (nI (max i (w / 1024 - 1) + 1)) := by
  have h0 : ¬ nI en ≤ nI i := fun q => by rw [nI_leI (by omega) (by omega)] at q; omega
  have far : fJ9_max_7cf53 (nI i) (nI w / 1024 - 1) = some (nI (max i (w / 1024 - 1))) := by
    have t := x_far (i := i) (q := w / 1024) (by omega) (by omega)
    rw [← pk_div (d := 1024) hw (by omega) (by omega)] at t
    exact t
  have hkk : nI w - nI w / 1024 * 1024 = nI 18 := by
    have t := pk_rem (a := w) (d := 1024) hw (by omega) (by omega)
    rw [hk] at t
    exact t
  have hq : nI w / 1024 = nI (w / 1024) := pk_div (d := 1024) hw (by omega) (by omega)
  rw [f1_evaluate_c28, if_neg h0, hst, qb]
  try dsimp only
  rw [far, qb]
  try dsimp only
  rw [hkk, if_neg (by decide), if_neg (by decide), if_neg (by decide), if_pos (by decide)]
  simp only [qb, nI_1]
theorem ev17 (hst : f7_stepAt I O sc (nI i) = some (nI w)) (hw : w < 2147483648) (hi : i < en) (hen : en ≤ 300) (hk : w % 1024 = 17) {I' : TI} {x : Int32} (hp : f1_pop I O 283 = some (x, I')) : f1_evaluate_c28 n O (m + 1) I 283 sc wa (nI en) (nI i) = if x = 0 then f1_evaluate_c28 n O m I' 283 sc wa (nI en) (nI (max i (w / 1024 - 1) + 1)) else f1_evaluate_c28 n O m I' 283 sc wa (nI en) (nI (i + 1)) := by
  have h0 : ¬ nI en ≤ nI i := fun q => by rw [nI_leI (by omega) (by omega)] at q; omega
  have far : fJ9_max_7cf53 (nI i) (nI w / 1024 - 1) = some (nI (max i (w / 1024 - 1))) := by
    have t := x_far (i := i) (q := w / 1024) (by omega) (by omega)
    rw [← pk_div (d := 1024) hw (by omega) (by omega)] at t
    exact t
  have hkk : nI w - nI w / 1024 * 1024 = nI 17 := by
    have t := pk_rem (a := w) (d := 1024) hw (by omega) (by omega)
    rw [hk] at t
    exact t
  have hq : nI w / 1024 = nI (w / 1024) := pk_div (d := 1024) hw (by omega) (by omega)
  rw [f1_evaluate_c28, if_neg h0, hst, qb]
  try dsimp only
  rw [far, qb]
  try dsimp only
  rw [hkk, if_neg (by decide), if_neg (by decide), if_pos (by decide)]
  rw [hp]
  simp only [qb, nI_1]
theorem ev14 (hst : f7_stepAt I O sc (nI i) = some (nI w)) (hw : w < 2147483648) (hi : i < en) (hen : en ≤ 300) (hk : w % 1024 = 14) {I' I2 : TI} {x y : Int32} (hp : f1_pop I O 283 = some (x, I')) (hd : f1_digitsTogether n x = some y) (hq2 : f1_push I' O 283 y = some I2) : f1_evaluate_c28 n O (m + 1) I 283 sc wa (nI en) (nI i) = f1_evaluate_c28 n O m I2 283 sc wa (nI en) (nI (i + 1)) := by
  have h0 : ¬ nI en ≤ nI i := fun q => by rw [nI_leI (by omega) (by omega)] at q; omega
  have far : fJ9_max_7cf53 (nI i) (nI w / 1024 - 1) = some (nI (max i (w / 1024 - 1))) := by
    have t := x_far (i := i) (q := w / 1024) (by omega) (by omega)
    rw [← pk_div (d := 1024) hw (by omega) (by omega)] at t
    exact t
  have hkk : nI w - nI w / 1024 * 1024 = nI 14 := by
    have t := pk_rem (a := w) (d := 1024) hw (by omega) (by omega)
    rw [hk] at t
    exact t
  have hq : nI w / 1024 = nI (w / 1024) := pk_div (d := 1024) hw (by omega) (by omega)
  rw [f1_evaluate_c28, if_neg h0, hst, qb]
  try dsimp only
  rw [far, qb]
  try dsimp only
  rw [hkk, if_pos (by decide)]
  rw [hp, qb, hd, qb, hq2]
  simp only [qb, nI_1]
theorem ev15 (hst : f7_stepAt I O sc (nI i) = some (nI w)) (hw : w < 2147483648) (hi : i < en) (hen : en ≤ 300) (hk : w % 1024 = 15) {I' I2 : TI} {x y : Int32} (hp : f1_pop I O 283 = some (x, I')) (hd : f10_holes n I' O wa x = some y) (hq2 : f1_push I' O 283 y = some I2) : f1_evaluate_c28 n O (m + 1) I 283 sc wa (nI en) (nI i) = f1_evaluate_c28 n O m I2 283 sc wa (nI en) (nI (i + 1)) := by
  have h0 : ¬ nI en ≤ nI i := fun q => by rw [nI_leI (by omega) (by omega)] at q; omega
  have far : fJ9_max_7cf53 (nI i) (nI w / 1024 - 1) = some (nI (max i (w / 1024 - 1))) := by
    have t := x_far (i := i) (q := w / 1024) (by omega) (by omega)
    rw [← pk_div (d := 1024) hw (by omega) (by omega)] at t
    exact t
  have hkk : nI w - nI w / 1024 * 1024 = nI 15 := by
    have t := pk_rem (a := w) (d := 1024) hw (by omega) (by omega)
    rw [hk] at t
    exact t
  have hq : nI w / 1024 = nI (w / 1024) := pk_div (d := 1024) hw (by omega) (by omega)
  rw [f1_evaluate_c28, if_neg h0, hst, qb]
  try dsimp only
  rw [far, qb]
  try dsimp only
  rw [hkk, if_neg (by decide), if_pos (by decide)]
  rw [hp, qb, hd, qb, hq2]
  simp only [qb, nI_1]
theorem ev29 (hst : f7_stepAt I O sc (nI i) = some (nI w)) (hw : w < 2147483648) (hi : i < en) (hen : en ≤ 300) (hk : w % 1024 = 29) {I' I2 : TI} {x : Int32} (hp : f1_pop I O 283 = some (x, I')) (hq2 : f1_push I' O 283 (-x) = some I2) : f1_evaluate_c28 n O (m + 1) I 283 sc wa (nI en) (nI i) = f1_evaluate_c28 n O m I2 283 sc wa (nI en) (nI (i + 1)) := by
  have h0 : ¬ nI en ≤ nI i := fun q => by rw [nI_leI (by omega) (by omega)] at q; omega
  have far : fJ9_max_7cf53 (nI i) (nI w / 1024 - 1) = some (nI (max i (w / 1024 - 1))) := by
    have t := x_far (i := i) (q := w / 1024) (by omega) (by omega)
    rw [← pk_div (d := 1024) hw (by omega) (by omega)] at t
    exact t
  have hkk : nI w - nI w / 1024 * 1024 = nI 29 := by
    have t := pk_rem (a := w) (d := 1024) hw (by omega) (by omega)
    rw [hk] at t
    exact t
  have hq : nI w / 1024 = nI (w / 1024) := pk_div (d := 1024) hw (by omega) (by omega)
  rw [f1_evaluate_c28, if_neg h0, hst, qb]
  try dsimp only
  rw [far, qb]
  try dsimp only
  rw [hkk, if_neg (by decide), if_neg (by decide), if_neg (by decide), if_neg (by decide), if_neg (by decide), if_neg (by decide), if_pos (by decide)]
  rw [hp, qb, hq2]
  simp only [qb, nI_1]
theorem ev22 (hst : f7_stepAt I O sc (nI i) = some (nI w)) (hw : w < 2147483648) (hi : i < en) (hen : en ≤ 300) (hk : w % 1024 = 22) {I' I2 : TI} {x : Int32} (hp : f1_pop I O 283 = some (x, I')) (hq2 : f1_push I' O 283 (if x = 0 then 1 else 0) = some I2) : f1_evaluate_c28 n O (m + 1) I 283 sc wa (nI en) (nI i) = f1_evaluate_c28 n O m I2 283 sc wa (nI en) (nI (i + 1)) := by
  have h0 : ¬ nI en ≤ nI i := fun q => by rw [nI_leI (by omega) (by omega)] at q; omega
  have far : fJ9_max_7cf53 (nI i) (nI w / 1024 - 1) = some (nI (max i (w / 1024 - 1))) := by
    have t := x_far (i := i) (q := w / 1024) (by omega) (by omega)
    rw [← pk_div (d := 1024) hw (by omega) (by omega)] at t
    exact t
  have hkk : nI w - nI w / 1024 * 1024 = nI 22 := by
    have t := pk_rem (a := w) (d := 1024) hw (by omega) (by omega)
    rw [hk] at t
    exact t
  have hq : nI w / 1024 = nI (w / 1024) := pk_div (d := 1024) hw (by omega) (by omega)
  rw [f1_evaluate_c28, if_neg h0, hst, qb]
  try dsimp only
  rw [far, qb]
  try dsimp only
  rw [hkk, if_neg (by decide), if_neg (by decide), if_neg (by decide), if_neg (by decide), if_pos (by decide)]
  rw [hp, qb]
  try dsimp only
  by_cases z : x = 0
  · rw [if_pos z] at hq2 ⊢
    rw [hq2]; simp only [qb, nI_1]
  · rw [if_neg z] at hq2 ⊢
    rw [hq2]; simp only [qb, nI_1]
theorem ev42 (hst : f7_stepAt I O sc (nI i) = some (nI w)) (hw : w < 2147483648) (hi : i < en) (hen : en ≤ 300) (hk : w % 1024 = 42) {I' I2 I3 : TI} {x y z : Int32} (hp : f1_pop I O 283 = some (x, I')) (hp2 : f1_pop I' O 283 = some (y, I2)) (hd : f1_reckon (nI 42) y x = some z) (hq2 : f1_push I2 O 283 z = some I3) : f1_evaluate_c28 n O (m + 1) I 283 sc wa (nI en) (nI i) = f1_evaluate_c28 n O m I3 283 sc wa (nI en) (nI (i + 1)) := by
  have h0 : ¬ nI en ≤ nI i := fun q => by rw [nI_leI (by omega) (by omega)] at q; omega
  have far : fJ9_max_7cf53 (nI i) (nI w / 1024 - 1) = some (nI (max i (w / 1024 - 1))) := by
    have t := x_far (i := i) (q := w / 1024) (by omega) (by omega)
    rw [← pk_div (d := 1024) hw (by omega) (by omega)] at t
    exact t
  have hkk : nI w - nI w / 1024 * 1024 = nI 42 := by
    have t := pk_rem (a := w) (d := 1024) hw (by omega) (by omega)
    rw [hk] at t
    exact t
  have hq : nI w / 1024 = nI (w / 1024) := pk_div (d := 1024) hw (by omega) (by omega)
  rw [f1_evaluate_c28, if_neg h0, hst, qb]
  try dsimp only
  rw [far, qb]
  try dsimp only
  rw [hkk, if_neg (by decide), if_neg (by decide), if_neg (by decide), if_neg (by decide), if_neg (by decide), if_neg (by decide), if_neg (by decide), if_pos (by decide)]
  rw [hp, qb]
  try dsimp only
  rw [hp2, qb]
  try dsimp only
  rw [hd, qb, hq2]
  simp only [qb, nI_1]
theorem ev43 (hst : f7_stepAt I O sc (nI i) = some (nI w)) (hw : w < 2147483648) (hi : i < en) (hen : en ≤ 300) (hk : w % 1024 = 43) {I' I2 I3 : TI} {x y z : Int32} (hp : f1_pop I O 283 = some (x, I')) (hp2 : f1_pop I' O 283 = some (y, I2)) (hd : f1_reckon (nI 43) y x = some z) (hq2 : f1_push I2 O 283 z = some I3) : f1_evaluate_c28 n O (m + 1) I 283 sc wa (nI en) (nI i) = f1_evaluate_c28 n O m I3 283 sc wa (nI en) (nI (i + 1)) := by
  have h0 : ¬ nI en ≤ nI i := fun q => by rw [nI_leI (by omega) (by omega)] at q; omega
  have far : fJ9_max_7cf53 (nI i) (nI w / 1024 - 1) = some (nI (max i (w / 1024 - 1))) := by
    have t := x_far (i := i) (q := w / 1024) (by omega) (by omega)
    rw [← pk_div (d := 1024) hw (by omega) (by omega)] at t
    exact t
  have hkk : nI w - nI w / 1024 * 1024 = nI 43 := by
    have t := pk_rem (a := w) (d := 1024) hw (by omega) (by omega)
    rw [hk] at t
    exact t
  have hq : nI w / 1024 = nI (w / 1024) := pk_div (d := 1024) hw (by omega) (by omega)
  rw [f1_evaluate_c28, if_neg h0, hst, qb]
  try dsimp only
  rw [far, qb]
  try dsimp only
  rw [hkk, if_neg (by decide), if_neg (by decide), if_neg (by decide), if_neg (by decide), if_neg (by decide), if_neg (by decide), if_neg (by decide), if_neg (by decide), if_pos (by decide)]
  rw [hp, qb]
  try dsimp only
  rw [hp2, qb]
  try dsimp only
  rw [hd, qb, hq2]
  simp only [qb, nI_1]
theorem ev45 (hst : f7_stepAt I O sc (nI i) = some (nI w)) (hw : w < 2147483648) (hi : i < en) (hen : en ≤ 300) (hk : w % 1024 = 45) {I' I2 I3 : TI} {x y z : Int32} (hp : f1_pop I O 283 = some (x, I')) (hp2 : f1_pop I' O 283 = some (y, I2)) (hd : f1_reckon (nI 45) y x = some z) (hq2 : f1_push I2 O 283 z = some I3) : f1_evaluate_c28 n O (m + 1) I 283 sc wa (nI en) (nI i) = f1_evaluate_c28 n O m I3 283 sc wa (nI en) (nI (i + 1)) := by
  have h0 : ¬ nI en ≤ nI i := fun q => by rw [nI_leI (by omega) (by omega)] at q; omega
  have far : fJ9_max_7cf53 (nI i) (nI w / 1024 - 1) = some (nI (max i (w / 1024 - 1))) := by
    have t := x_far (i := i) (q := w / 1024) (by omega) (by omega)
    rw [← pk_div (d := 1024) hw (by omega) (by omega)] at t
    exact t
  have hkk : nI w - nI w / 1024 * 1024 = nI 45 := by
    have t := pk_rem (a := w) (d := 1024) hw (by omega) (by omega)
    rw [hk] at t
    exact t
  have hq : nI w / 1024 = nI (w / 1024) := pk_div (d := 1024) hw (by omega) (by omega)
  rw [f1_evaluate_c28, if_neg h0, hst, qb]
  try dsimp only
  rw [far, qb]
  try dsimp only
  rw [hkk, if_neg (by decide), if_neg (by decide), if_neg (by decide), if_neg (by decide), if_neg (by decide), if_neg (by decide), if_neg (by decide), if_neg (by decide), if_neg (by decide), if_pos (by decide)]
  rw [hp, qb]
  try dsimp only
  rw [hp2, qb]
  try dsimp only
  rw [hd, qb, hq2]
  simp only [qb, nI_1]
theorem ev47 (hst : f7_stepAt I O sc (nI i) = some (nI w)) (hw : w < 2147483648) (hi : i < en) (hen : en ≤ 300) (hk : w % 1024 = 47) {I' I2 I3 : TI} {x y z : Int32} (hp : f1_pop I O 283 = some (x, I')) (hp2 : f1_pop I' O 283 = some (y, I2)) (hd : f1_reckon (nI 47) y x = some z) (hq2 : f1_push I2 O 283 z = some I3) : f1_evaluate_c28 n O (m + 1) I 283 sc wa (nI en) (nI i) = f1_evaluate_c28 n O m I3 283 sc wa (nI en) (nI (i + 1)) := by
  have h0 : ¬ nI en ≤ nI i := fun q => by rw [nI_leI (by omega) (by omega)] at q; omega
  have far : fJ9_max_7cf53 (nI i) (nI w / 1024 - 1) = some (nI (max i (w / 1024 - 1))) := by
    have t := x_far (i := i) (q := w / 1024) (by omega) (by omega)
    rw [← pk_div (d := 1024) hw (by omega) (by omega)] at t
    exact t
  have hkk : nI w - nI w / 1024 * 1024 = nI 47 := by
    have t := pk_rem (a := w) (d := 1024) hw (by omega) (by omega)
    rw [hk] at t
    exact t
  have hq : nI w / 1024 = nI (w / 1024) := pk_div (d := 1024) hw (by omega) (by omega)
  rw [f1_evaluate_c28, if_neg h0, hst, qb]
  try dsimp only
  rw [far, qb]
  try dsimp only
  rw [hkk, if_neg (by decide), if_neg (by decide), if_neg (by decide), if_neg (by decide), if_neg (by decide), if_neg (by decide), if_neg (by decide), if_neg (by decide), if_neg (by decide), if_neg (by decide), if_pos (by decide)]
  rw [hp, qb]
  try dsimp only
  rw [hp2, qb]
  try dsimp only
  rw [hd, qb, hq2]
  simp only [qb, nI_1]
theorem ev7 (hst : f7_stepAt I O sc (nI i) = some (nI w)) (hw : w < 2147483648) (hi : i < en) (hen : en ≤ 300) (hk : w % 1024 = 7) {I' : TI} (hp : f1_push I O 283 (I (rO O 283 1) 0) = some I') : f1_evaluate_c28 n O (m + 1) I 283 sc wa (nI en) (nI i) = f1_evaluate_c28 n O m I' 283 sc wa (nI en) (nI (i + 1)) := by
  have h0 : ¬ nI en ≤ nI i := fun q => by rw [nI_leI (by omega) (by omega)] at q; omega
  have far : fJ9_max_7cf53 (nI i) (nI w / 1024 - 1) = some (nI (max i (w / 1024 - 1))) := by
    have t := x_far (i := i) (q := w / 1024) (by omega) (by omega)
    rw [← pk_div (d := 1024) hw (by omega) (by omega)] at t
    exact t
  have hkk : nI w - nI w / 1024 * 1024 = nI 7 := by
    have t := pk_rem (a := w) (d := 1024) hw (by omega) (by omega)
    rw [hk] at t
    exact t
  have hq : nI w / 1024 = nI (w / 1024) := pk_div (d := 1024) hw (by omega) (by omega)
  rw [f1_evaluate_c28, if_neg h0, hst, qb]
  try dsimp only
  rw [far, qb]
  try dsimp only
  rw [hkk, if_neg (by decide), if_neg (by decide), if_neg (by decide), if_neg (by decide), if_neg (by decide), if_neg (by decide), if_neg (by decide), if_neg (by decide), if_neg (by decide), if_neg (by decide), if_neg (by decide), if_neg (by decide), if_neg (by decide), if_neg (by decide)]
  rw [show (nI 7 - 7).toNatClampNeg = 0 by decide, hp]
  simp only [qb, nI_1]
theorem ev8 (hst : f7_stepAt I O sc (nI i) = some (nI w)) (hw : w < 2147483648) (hi : i < en) (hen : en ≤ 300) (hk : w % 1024 = 8) {I' : TI} (hp : f1_push I O 283 (I (rO O 283 1) 1) = some I') : f1_evaluate_c28 n O (m + 1) I 283 sc wa (nI en) (nI i) = f1_evaluate_c28 n O m I' 283 sc wa (nI en) (nI (i + 1)) := by
  have h0 : ¬ nI en ≤ nI i := fun q => by rw [nI_leI (by omega) (by omega)] at q; omega
  have far : fJ9_max_7cf53 (nI i) (nI w / 1024 - 1) = some (nI (max i (w / 1024 - 1))) := by
    have t := x_far (i := i) (q := w / 1024) (by omega) (by omega)
    rw [← pk_div (d := 1024) hw (by omega) (by omega)] at t
    exact t
  have hkk : nI w - nI w / 1024 * 1024 = nI 8 := by
    have t := pk_rem (a := w) (d := 1024) hw (by omega) (by omega)
    rw [hk] at t
    exact t
  have hq : nI w / 1024 = nI (w / 1024) := pk_div (d := 1024) hw (by omega) (by omega)
  rw [f1_evaluate_c28, if_neg h0, hst, qb]
  try dsimp only
  rw [far, qb]
  try dsimp only
  rw [hkk, if_neg (by decide), if_neg (by decide), if_neg (by decide), if_neg (by decide), if_neg (by decide), if_neg (by decide), if_neg (by decide), if_neg (by decide), if_neg (by decide), if_neg (by decide), if_neg (by decide), if_neg (by decide), if_neg (by decide), if_neg (by decide)]
  rw [show (nI 8 - 7).toNatClampNeg = 1 by decide, hp]
  simp only [qb, nI_1]
theorem ev9 (hst : f7_stepAt I O sc (nI i) = some (nI w)) (hw : w < 2147483648) (hi : i < en) (hen : en ≤ 300) (hk : w % 1024 = 9) {I' : TI} (hp : f1_push I O 283 (I (rO O 283 1) 2) = some I') : f1_evaluate_c28 n O (m + 1) I 283 sc wa (nI en) (nI i) = f1_evaluate_c28 n O m I' 283 sc wa (nI en) (nI (i + 1)) := by
  have h0 : ¬ nI en ≤ nI i := fun q => by rw [nI_leI (by omega) (by omega)] at q; omega
  have far : fJ9_max_7cf53 (nI i) (nI w / 1024 - 1) = some (nI (max i (w / 1024 - 1))) := by
    have t := x_far (i := i) (q := w / 1024) (by omega) (by omega)
    rw [← pk_div (d := 1024) hw (by omega) (by omega)] at t
    exact t
  have hkk : nI w - nI w / 1024 * 1024 = nI 9 := by
    have t := pk_rem (a := w) (d := 1024) hw (by omega) (by omega)
    rw [hk] at t
    exact t
  have hq : nI w / 1024 = nI (w / 1024) := pk_div (d := 1024) hw (by omega) (by omega)
  rw [f1_evaluate_c28, if_neg h0, hst, qb]
  try dsimp only
  rw [far, qb]
  try dsimp only
  rw [hkk, if_neg (by decide), if_neg (by decide), if_neg (by decide), if_neg (by decide), if_neg (by decide), if_neg (by decide), if_neg (by decide), if_neg (by decide), if_neg (by decide), if_neg (by decide), if_neg (by decide), if_neg (by decide), if_neg (by decide), if_neg (by decide)]
  rw [show (nI 9 - 7).toNatClampNeg = 2 by decide, hp]
  simp only [qb, nI_1]
theorem ev10 (hst : f7_stepAt I O sc (nI i) = some (nI w)) (hw : w < 2147483648) (hi : i < en) (hen : en ≤ 300) (hk : w % 1024 = 10) {I' : TI} (hp : f1_push I O 283 (I (rO O 283 1) 3) = some I') : f1_evaluate_c28 n O (m + 1) I 283 sc wa (nI en) (nI i) = f1_evaluate_c28 n O m I' 283 sc wa (nI en) (nI (i + 1)) := by
  have h0 : ¬ nI en ≤ nI i := fun q => by rw [nI_leI (by omega) (by omega)] at q; omega
  have far : fJ9_max_7cf53 (nI i) (nI w / 1024 - 1) = some (nI (max i (w / 1024 - 1))) := by
    have t := x_far (i := i) (q := w / 1024) (by omega) (by omega)
    rw [← pk_div (d := 1024) hw (by omega) (by omega)] at t
    exact t
  have hkk : nI w - nI w / 1024 * 1024 = nI 10 := by
    have t := pk_rem (a := w) (d := 1024) hw (by omega) (by omega)
    rw [hk] at t
    exact t
  have hq : nI w / 1024 = nI (w / 1024) := pk_div (d := 1024) hw (by omega) (by omega)
  rw [f1_evaluate_c28, if_neg h0, hst, qb]
  try dsimp only
  rw [far, qb]
  try dsimp only
  rw [hkk, if_neg (by decide), if_neg (by decide), if_neg (by decide), if_neg (by decide), if_neg (by decide), if_neg (by decide), if_neg (by decide), if_neg (by decide), if_neg (by decide), if_neg (by decide), if_neg (by decide), if_neg (by decide), if_neg (by decide), if_neg (by decide)]
  rw [show (nI 10 - 7).toNatClampNeg = 3 by decide, hp]
  simp only [qb, nI_1]
theorem ev11 (hst : f7_stepAt I O sc (nI i) = some (nI w)) (hw : w < 2147483648) (hi : i < en) (hen : en ≤ 300) (hk : w % 1024 = 11) {I' : TI} (hp : f1_push I O 283 (I (rO O 283 1) 4) = some I') : f1_evaluate_c28 n O (m + 1) I 283 sc wa (nI en) (nI i) = f1_evaluate_c28 n O m I' 283 sc wa (nI en) (nI (i + 1)) := by
  have h0 : ¬ nI en ≤ nI i := fun q => by rw [nI_leI (by omega) (by omega)] at q; omega
  have far : fJ9_max_7cf53 (nI i) (nI w / 1024 - 1) = some (nI (max i (w / 1024 - 1))) := by
    have t := x_far (i := i) (q := w / 1024) (by omega) (by omega)
    rw [← pk_div (d := 1024) hw (by omega) (by omega)] at t
    exact t
  have hkk : nI w - nI w / 1024 * 1024 = nI 11 := by
    have t := pk_rem (a := w) (d := 1024) hw (by omega) (by omega)
    rw [hk] at t
    exact t
  have hq : nI w / 1024 = nI (w / 1024) := pk_div (d := 1024) hw (by omega) (by omega)
  rw [f1_evaluate_c28, if_neg h0, hst, qb]
  try dsimp only
  rw [far, qb]
  try dsimp only
  rw [hkk, if_neg (by decide), if_neg (by decide), if_neg (by decide), if_neg (by decide), if_neg (by decide), if_neg (by decide), if_neg (by decide), if_neg (by decide), if_neg (by decide), if_neg (by decide), if_neg (by decide), if_neg (by decide), if_neg (by decide), if_neg (by decide)]
  rw [show (nI 11 - 7).toNatClampNeg = 4 by decide, hp]
  simp only [qb, nI_1]
theorem ev12 (hst : f7_stepAt I O sc (nI i) = some (nI w)) (hw : w < 2147483648) (hi : i < en) (hen : en ≤ 300) (hk : w % 1024 = 12) {I' : TI} (hp : f1_push I O 283 (I (rO O 283 1) 5) = some I') : f1_evaluate_c28 n O (m + 1) I 283 sc wa (nI en) (nI i) = f1_evaluate_c28 n O m I' 283 sc wa (nI en) (nI (i + 1)) := by
  have h0 : ¬ nI en ≤ nI i := fun q => by rw [nI_leI (by omega) (by omega)] at q; omega
  have far : fJ9_max_7cf53 (nI i) (nI w / 1024 - 1) = some (nI (max i (w / 1024 - 1))) := by
    have t := x_far (i := i) (q := w / 1024) (by omega) (by omega)
    rw [← pk_div (d := 1024) hw (by omega) (by omega)] at t
    exact t
  have hkk : nI w - nI w / 1024 * 1024 = nI 12 := by
    have t := pk_rem (a := w) (d := 1024) hw (by omega) (by omega)
    rw [hk] at t
    exact t
  have hq : nI w / 1024 = nI (w / 1024) := pk_div (d := 1024) hw (by omega) (by omega)
  rw [f1_evaluate_c28, if_neg h0, hst, qb]
  try dsimp only
  rw [far, qb]
  try dsimp only
  rw [hkk, if_neg (by decide), if_neg (by decide), if_neg (by decide), if_neg (by decide), if_neg (by decide), if_neg (by decide), if_neg (by decide), if_neg (by decide), if_neg (by decide), if_neg (by decide), if_neg (by decide), if_neg (by decide), if_neg (by decide), if_neg (by decide)]
  rw [show (nI 12 - 7).toNatClampNeg = 5 by decide, hp]
  simp only [qb, nI_1]
theorem ev13 (hst : f7_stepAt I O sc (nI i) = some (nI w)) (hw : w < 2147483648) (hi : i < en) (hen : en ≤ 300) (hk : w % 1024 = 13) {I' : TI} (hp : f1_push I O 283 (I (rO O 283 1) 6) = some I') : f1_evaluate_c28 n O (m + 1) I 283 sc wa (nI en) (nI i) = f1_evaluate_c28 n O m I' 283 sc wa (nI en) (nI (i + 1)) := by
  have h0 : ¬ nI en ≤ nI i := fun q => by rw [nI_leI (by omega) (by omega)] at q; omega
  have far : fJ9_max_7cf53 (nI i) (nI w / 1024 - 1) = some (nI (max i (w / 1024 - 1))) := by
    have t := x_far (i := i) (q := w / 1024) (by omega) (by omega)
    rw [← pk_div (d := 1024) hw (by omega) (by omega)] at t
    exact t
  have hkk : nI w - nI w / 1024 * 1024 = nI 13 := by
    have t := pk_rem (a := w) (d := 1024) hw (by omega) (by omega)
    rw [hk] at t
    exact t
  have hq : nI w / 1024 = nI (w / 1024) := pk_div (d := 1024) hw (by omega) (by omega)
  rw [f1_evaluate_c28, if_neg h0, hst, qb]
  try dsimp only
  rw [far, qb]
  try dsimp only
  rw [hkk, if_neg (by decide), if_neg (by decide), if_neg (by decide), if_neg (by decide), if_neg (by decide), if_neg (by decide), if_neg (by decide), if_neg (by decide), if_neg (by decide), if_neg (by decide), if_neg (by decide), if_neg (by decide), if_neg (by decide), if_neg (by decide)]
  rw [show (nI 13 - 7).toNatClampNeg = 6 by decide, hp]
  simp only [qb, nI_1]
theorem ev20 (hst : f7_stepAt I O sc (nI i) = some (nI w)) (hw : w < 2147483648) (hi : i < en) (hen : en ≤ 300) (hk : w % 1024 = 20) {I' I2 I3 : TI} {x y z : Int32} (hp : f1_pop I O 283 = some (x, I')) (hp2 : f1_pop I' O 283 = some (y, I2)) (hd : f1_holds (nI 20) y x = some z) (hz : z = 0 ∨ z = 1) (hq2 : f1_push I2 O 283 z = some I3) : f1_evaluate_c28 n O (m + 1) I 283 sc wa (nI en) (nI i) = f1_evaluate_c28 n O m I3 283 sc wa (nI en) (nI (i + 1)) := by
  have h0 : ¬ nI en ≤ nI i := fun q => by rw [nI_leI (by omega) (by omega)] at q; omega
  have far : fJ9_max_7cf53 (nI i) (nI w / 1024 - 1) = some (nI (max i (w / 1024 - 1))) := by
    have t := x_far (i := i) (q := w / 1024) (by omega) (by omega)
    rw [← pk_div (d := 1024) hw (by omega) (by omega)] at t
    exact t
  have hkk : nI w - nI w / 1024 * 1024 = nI 20 := by
    have t := pk_rem (a := w) (d := 1024) hw (by omega) (by omega)
    rw [hk] at t
    exact t
  have hq : nI w / 1024 = nI (w / 1024) := pk_div (d := 1024) hw (by omega) (by omega)
  rw [f1_evaluate_c28, if_neg h0, hst, qb]
  try dsimp only
  rw [far, qb]
  try dsimp only
  rw [hkk, if_neg (by decide), if_neg (by decide), if_neg (by decide), if_neg (by decide), if_neg (by decide), if_neg (by decide), if_neg (by decide), if_neg (by decide), if_neg (by decide), if_neg (by decide), if_neg (by decide), if_neg (by decide), if_pos (by decide)]
  unfold f1_evaluate_c374
  rw [hp, qb]
  try dsimp only
  rw [hp2, qb]
  try dsimp only
  rw [hd, qb]
  rcases hz with rfl | rfl
  · rw [if_pos rfl, hq2]; simp only [qb, nI_1]
  · rw [if_neg (by decide), hq2]; simp only [qb, nI_1]
theorem ev21 (hst : f7_stepAt I O sc (nI i) = some (nI w)) (hw : w < 2147483648) (hi : i < en) (hen : en ≤ 300) (hk : w % 1024 = 21) {I' I2 I3 : TI} {x y z : Int32} (hp : f1_pop I O 283 = some (x, I')) (hp2 : f1_pop I' O 283 = some (y, I2)) (hd : f1_holds (nI 21) y x = some z) (hz : z = 0 ∨ z = 1) (hq2 : f1_push I2 O 283 z = some I3) : f1_evaluate_c28 n O (m + 1) I 283 sc wa (nI en) (nI i) = f1_evaluate_c28 n O m I3 283 sc wa (nI en) (nI (i + 1)) := by
  have h0 : ¬ nI en ≤ nI i := fun q => by rw [nI_leI (by omega) (by omega)] at q; omega
  have far : fJ9_max_7cf53 (nI i) (nI w / 1024 - 1) = some (nI (max i (w / 1024 - 1))) := by
    have t := x_far (i := i) (q := w / 1024) (by omega) (by omega)
    rw [← pk_div (d := 1024) hw (by omega) (by omega)] at t
    exact t
  have hkk : nI w - nI w / 1024 * 1024 = nI 21 := by
    have t := pk_rem (a := w) (d := 1024) hw (by omega) (by omega)
    rw [hk] at t
    exact t
  have hq : nI w / 1024 = nI (w / 1024) := pk_div (d := 1024) hw (by omega) (by omega)
  rw [f1_evaluate_c28, if_neg h0, hst, qb]
  try dsimp only
  rw [far, qb]
  try dsimp only
  rw [hkk, if_neg (by decide), if_neg (by decide), if_neg (by decide), if_neg (by decide), if_neg (by decide), if_neg (by decide), if_neg (by decide), if_neg (by decide), if_neg (by decide), if_neg (by decide), if_neg (by decide), if_neg (by decide), if_pos (by decide)]
  unfold f1_evaluate_c374
  rw [hp, qb]
  try dsimp only
  rw [hp2, qb]
  try dsimp only
  rw [hd, qb]
  rcases hz with rfl | rfl
  · rw [if_pos rfl, hq2]; simp only [qb, nI_1]
  · rw [if_neg (by decide), hq2]; simp only [qb, nI_1]
theorem ev35 (hst : f7_stepAt I O sc (nI i) = some (nI w)) (hw : w < 2147483648) (hi : i < en) (hen : en ≤ 300) (hk : w % 1024 = 35) {I' I2 I3 : TI} {x y z : Int32} (hp : f1_pop I O 283 = some (x, I')) (hp2 : f1_pop I' O 283 = some (y, I2)) (hd : f1_holds (nI 35) y x = some z) (hz : z = 0 ∨ z = 1) (hq2 : f1_push I2 O 283 z = some I3) : f1_evaluate_c28 n O (m + 1) I 283 sc wa (nI en) (nI i) = f1_evaluate_c28 n O m I3 283 sc wa (nI en) (nI (i + 1)) := by
  have h0 : ¬ nI en ≤ nI i := fun q => by rw [nI_leI (by omega) (by omega)] at q; omega
  have far : fJ9_max_7cf53 (nI i) (nI w / 1024 - 1) = some (nI (max i (w / 1024 - 1))) := by
    have t := x_far (i := i) (q := w / 1024) (by omega) (by omega)
    rw [← pk_div (d := 1024) hw (by omega) (by omega)] at t
    exact t
  have hkk : nI w - nI w / 1024 * 1024 = nI 35 := by
    have t := pk_rem (a := w) (d := 1024) hw (by omega) (by omega)
    rw [hk] at t
    exact t
  have hq : nI w / 1024 = nI (w / 1024) := pk_div (d := 1024) hw (by omega) (by omega)
  rw [f1_evaluate_c28, if_neg h0, hst, qb]
  try dsimp only
  rw [far, qb]
  try dsimp only
  rw [hkk, if_neg (by decide), if_neg (by decide), if_neg (by decide), if_neg (by decide), if_neg (by decide), if_neg (by decide), if_neg (by decide), if_neg (by decide), if_neg (by decide), if_neg (by decide), if_neg (by decide), if_neg (by decide), if_pos (by decide)]
  unfold f1_evaluate_c374
  rw [hp, qb]
  try dsimp only
  rw [hp2, qb]
  try dsimp only
  rw [hd, qb]
  rcases hz with rfl | rfl
  · rw [if_pos rfl, hq2]; simp only [qb, nI_1]
  · rw [if_neg (by decide), hq2]; simp only [qb, nI_1]
theorem ev60 (hst : f7_stepAt I O sc (nI i) = some (nI w)) (hw : w < 2147483648) (hi : i < en) (hen : en ≤ 300) (hk : w % 1024 = 60) {I' I2 I3 : TI} {x y z : Int32} (hp : f1_pop I O 283 = some (x, I')) (hp2 : f1_pop I' O 283 = some (y, I2)) (hd : f1_holds (nI 60) y x = some z) (hz : z = 0 ∨ z = 1) (hq2 : f1_push I2 O 283 z = some I3) : f1_evaluate_c28 n O (m + 1) I 283 sc wa (nI en) (nI i) = f1_evaluate_c28 n O m I3 283 sc wa (nI en) (nI (i + 1)) := by
  have h0 : ¬ nI en ≤ nI i := fun q => by rw [nI_leI (by omega) (by omega)] at q; omega
  have far : fJ9_max_7cf53 (nI i) (nI w / 1024 - 1) = some (nI (max i (w / 1024 - 1))) := by
    have t := x_far (i := i) (q := w / 1024) (by omega) (by omega)
    rw [← pk_div (d := 1024) hw (by omega) (by omega)] at t
    exact t
  have hkk : nI w - nI w / 1024 * 1024 = nI 60 := by
    have t := pk_rem (a := w) (d := 1024) hw (by omega) (by omega)
    rw [hk] at t
    exact t
  have hq : nI w / 1024 = nI (w / 1024) := pk_div (d := 1024) hw (by omega) (by omega)
  rw [f1_evaluate_c28, if_neg h0, hst, qb]
  try dsimp only
  rw [far, qb]
  try dsimp only
  rw [hkk, if_neg (by decide), if_neg (by decide), if_neg (by decide), if_neg (by decide), if_neg (by decide), if_neg (by decide), if_neg (by decide), if_neg (by decide), if_neg (by decide), if_neg (by decide), if_neg (by decide), if_neg (by decide), if_pos (by decide)]
  unfold f1_evaluate_c374
  rw [hp, qb]
  try dsimp only
  rw [hp2, qb]
  try dsimp only
  rw [hd, qb]
  rcases hz with rfl | rfl
  · rw [if_pos rfl, hq2]; simp only [qb, nI_1]
  · rw [if_neg (by decide), hq2]; simp only [qb, nI_1]
theorem ev61 (hst : f7_stepAt I O sc (nI i) = some (nI w)) (hw : w < 2147483648) (hi : i < en) (hen : en ≤ 300) (hk : w % 1024 = 61) {I' I2 I3 : TI} {x y z : Int32} (hp : f1_pop I O 283 = some (x, I')) (hp2 : f1_pop I' O 283 = some (y, I2)) (hd : f1_holds (nI 61) y x = some z) (hz : z = 0 ∨ z = 1) (hq2 : f1_push I2 O 283 z = some I3) : f1_evaluate_c28 n O (m + 1) I 283 sc wa (nI en) (nI i) = f1_evaluate_c28 n O m I3 283 sc wa (nI en) (nI (i + 1)) := by
  have h0 : ¬ nI en ≤ nI i := fun q => by rw [nI_leI (by omega) (by omega)] at q; omega
  have far : fJ9_max_7cf53 (nI i) (nI w / 1024 - 1) = some (nI (max i (w / 1024 - 1))) := by
    have t := x_far (i := i) (q := w / 1024) (by omega) (by omega)
    rw [← pk_div (d := 1024) hw (by omega) (by omega)] at t
    exact t
  have hkk : nI w - nI w / 1024 * 1024 = nI 61 := by
    have t := pk_rem (a := w) (d := 1024) hw (by omega) (by omega)
    rw [hk] at t
    exact t
  have hq : nI w / 1024 = nI (w / 1024) := pk_div (d := 1024) hw (by omega) (by omega)
  rw [f1_evaluate_c28, if_neg h0, hst, qb]
  try dsimp only
  rw [far, qb]
  try dsimp only
  rw [hkk, if_neg (by decide), if_neg (by decide), if_neg (by decide), if_neg (by decide), if_neg (by decide), if_neg (by decide), if_neg (by decide), if_neg (by decide), if_neg (by decide), if_neg (by decide), if_neg (by decide), if_neg (by decide), if_pos (by decide)]
  unfold f1_evaluate_c374
  rw [hp, qb]
  try dsimp only
  rw [hp2, qb]
  try dsimp only
  rw [hd, qb]
  rcases hz with rfl | rfl
  · rw [if_pos rfl, hq2]; simp only [qb, nI_1]
  · rw [if_neg (by decide), hq2]; simp only [qb, nI_1]
theorem ev62 (hst : f7_stepAt I O sc (nI i) = some (nI w)) (hw : w < 2147483648) (hi : i < en) (hen : en ≤ 300) (hk : w % 1024 = 62) {I' I2 I3 : TI} {x y z : Int32} (hp : f1_pop I O 283 = some (x, I')) (hp2 : f1_pop I' O 283 = some (y, I2)) (hd : f1_holds (nI 62) y x = some z) (hz : z = 0 ∨ z = 1) (hq2 : f1_push I2 O 283 z = some I3) : f1_evaluate_c28 n O (m + 1) I 283 sc wa (nI en) (nI i) = f1_evaluate_c28 n O m I3 283 sc wa (nI en) (nI (i + 1)) := by
  have h0 : ¬ nI en ≤ nI i := fun q => by rw [nI_leI (by omega) (by omega)] at q; omega
  have far : fJ9_max_7cf53 (nI i) (nI w / 1024 - 1) = some (nI (max i (w / 1024 - 1))) := by
    have t := x_far (i := i) (q := w / 1024) (by omega) (by omega)
    rw [← pk_div (d := 1024) hw (by omega) (by omega)] at t
    exact t
  have hkk : nI w - nI w / 1024 * 1024 = nI 62 := by
    have t := pk_rem (a := w) (d := 1024) hw (by omega) (by omega)
    rw [hk] at t
    exact t
  have hq : nI w / 1024 = nI (w / 1024) := pk_div (d := 1024) hw (by omega) (by omega)
  rw [f1_evaluate_c28, if_neg h0, hst, qb]
  try dsimp only
  rw [far, qb]
  try dsimp only
  rw [hkk, if_neg (by decide), if_neg (by decide), if_neg (by decide), if_neg (by decide), if_neg (by decide), if_neg (by decide), if_neg (by decide), if_neg (by decide), if_neg (by decide), if_neg (by decide), if_neg (by decide), if_neg (by decide), if_pos (by decide)]
  unfold f1_evaluate_c374
  rw [hp, qb]
  try dsimp only
  rw [hp2, qb]
  try dsimp only
  rw [hd, qb]
  rcases hz with rfl | rfl
  · rw [if_pos rfl, hq2]; simp only [qb, nI_1]
  · rw [if_neg (by decide), hq2]; simp only [qb, nI_1]
theorem ev316 (hst : f7_stepAt I O sc (nI i) = some (nI w)) (hw : w < 2147483648) (hi : i < en) (hen : en ≤ 300) (hk : w % 1024 = 316) {I' I2 I3 : TI} {x y z : Int32} (hp : f1_pop I O 283 = some (x, I')) (hp2 : f1_pop I' O 283 = some (y, I2)) (hd : f1_holds (nI 316) y x = some z) (hz : z = 0 ∨ z = 1) (hq2 : f1_push I2 O 283 z = some I3) : f1_evaluate_c28 n O (m + 1) I 283 sc wa (nI en) (nI i) = f1_evaluate_c28 n O m I3 283 sc wa (nI en) (nI (i + 1)) := by
  have h0 : ¬ nI en ≤ nI i := fun q => by rw [nI_leI (by omega) (by omega)] at q; omega
  have far : fJ9_max_7cf53 (nI i) (nI w / 1024 - 1) = some (nI (max i (w / 1024 - 1))) := by
    have t := x_far (i := i) (q := w / 1024) (by omega) (by omega)
    rw [← pk_div (d := 1024) hw (by omega) (by omega)] at t
    exact t
  have hkk : nI w - nI w / 1024 * 1024 = nI 316 := by
    have t := pk_rem (a := w) (d := 1024) hw (by omega) (by omega)
    rw [hk] at t
    exact t
  have hq : nI w / 1024 = nI (w / 1024) := pk_div (d := 1024) hw (by omega) (by omega)
  rw [f1_evaluate_c28, if_neg h0, hst, qb]
  try dsimp only
  rw [far, qb]
  try dsimp only
  rw [hkk, if_neg (by decide), if_neg (by decide), if_neg (by decide), if_neg (by decide), if_neg (by decide), if_neg (by decide), if_neg (by decide), if_neg (by decide), if_neg (by decide), if_neg (by decide), if_neg (by decide), if_neg (by decide), if_pos (by decide)]
  unfold f1_evaluate_c374
  rw [hp, qb]
  try dsimp only
  rw [hp2, qb]
  try dsimp only
  rw [hd, qb]
  rcases hz with rfl | rfl
  · rw [if_pos rfl, hq2]; simp only [qb, nI_1]
  · rw [if_neg (by decide), hq2]; simp only [qb, nI_1]
theorem ev318 (hst : f7_stepAt I O sc (nI i) = some (nI w)) (hw : w < 2147483648) (hi : i < en) (hen : en ≤ 300) (hk : w % 1024 = 318) {I' I2 I3 : TI} {x y z : Int32} (hp : f1_pop I O 283 = some (x, I')) (hp2 : f1_pop I' O 283 = some (y, I2)) (hd : f1_holds (nI 318) y x = some z) (hz : z = 0 ∨ z = 1) (hq2 : f1_push I2 O 283 z = some I3) : f1_evaluate_c28 n O (m + 1) I 283 sc wa (nI en) (nI i) = f1_evaluate_c28 n O m I3 283 sc wa (nI en) (nI (i + 1)) := by
  have h0 : ¬ nI en ≤ nI i := fun q => by rw [nI_leI (by omega) (by omega)] at q; omega
  have far : fJ9_max_7cf53 (nI i) (nI w / 1024 - 1) = some (nI (max i (w / 1024 - 1))) := by
    have t := x_far (i := i) (q := w / 1024) (by omega) (by omega)
    rw [← pk_div (d := 1024) hw (by omega) (by omega)] at t
    exact t
  have hkk : nI w - nI w / 1024 * 1024 = nI 318 := by
    have t := pk_rem (a := w) (d := 1024) hw (by omega) (by omega)
    rw [hk] at t
    exact t
  have hq : nI w / 1024 = nI (w / 1024) := pk_div (d := 1024) hw (by omega) (by omega)
  rw [f1_evaluate_c28, if_neg h0, hst, qb]
  try dsimp only
  rw [far, qb]
  try dsimp only
  rw [hkk, if_neg (by decide), if_neg (by decide), if_neg (by decide), if_neg (by decide), if_neg (by decide), if_neg (by decide), if_neg (by decide), if_neg (by decide), if_neg (by decide), if_neg (by decide), if_neg (by decide), if_neg (by decide), if_pos (by decide)]
  unfold f1_evaluate_c374
  rw [hp, qb]
  try dsimp only
  rw [hp2, qb]
  try dsimp only
  rw [hd, qb]
  rcases hz with rfl | rfl
  · rw [if_pos rfl, hq2]; simp only [qb, nI_1]
  · rw [if_neg (by decide), hq2]; simp only [qb, nI_1]
theorem x_step (hn : 100000 ≤ n) (hO : OF O) (hB : WB N) (hE : EvX I O sc wa sz ky mo wr hr N e st en) {m i j : Nat} {S T : List Int} (hi : i < en) (hen : en ≤ 300) (hS : XSt I S) (oS : okV S) (lS : S.length ≤ 64) (hx : xS e (st i) i S = some (j, T)) (oT : okV T) (lT : T.length ≤ 64) : ∃ I', f1_evaluate_c28 n O (m + 1) I 283 sc wa (nI en) (nI i) = f1_evaluate_c28 n O m I' 283 sc wa (nI en) (nI j) ∧ XSt I' T ∧ JF I I' := by
  have hst := x_stepAt hE hi
  have hw : st i < 2147483648 := (hE.2.2.2.1 i hi).2
  have hnm := hE.2.2.2.2.1
  have hVV := hE.2.2.2.2.2.1
  have hh := hE.2.2.2.2.2.2.1
  have o1 := o_283_1 hO
  generalize st i = w at *
  by_cases k28 : w % 1024 = 28
  · have hx' : some (i + 1, ((w / 1024 : Nat) : Int) :: S) = some (j, T) := by rw [← hx]; unfold xS; rw [if_pos k28]
    obtain ⟨rfl, rfl⟩ := Prod.mk.inj (Option.some.inj hx')
    obtain ⟨I', p1, p2, p3⟩ := x_push hO (x := ((w / 1024 : Nat) : Int)) hS (by rw [List.length_cons] at lT; omega)
    rw [iV_n (by omega)] at p1
    exact ⟨I', ev28 hst hw hi hen k28 p1, p2, p3⟩
  by_cases kn : 7 ≤ w % 1024 ∧ w % 1024 ≤ 13
  · have hx' : some (i + 1, e.1 (nmX (w % 1024 - 7)) :: S) = some (j, T) := by rw [← hx]; unfold xS; rw [if_neg k28, if_pos kn]
    obtain ⟨rfl, rfl⟩ := Prod.mk.inj (Option.some.inj hx')
    obtain ⟨I', p1, p2, p3⟩ := x_push hO (x := e.1 (nmX (w % 1024 - 7))) hS (by rw [List.length_cons] at lT; omega)
    rw [← hnm (w % 1024 - 7) (by omega)] at p1
    refine ⟨I', ?_, p2, p3⟩
    have kc : w % 1024 = 7 ∨ w % 1024 = 8 ∨ w % 1024 = 9 ∨ w % 1024 = 10 ∨ w % 1024 = 11 ∨ w % 1024 = 12 ∨ w % 1024 = 13 := by omega
    rcases kc with k | k | k | k | k | k | k
    · rw [k] at p1; exact ev7 hst hw hi hen k (by rw [o1]; exact p1)
    · rw [k] at p1; exact ev8 hst hw hi hen k (by rw [o1]; exact p1)
    · rw [k] at p1; exact ev9 hst hw hi hen k (by rw [o1]; exact p1)
    · rw [k] at p1; exact ev10 hst hw hi hen k (by rw [o1]; exact p1)
    · rw [k] at p1; exact ev11 hst hw hi hen k (by rw [o1]; exact p1)
    · rw [k] at p1; exact ev12 hst hw hi hen k (by rw [o1]; exact p1)
    · rw [k] at p1; exact ev13 hst hw hi hen k (by rw [o1]; exact p1)
  by_cases k18 : w % 1024 = 18
  · have hx' : some (max i (w / 1024 - 1) + 1, S) = some (j, T) := by rw [← hx]; unfold xS; rw [if_neg k28, if_neg kn, if_pos k18]
    obtain ⟨rfl, rfl⟩ := Prod.mk.inj (Option.some.inj hx')
    exact ⟨I, ev18 hst hw hi hen k18, hS, JF_r I⟩
  cases S with
  | nil =>
    have hx' : none = some (j, T) := by rw [← hx]; unfold xS; rw [if_neg k28, if_neg kn, if_neg k18]
    exact absurd hx' (by intro q; cases q)
  | cons x S1 =>
    have bx : bB x := oS x List.mem_cons_self
    rw [List.length_cons] at lS
    obtain ⟨I1, p1, p2, p3⟩ := x_pop hO hS (by omega)
    have ix0 : iV x = 0 ↔ x = 0 := iV_eq bx bd0
    by_cases k17 : w % 1024 = 17
    · have hx' : some (if x = 0 then max i (w / 1024 - 1) + 1 else i + 1, S1) = some (j, T) := by rw [← hx]; unfold xS; rw [if_neg k28, if_neg kn, if_neg k18]; dsimp only; rw [if_pos k17]
      obtain ⟨rfl, rfl⟩ := Prod.mk.inj (Option.some.inj hx')
      refine ⟨I1, ?_, p2, p3⟩
      rw [ev17 hst hw hi hen k17 p1]
      by_cases q : x = 0
      · rw [if_pos (ix0.mpr q), if_pos q]
      · rw [if_neg (fun w => q (ix0.mp w)), if_neg q]
    by_cases k1 : w % 1024 = 14 ∨ w % 1024 = 15 ∨ w % 1024 = 29 ∨ w % 1024 = 22
    · have hx' : some (i + 1, xS1 e (w % 1024) x :: S1) = some (j, T) := by rw [← hx]; unfold xS; rw [if_neg k28, if_neg kn, if_neg k18]; dsimp only; rw [if_neg k17, if_pos k1]
      obtain ⟨rfl, rfl⟩ := Prod.mk.inj (Option.some.inj hx')
      obtain ⟨I2, s1, s2, s3⟩ := x_push hO (x := xS1 e (w % 1024) x) p2 (by rw [List.length_cons] at lT; omega)
      refine ⟨I2, ?_, s2, JF_t p3 s3⟩
      rcases k1 with k1 | k1 | k1 | k1
      · rw [k1, show xS1 e 14 x = dgI x from rfl] at s1
        exact ev14 hst hw hi hen k1 p1 (x_digits hn bx) s1
      · rw [k1, show xS1 e 15 x = e.2 x from rfl, hh] at s1
        exact ev15 hst hw hi hen k1 p1 (x_holes hn (EvX_fr hE p3).2.2.2.2.2.1 hB bx) s1
      · rw [k1, show xS1 e 29 x = -x from rfl, show iV (-x) = -iV x from Int32.ofInt_neg x] at s1
        exact ev29 hst hw hi hen k1 p1 s1
      · rw [k1] at s1
        refine ev22 hst hw hi hen k1 p1 ?_
        rw [← s1]
        by_cases q : x = 0
        · rw [if_pos (ix0.mpr q), show xS1 e 22 x = 1 by show (if x = 0 then (1 : Int) else 0) = 1; rw [if_pos q]]; rfl
        · rw [if_neg (fun w => q (ix0.mp w)), show xS1 e 22 x = 0 by show (if x = 0 then (1 : Int) else 0) = 0; rw [if_neg q]]; rfl
    cases S1 with
    | nil =>
      have hx' : none = some (j, T) := by rw [← hx]; unfold xS; rw [if_neg k28, if_neg kn, if_neg k18]; dsimp only; rw [if_neg k17, if_neg k1]
      exact absurd hx' (by intro q; cases q)
    | cons y S2 =>
      have by' : bB y := oS y (List.mem_cons_of_mem _ List.mem_cons_self)
      rw [List.length_cons] at lS
      obtain ⟨I2, r1, r2, r3⟩ := x_pop hO p2 (by omega)
      by_cases k2 : w % 1024 = 43 ∨ w % 1024 = 45 ∨ w % 1024 = 42 ∨ w % 1024 = 47 ∨ w % 1024 = 20 ∨ w % 1024 = 21 ∨ w % 1024 = 35 ∨ w % 1024 = 60 ∨ w % 1024 = 61 ∨ w % 1024 = 62 ∨ w % 1024 = 316 ∨ w % 1024 = 318
      · have hx' : some (i + 1, xS2 (w % 1024) y x :: S2) = some (j, T) := by rw [← hx]; unfold xS; rw [if_neg k28, if_neg kn, if_neg k18]; dsimp only; rw [if_neg k17, if_neg k1, if_pos k2]
        obtain ⟨rfl, rfl⟩ := Prod.mk.inj (Option.some.inj hx')
        obtain ⟨I3, s1, s2, s3⟩ := x_push hO (x := xS2 (w % 1024) y x) r2 (by rw [List.length_cons] at lT; omega)
        refine ⟨I3, ?_, s2, JF_t p3 (JF_t r3 s3)⟩
        by_cases ka : w % 1024 = 43 ∨ w % 1024 = 45 ∨ w % 1024 = 42 ∨ w % 1024 = 47
        · have d := x_reckon ka by' bx
          have e3 : xS2 (w % 1024) y x = ar (w % 1024) y x := x_two_ar (by rcases ka with k | k | k | k <;> rw [k] <;> rfl) y x
          rw [e3] at s1
          rcases ka with k | k | k | k
          · rw [k] at d s1; exact ev43 hst hw hi hen k p1 r1 d s1
          · rw [k] at d s1; exact ev45 hst hw hi hen k p1 r1 d s1
          · rw [k] at d s1; exact ev42 hst hw hi hen k p1 r1 d s1
          · rw [k] at d s1; exact ev47 hst hw hi hen k p1 r1 d s1
        · have kb : w % 1024 = 20 ∨ w % 1024 = 21 ∨ w % 1024 = 35 ∨ w % 1024 = 60 ∨ w % 1024 = 61 ∨ w % 1024 = 62 ∨ w % 1024 = 316 ∨ w % 1024 = 318 := by omega
          have d := x_holds kb bx by'
          have e3 : xS2 (w % 1024) y x = b2i (cmpB (w % 1024) y x) := x_two_cmp (by rcases kb with k | k | k | k | k | k | k | k <;> rw [k] <;> rfl) y x
          have hz : iV (xS2 (w % 1024) y x) = 0 ∨ iV (xS2 (w % 1024) y x) = 1 := by
            rw [e3]
            cases cmpB (w % 1024) y x
            · left; decide
            · right; decide
          rcases kb with k | k | k | k | k | k | k | k
          · rw [k] at d s1 hz; exact ev20 hst hw hi hen k p1 r1 d hz s1
          · rw [k] at d s1 hz; exact ev21 hst hw hi hen k p1 r1 d hz s1
          · rw [k] at d s1 hz; exact ev35 hst hw hi hen k p1 r1 d hz s1
          · rw [k] at d s1 hz; exact ev60 hst hw hi hen k p1 r1 d hz s1
          · rw [k] at d s1 hz; exact ev61 hst hw hi hen k p1 r1 d hz s1
          · rw [k] at d s1 hz; exact ev62 hst hw hi hen k p1 r1 d hz s1
          · rw [k] at d s1 hz; exact ev316 hst hw hi hen k p1 r1 d hz s1
          · rw [k] at d s1 hz; exact ev318 hst hw hi hen k p1 r1 d hz s1
      · have hx' : none = some (j, T) := by rw [← hx]; unfold xS; rw [if_neg k28, if_neg kn, if_neg k18]; dsimp only; rw [if_neg k17, if_neg k1, if_neg k2]
        exact absurd hx' (by intro q; cases q)
theorem x_run (hn : 100000 ≤ n) (hO : OF O) (hB : WB N) (hen : en ≤ 300) : ∀ c (I : TI) i S v m, EvX I O sc wa sz ky mo wr hr N e st en → XSt I S → okV S → S.length ≤ 64 → XR e st c i S en [v] → c < m → ∃ I', f1_evaluate_c28 n O m I 283 sc wa (nI en) (nI i) = some (iV v, I') ∧ JF I I' := by
  intro c
  induction c with
  | zero =>
    intro I i S v m hE hS oS lS hr hm
    obtain ⟨m', rfl⟩ : ∃ m', m = m' + 1 := ⟨m - 1, by omega⟩
    obtain ⟨rfl, rfl⟩ := hr
    obtain ⟨I1, p1, p2, p3⟩ := x_pop hO hS (by show 0 < 64; omega)
    refine ⟨I1, ?_, p3⟩
    simp (disch := omega) only [f1_evaluate_c28, p1, qL, qb, qbl, qadd, qmul, qsubm, qdm, qsub, qdiv, qcl, qlt, qle, qeq, nltT, nltF, nleT, nleF, neqT, neqF, or_false, false_or, or_true, true_or, or_self, and_true, true_and, and_false, false_and, and_self, not_true_eq_false, not_false_eq_true, ↓reduceIte]
  | succ c ih =>
    intro I i S v m hE hS oS lS hr hm
    obtain ⟨m', rfl⟩ : ∃ m', m = m' + 1 := ⟨m - 1, by omega⟩
    obtain ⟨j, T, a1, a2, a3, a4, a5⟩ := hr
    have l := XR_le _ _ _ _ _ a5
    obtain ⟨I1, p1, p2, p3⟩ := x_step hn hO hB hE (m := m') (by omega) hen hS oS lS a1 a2 a3
    obtain ⟨I2, q1, q2⟩ := ih I1 j T v m' (EvX_fr hE p3) p2 a2 a3 a5 (by omega)
    exact ⟨I2, by rw [p1]; exact q1, JF_t p3 q2⟩
end XE
