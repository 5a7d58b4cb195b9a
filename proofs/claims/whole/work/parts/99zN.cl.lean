/-! the class reads a clause -/
def Kx0 (n : Nat) (O : TO) (B : TN) (z T sc : Nat) (I0 : TI) : Prop := 100000 ≤ n ∧ OF O ∧ rO O 324 1 = sc ∧ rO O sc 0 = sc + 1 ∧ (300 ≤ sc ∧ sc + 5 < 324) ∧ T ≤ 300 ∧ stT B z T = z ∧ z ≤ 300 ∧ (I0 278 4 = nI z ∧ I0 278 5 = nI (T + 1) ∧ ∀ k, k < T + 1 → I0 280 k = nI (kdT B z k) ∧ I0 281 k = nI (stT B z k) ∧ I0 282 k = nI (min 10000 (nvT B z k)))
section KC
variable {n : Nat} {O : TO} {B : TN} {z T sc : Nat} {I0 I : TI} {i q : Nat} {st : TN}
theorem y_come (hx : Kx0 n O B z T sc I0) (h : KS B z T sc I0 I i q st) {j : Nat} (hj : j ≤ T) (hq : q ≤ j + 1) : ∃ I', f5_comeTo I O 324 (nI j) = some I' ∧ KS B z T sc I0 I' j q st := by
  obtain ⟨hn, hO, hs1, hs2, hs3, hT, hT2, hz, a1, a2, a3⟩ := hx
  obtain ⟨f, h1, h2, h3, h4, h5, h6, h7⟩ := h
  obtain ⟨b1, b2, b3⟩ := a3 j (by omega)
  have e278 : I 278 = I0 278 := f.1 278 (by omega) (by omega) (by omega)
  have e280 : I 280 = I0 280 := f.1 280 (by omega) (by omega) (by omega)
  have e282 : I 282 = I0 282 := f.1 282 (by omega) (by omega) (by omega)
  refine ⟨sI (sI (sI I 324 2 (nI j)) 324 3 (nI (kdT B z j))) 324 4 (nI (min 10000 (nvT B z j))), ?_, ⟨fun a g1 g2 g3 => by rw [sI_o _ _ g1, sI_o _ _ g1, sI_o _ _ g1]; exact f.1 a g1 g2 g3, fun k g1 g2 g3 g4 g5 => by rw [sI_k _ _ g3, sI_k _ _ g2, sI_k _ _ g1]; exact f.2.1 k g1 g2 g3 g4 g5, fun k g1 => by rw [sI_o _ _ (by omega), sI_o _ _ (by omega), sI_o _ _ (by omega)]; exact f.2.2 k g1⟩, hj, ?_, ?_, sI_s _ _ _ _, ?_, ⟨hq, by rw [sI_k _ _ (by omega), sI_k _ _ (by omega), sI_k _ _ (by omega)]; exact h6.2.1, by rw [sI_k _ _ (by omega), sI_k _ _ (by omega), sI_k _ _ (by omega)]; exact h6.2.2⟩, fun k hk => by rw [sI_o _ _ (by omega), sI_o _ _ (by omega), sI_o _ _ (by omega)]; exact h7 k hk⟩
  · have ng : ¬ (nI j < 0 ∨ 301 ≤ (nI j).toNatClampNeg) := nI_in (by omega) (by omega)
    rw [f5_comeTo, qbl, if_neg (fun g => by have := (nI_ltI (b := 0) (by omega) (by omega)).mp g; omega), o_324_0 hO, sI_o _ _ (show 278 ≠ 324 by omega), e278, a2, if_neg (nle_i (by omega) (by omega) (by omega)), if_neg (fun g => by have := (nI_ltI (a := 300) (by omega) (by omega)).mp g; omega), f5_comeTo_c32, if_neg (by decide), if_neg ng, o_324_0 hO, o_278_1 hO, sI_o _ _ (show 280 ≠ 324 by omega), qcl (by omega), e280, b1, f5_comeTo_c52, qbl, if_neg (by decide), if_neg (nI_in (by omega) (by omega)), o_324_0 hO, o_278_3 hO, sI_o _ _ (show 282 ≠ 324 by omega), sI_o _ _ (show 282 ≠ 324 by omega), qcl (by omega), e282, b3, qbl]
  · rw [sI_k _ _ (by omega), sI_k _ _ (by omega), sI_s]
  · rw [sI_k _ _ (by omega), sI_s]
  · rw [sI_o _ _ (by omega), sI_o _ _ (by omega), sI_o _ _ (by omega)]; exact h5
theorem y_nxt (hx : Kx0 n O B z T sc I0) (h : KS B z T sc I0 I i q st) (hk : kdT B z i ≠ 27) : ∃ I', f5_comeTo I O 324 (I 324 2 + 1) = some I' ∧ KS B z T sc I0 I' (i + 1) q st := by
  have hiT := kd_T hx.2.2.2.2.2.2.1 h.2.1 hk
  have hq := h.2.2.2.2.2.2.1.1
  rw [h.2.2.1, nI_1]
  exact y_come hx h (by omega) (by omega)
theorem y_ref (hx : Kx0 n O B z T sc I0) (h : KS B z T sc I0 I i q st) {f : Nat} (hf : 1 ≤ f ∧ f ≤ 7) : ∃ I', f5_refuse I O 324 (nI f) = some (0, I') ∧ KFl B z T sc I0 I' f i := by
  obtain ⟨hn, hO, hs1, hs2, hs3, hT, hT2, hz, a1, a2, a3⟩ := hx
  obtain ⟨g, h1, h2, h3, h4, h5, h6, h7⟩ := h
  obtain ⟨b1, b2, b3⟩ := a3 i (by omega)
  have e278 : I 278 = I0 278 := g.1 278 (by omega) (by omega) (by omega)
  have e281 : I 281 = I0 281 := g.1 281 (by omega) (by omega) (by omega)
  refine ⟨sI (sI I 324 6 (nI f)) 324 7 (nI (stT B z i)), ?_, ⟨fun a g1 g2 g3 => by rw [sI_o _ _ g1, sI_o _ _ g1]; exact g.1 a g1 g2 g3, fun k g1 g2 g3 g4 g5 => by rw [sI_k _ _ g5, sI_k _ _ g4]; exact g.2.1 k g1 g2 g3 g4 g5, fun k g1 => by rw [sI_o _ _ (by omega), sI_o _ _ (by omega)]; exact g.2.2 k g1⟩, hf, h1, by rw [sI_k _ _ (by omega), sI_s], sI_s _ _ _ _⟩
  rw [f5_refuse, qbl, sI_k _ _ (show (2 : Nat) ≠ 6 by omega), h2, if_neg (fun g => by have := (nI_ltI (b := 0) (by omega) (by omega)).mp g; omega), o_324_0 hO, sI_o _ _ (show 278 ≠ 324 by omega), e278, a2, if_neg (nle_i (by omega) (by omega) (by omega)), if_neg (fun g => by have := (nI_ltI (a := 300) (by omega) (by omega)).mp g; omega), if_neg (nI_in (by omega) (by omega)), o_278_2 hO, sI_o _ _ (show 281 ≠ 324 by omega), e281, qcl (by omega), b2, qbl]
theorem y_add (hx : Kx0 n O B z T sc I0) (h : KS B z T sc I0 I i q st) (hq : q ≤ i) (hq3 : q < 300) {w : Nat} (hw : w < 2147483648) : ∃ I', f7_add I O (rO O 324 1) (nI w) = some (nI q, I') ∧ KS B z T sc I0 I' i (q + 1) (upN st q w) := by
  obtain ⟨hn, hO, hs1, hs2, hs3, hT, hT2, hz, -⟩ := hx
  obtain ⟨f, h1, h2, h3, h4, h5, h6, h7⟩ := h
  refine ⟨sI (sI I (sc + 1) q (nI w)) sc 5 (nI (q + 1)), ?_, ⟨fun a g1 g2 g3 => by rw [sI_o _ _ g2, sI_o _ _ g3]; exact f.1 a g1 g2 g3, fun k g1 g2 g3 g4 g5 => by rw [sI_o _ _ (by omega), sI_o _ _ (by omega)]; exact f.2.1 k g1 g2 g3 g4 g5, fun k g1 => by rw [sI_k _ _ g1, sI_o _ _ (by omega)]; exact f.2.2 k g1⟩, h1, ?_, ?_, ?_, sI_s _ _ _ _, ⟨by omega, by rw [sI_o _ _ (by omega), sI_o _ _ (by omega)]; exact h6.2.1, by rw [sI_o _ _ (by omega), sI_o _ _ (by omega)]; exact h6.2.2⟩, fun k hk => ?_⟩
  · rw [hs1, f7_add, h5, if_neg (fun g => by have := (nI_ltI (b := 0) (by omega) (by omega)).mp g; omega), if_pos (show nI q < 300 from (nI_ltI (b := 300) (by omega) (by omega)).mpr (by omega)), if_neg (nI_in (by omega) (by omega)), hs2, qcl (by omega), qbl, sI_o _ _ (show sc ≠ sc + 1 by omega), h5, nI_1, qbl, sI_s, show nI (q + 1) - 1 = nI q from qsub (b := 1) (by omega)]
  · rw [sI_o _ _ (by omega), sI_o _ _ (by omega)]; exact h2
  · rw [sI_o _ _ (by omega), sI_o _ _ (by omega)]; exact h3
  · rw [sI_o _ _ (by omega), sI_o _ _ (by omega)]; exact h4
  · rw [sI_o _ _ (show sc + 1 ≠ sc by omega)]
    by_cases y : k = q
    · rw [y, sI_s, upN_s]; exact ⟨rfl, hw⟩
    · rw [sI_k _ _ y, upN_o _ y]; exact h7 k (by omega)
theorem y_exp (hx : Kx0 n O B z T sc I0) (hB : ∀ p, p < z → B p < 256) (h : KS B z T sc I0 I i q st) {w : Nat} (hw : w < 600) (h27 : w ≠ 27) : (kdT B z i = w ∧ ∃ I', f5_expect I O 324 (nI w) = some (1, I') ∧ KS B z T sc I0 I' (i + 1) q st) ∨ (kdT B z i ≠ w ∧ ∃ I', f5_expect I O 324 (nI w) = some (0, I') ∧ KFl B z T sc I0 I' 1 i) := by
  have kl := kd_lt B z i hB
  by_cases y : kdT B z i = w
  · left
    obtain ⟨I', q1, q2⟩ := y_nxt hx h (by omega)
    exact ⟨y, I', by rw [f5_expect, h.2.2.2.1, if_pos (congrArg nI y), q1, qb], q2⟩
  · right
    obtain ⟨I', q1, q2⟩ := y_ref hx h (f := 1) ⟨by omega, by omega⟩
    exact ⟨y, I', by rw [f5_expect, h.2.2.2.1, if_neg (nI_nk kl hw y), show f5_refuse I O 324 1 = _ from q1, qb], q2⟩
theorem y_isn (hx : Kx0 n O B z T sc I0) (hB : ∀ p, p < z → B p < 256) (h : KS B z T sc I0 I i q st) {lo hi : Nat} (hhi : hi < 9999) (hlo : lo ≤ hi) : ((kdT B z i = 28 ∧ lo ≤ nvT B z i ∧ nvT B z i ≤ hi) ∧ f5_isNumber I O 324 (nI lo) (nI hi) = some (1, I)) ∨ (∃ f I', f5_isNumber I O 324 (nI lo) (nI hi) = some (0, I') ∧ KFl B z T sc I0 I' f i ∧ ((kdT B z i ≠ 28 ∧ f = 1) ∨ (kdT B z i = 28 ∧ ¬ (lo ≤ nvT B z i ∧ nvT B z i ≤ hi) ∧ f = 2))) := by
  have kl := kd_lt B z i hB
  have k3 : I 324 3 = nI (kdT B z i) := h.2.2.2.1
  have k4 : I 324 4 = nI (min 10000 (nvT B z i)) := h.2.2.2.2.1
  by_cases k28 : kdT B z i = 28
  · have two : ¬ (lo ≤ nvT B z i ∧ nvT B z i ≤ hi) → ∃ f I', ((f5_refuse I O 324 (2 : Int32)).bind fun r3 => (if r3.1 = 0 then some ((0 : Int32), r3.2) else some ((1 : Int32), r3.2))) = some (0, I') ∧ KFl B z T sc I0 I' f i ∧ ((kdT B z i ≠ 28 ∧ f = 1) ∨ (kdT B z i = 28 ∧ ¬ (lo ≤ nvT B z i ∧ nvT B z i ≤ hi) ∧ f = 2)) := by
      intro hno
      obtain ⟨I', q1, q2⟩ := y_ref hx h (f := 2) ⟨by omega, by omega⟩
      exact ⟨2, I', by rw [show f5_refuse I O 324 2 = _ from q1, qb, if_pos rfl], q2, Or.inr ⟨k28, hno, rfl⟩⟩
    rw [f5_isNumber, k3, if_pos (show nI (kdT B z i) = 28 by rw [k28]; rfl), k4]
    by_cases a : min 10000 (nvT B z i) < lo
    · right
      rw [if_pos ((nI_ltI (by omega) (by omega)).mpr a)]
      exact two (by omega)
    · rw [if_neg (fun g => a ((nI_ltI (by omega) (by omega)).mp g))]
      by_cases b : min 10000 (nvT B z i) ≤ hi
      · left
        rw [if_pos ((nI_leI (by omega) (by omega)).mpr b)]
        exact ⟨⟨k28, by omega, by omega⟩, rfl⟩
      · right
        rw [if_neg (nle_i (by omega) (by omega) (by omega))]
        exact two (by omega)
  · right
    obtain ⟨I', q1, q2⟩ := y_ref hx h (f := 1) ⟨by omega, by omega⟩
    refine ⟨1, I', ?_, q2, Or.inl ⟨k28, rfl⟩⟩
    rw [f5_isNumber, k3, if_neg (show ¬ nI (kdT B z i) = 28 from nI_nk (c := 28) kl (by omega) k28), show f5_refuse I O 324 1 = _ from q1, qb]
/-- a clause is laid down -/
theorem y_addC (hO : OF O) (hs1 : rO O 324 1 = sc) (hsc : ∃ t, t < 4 ∧ sc = 300 + 6 * t) {nc k : Nat} {f g : Int32} (h6 : I sc 6 = nI nc) (hnc : nc < 24) (hk : k ≤ 8) : ∃ I', f7_addClause I O (rO O 324 1) (nI k) f g = some I' ∧ (I' (sc + 2) nc = nI k ∧ I' (sc + 3) nc = f ∧ I' (sc + 4) nc = g) ∧ (∀ j, j ≠ nc → I' (sc + 2) j = I (sc + 2) j ∧ I' (sc + 3) j = I (sc + 3) j ∧ I' (sc + 4) j = I (sc + 4) j) ∧ I' sc 6 = nI (nc + 1) ∧ (∀ j, j ≠ 6 → I' sc j = I sc j) ∧ (k < 3 → I' (sc + 5) k = nI nc) ∧ (∀ j, (j ≠ k ∨ 3 ≤ k) → I' (sc + 5) j = I (sc + 5) j) ∧ ∀ a, a ≠ sc → a ≠ sc + 2 → a ≠ sc + 3 → a ≠ sc + 4 → a ≠ sc + 5 → I' a = I a := by
  obtain ⟨t, ht, rfl⟩ := hsc
  obtain ⟨-, -, o1, o2, o3, o4⟩ := hO.2.2.2 t ht
  have ng : ¬ (nI nc < 0 ∨ 24 ≤ (nI nc).toNatClampNeg) := nI_in (by omega) (by omega)
  have n0 : ¬ nI nc < 0 := fun g => by have := (nI_ltI (b := 0) (by omega) (by omega)).mp g; omega
  let I1 := sI (sI (sI I (300 + 6 * t + 2) nc (nI k)) (300 + 6 * t + 3) nc f) (300 + 6 * t + 4) nc g
  have e6 : I1 (300 + 6 * t) 6 = nI nc := by show sI _ _ _ _ _ _ = _; rw [sI_o _ _ (by omega), sI_o _ _ (by omega), sI_o _ _ (by omega)]; exact h6
  have pre : f7_addClause I O (rO O 324 1) (nI k) f g = (if (2 : Int32) < nI k then some (sI I1 (300 + 6 * t) 6 (nI (nc + 1))) else some (sI (sI I1 (300 + 6 * t + 5) k (nI nc)) (300 + 6 * t) 6 (nI (nc + 1)))) := by
    rw [hs1, f7_addClause, h6, if_neg n0, if_pos (show nI nc < 24 from (nI_ltI (b := 24) (by omega) (by omega)).mpr hnc), if_neg ng, o1, o2, o3, o4, qbl, sI_o _ _ (show 300 + 6 * t ≠ 300 + 6 * t + 2 by omega), h6, if_neg ng, qbl, sI_o _ _ (show 300 + 6 * t ≠ 300 + 6 * t + 3 by omega), sI_o _ _ (show 300 + 6 * t ≠ 300 + 6 * t + 2 by omega), h6, if_neg ng, qbl, if_neg (show ¬ nI k < 0 from fun g => by have := (nI_ltI (b := 0) (by omega) (by omega)).mp g; omega), qcl (a := nc) (by omega)]
    show (if (2 : Int32) < nI k then bl (sI I1 (300 + 6 * t) 6 (I1 (300 + 6 * t) 6 + 1)) fun I15 => some I15 else (if nI k < 0 ∨ 3 ≤ (nI k).toNatClampNeg then none else bl (sI I1 (300 + 6 * t + 5) (nI k).toNatClampNeg (I1 (300 + 6 * t) 6)) fun I18 => bl (sI I18 (300 + 6 * t) 6 (I18 (300 + 6 * t) 6 + 1)) fun I19 => some I19)) = _
    by_cases w : 2 < k
    · rw [if_pos (show (2 : Int32) < nI k from (nI_ltI (a := 2) (by omega) (by omega)).mpr w), if_pos (show (2 : Int32) < nI k from (nI_ltI (a := 2) (by omega) (by omega)).mpr w), e6, nI_1, qbl]
    · rw [if_neg (show ¬ (2 : Int32) < nI k from fun g => w ((nI_ltI (a := 2) (by omega) (by omega)).mp g)), if_neg (show ¬ (2 : Int32) < nI k from fun g => w ((nI_ltI (a := 2) (by omega) (by omega)).mp g)), if_neg (nI_in (by omega) (by omega)), qcl (by omega), e6, qbl, sI_o _ _ (show 300 + 6 * t ≠ 300 + 6 * t + 5 by omega), e6, nI_1, qbl]
  by_cases w : 2 < k
  · refine ⟨sI I1 (300 + 6 * t) 6 (nI (nc + 1)), by rw [pre, if_pos (show (2 : Int32) < nI k from (nI_ltI (a := 2) (by omega) (by omega)).mpr w)], ⟨?_, ?_, ?_⟩, fun j hj => ⟨?_, ?_, ?_⟩, sI_s _ _ _ _, fun j hj => ?_, fun q => by omega, fun j hj => ?_, fun a g1 g2 g3 g4 g5 => ?_⟩
    · rw [sI_o _ _ (by omega)]; show sI _ _ _ _ _ _ = _; rw [sI_o _ _ (by omega), sI_o _ _ (by omega), sI_s]
    · rw [sI_o _ _ (by omega)]; show sI _ _ _ _ _ _ = _; rw [sI_o _ _ (by omega), sI_s]
    · rw [sI_o _ _ (by omega)]; exact sI_s _ _ _ _
    · rw [sI_o _ _ (by omega)]; show sI _ _ _ _ _ _ = _; rw [sI_o _ _ (by omega), sI_o _ _ (by omega), sI_k _ _ hj]
    · rw [sI_o _ _ (by omega)]; show sI _ _ _ _ _ _ = _; rw [sI_o _ _ (by omega), sI_k _ _ hj, sI_o _ _ (by omega)]
    · rw [sI_o _ _ (by omega)]; show sI _ _ _ _ _ _ = _; rw [sI_k _ _ hj, sI_o _ _ (by omega), sI_o _ _ (by omega)]
    · rw [sI_k _ _ hj]; show sI _ _ _ _ _ _ = _; rw [sI_o _ _ (by omega), sI_o _ _ (by omega), sI_o _ _ (by omega)]
    · rw [sI_o _ _ (by omega)]; show sI _ _ _ _ _ _ = _; rw [sI_o _ _ (by omega), sI_o _ _ (by omega), sI_o _ _ (by omega)]
    · rw [sI_o _ _ g1]; show sI _ _ _ _ _ = _; rw [sI_o _ _ g4, sI_o _ _ g3, sI_o _ _ g2]
  · refine ⟨sI (sI I1 (300 + 6 * t + 5) k (nI nc)) (300 + 6 * t) 6 (nI (nc + 1)), by rw [pre, if_neg (show ¬ (2 : Int32) < nI k from fun g => w ((nI_ltI (a := 2) (by omega) (by omega)).mp g))], ⟨?_, ?_, ?_⟩, fun j hj => ⟨?_, ?_, ?_⟩, sI_s _ _ _ _, fun j hj => ?_, fun q => by rw [sI_o _ _ (by omega), sI_s], fun j hj => ?_, fun a g1 g2 g3 g4 g5 => ?_⟩
    · rw [sI_o _ _ (by omega), sI_o _ _ (by omega)]; show sI _ _ _ _ _ _ = _; rw [sI_o _ _ (by omega), sI_o _ _ (by omega), sI_s]
    · rw [sI_o _ _ (by omega), sI_o _ _ (by omega)]; show sI _ _ _ _ _ _ = _; rw [sI_o _ _ (by omega), sI_s]
    · rw [sI_o _ _ (by omega), sI_o _ _ (by omega)]; exact sI_s _ _ _ _
    · rw [sI_o _ _ (by omega), sI_o _ _ (by omega)]; show sI _ _ _ _ _ _ = _; rw [sI_o _ _ (by omega), sI_o _ _ (by omega), sI_k _ _ hj]
    · rw [sI_o _ _ (by omega), sI_o _ _ (by omega)]; show sI _ _ _ _ _ _ = _; rw [sI_o _ _ (by omega), sI_k _ _ hj, sI_o _ _ (by omega)]
    · rw [sI_o _ _ (by omega), sI_o _ _ (by omega)]; show sI _ _ _ _ _ _ = _; rw [sI_k _ _ hj, sI_o _ _ (by omega), sI_o _ _ (by omega)]
    · rw [sI_k _ _ hj, sI_o _ _ (by omega)]; show sI _ _ _ _ _ _ = _; rw [sI_o _ _ (by omega), sI_o _ _ (by omega), sI_o _ _ (by omega)]
    · rw [sI_o _ _ (by omega), sI_k _ _ (by omega)]; show sI _ _ _ _ _ _ = _; rw [sI_o _ _ (by omega), sI_o _ _ (by omega), sI_o _ _ (by omega)]
    · rw [sI_o _ _ g1, sI_o _ _ g5]; show sI _ _ _ _ _ = _; rw [sI_o _ _ g4, sI_o _ _ g3, sI_o _ _ g2]
end KC
/-- what can stand: a pair of numbers, a roll's keys -/
def PrOk (B : TN) (z i lo hi w hi2 : Nat) : Prop := (kdT B z i = 28 ∧ lo ≤ nvT B z i ∧ nvT B z i ≤ hi) ∧ kdT B z (i + 1) = w ∧ kdT B z (i + 2) = 28 ∧ nvT B z (i + 2) ≤ hi2
def NmF (B : TN) (z i lo hi f : Nat) : Prop := (kdT B z i ≠ 28 ∧ f = 1) ∨ (kdT B z i = 28 ∧ ¬ (lo ≤ nvT B z i ∧ nvT B z i ≤ hi) ∧ f = 2)
def PrF (B : TN) (z i lo hi w hi2 f j : Nat) : Prop := (NmF B z i lo hi f ∧ j = i) ∨ ((kdT B z i = 28 ∧ lo ≤ nvT B z i ∧ nvT B z i ≤ hi) ∧ ((kdT B z (i + 1) ≠ w ∧ f = 1 ∧ j = i + 1) ∨ (kdT B z (i + 1) = w ∧ NmF B z (i + 2) 0 hi2 f ∧ j = i + 2)))
def RlP (B : TN) (z i r : Nat) : Prop := r ≤ 16 ∧ ∀ a, a < r → (kdT B z (i + 2 * a) = 28 ∧ nvT B z (i + 2 * a) ≤ 5) ∧ kdT B z (i + 2 * a + 1) = 44
def RlOk (B : TN) (z i r : Nat) : Prop := RlP B z i r ∧ r < 16 ∧ (kdT B z (i + 2 * r) = 28 ∧ nvT B z (i + 2 * r) ≤ 5) ∧ kdT B z (i + 2 * r + 1) ≠ 44
def RlF (B : TN) (z i f j : Nat) : Prop := ∃ r, RlP B z i r ∧ j = i + 2 * r ∧ (NmF B z j 0 5 f ∨ (r = 16 ∧ (kdT B z j = 28 ∧ nvT B z j ≤ 5) ∧ f = 7))
