/-! the class reads a law: its small steps -/
/-- what reading a law changes in the class -/
def KFr (sc : Nat) (I0 I : TI) : Prop := (∀ a, a ≠ 324 → a ≠ sc → a ≠ sc + 1 → I a = I0 a) ∧ (∀ k, k ≠ 2 → k ≠ 3 → k ≠ 4 → k ≠ 6 → k ≠ 7 → I 324 k = I0 324 k) ∧ ∀ k, k ≠ 5 → I sc k = I0 sc k
def KS (B : TN) (z T sc : Nat) (I0 I : TI) (i q : Nat) (st : TN) : Prop := KFr sc I0 I ∧ i ≤ T ∧ I 324 2 = nI i ∧ I 324 3 = nI (kdT B z i) ∧ I 324 4 = nI (min 10000 (nvT B z i)) ∧ I sc 5 = nI q ∧ (q ≤ i + 1 ∧ I 324 6 = I0 324 6 ∧ I 324 7 = I0 324 7) ∧ ∀ k, k < q → I (sc + 1) k = nI (st k) ∧ st k < 2147483648
def Kx (n : Nat) (O : TO) (B : TN) (z T sc s : Nat) (I0 : TI) : Prop := 100000 ≤ n ∧ OF O ∧ rO O 324 1 = sc ∧ rO O sc 0 = sc + 1 ∧ (300 ≤ sc ∧ sc + 5 < 324) ∧ T ≤ 300 ∧ stT B z T = z ∧ z ≤ 300 ∧ (I0 278 4 = nI z ∧ I0 278 5 = nI (T + 1) ∧ ∀ k, k < T + 1 → I0 280 k = nI (kdT B z k) ∧ I0 281 k = nI (stT B z k) ∧ I0 282 k = nI (min 10000 (nvT B z k))) ∧ I0 324 5 = nI s ∧ s < 3
theorem kd_lt (B : TN) (z i : Nat) (hB : ∀ p, p < z → B p < 256) : kdT B z i < 600 := by
  have h := st_le B z i
  unfold kdT tkK
  have fl := fn_le (wlF B (weP B z (stT B z i) - stT B z i) (stT B z i))
  by_cases w : z ≤ stT B z i
  · rw [if_pos w]; omega
  · have := hB (stT B z i) (by omega)
    rw [if_neg w]
    split
    · omega
    · split
      · omega
      · split
        · omega
        · split <;> omega
section KR
variable {n : Nat} {O : TO} {B : TN} {z T sc s : Nat} {I0 I : TI} {i q : Nat} {st : TN}
theorem x_come (hx : Kx n O B z T sc s I0) (h : KS B z T sc I0 I i q st) {j : Nat} (hj : j ≤ T) (hq : q ≤ j + 1) : ∃ I', f5_comeTo I O 324 (nI j) = some I' ∧ KS B z T sc I0 I' j q st := by
  obtain ⟨hn, hO, hs1, hs2, hs3, hT, hT2, hz, ⟨a1, a2, a3⟩, hl, hs⟩ := hx
  obtain ⟨f, h1, h2, h3, h4, h5, h6, h7⟩ := h
  obtain ⟨b1, b2, b3⟩ := a3 j (by omega)
  have e278 : I 278 = I0 278 := f.1 278 (by omega) (by omega) (by omega)
  have e280 : I 280 = I0 280 := f.1 280 (by omega) (by omega) (by omega)
  have e282 : I 282 = I0 282 := f.1 282 (by omega) (by omega) (by omega)
  refine ⟨sI (sI (sI I 324 2 (nI j)) 324 3 (nI (kdT B z j))) 324 4 (nI (min 10000 (nvT B z j))), ?_, ⟨fun a g1 g2 g3 => by rw [sI_o _ _ g1, sI_o _ _ g1, sI_o _ _ g1]; exact f.1 a g1 g2 g3, fun k g1 g2 g3 g4 g5 => by rw [sI_k _ _ g3, sI_k _ _ g2, sI_k _ _ g1]; exact f.2.1 k g1 g2 g3 g4 g5, fun k g1 => by rw [sI_o _ _ (by omega), sI_o _ _ (by omega), sI_o _ _ (by omega)]; exact f.2.2 k g1⟩, hj, ?_, ?_, sI_s _ _ _ _, ?_, ⟨hq, by rw [sI_k _ _ (by omega), sI_k _ _ (by omega), sI_k _ _ (by omega)]; exact h6.2.1, by rw [sI_k _ _ (by omega), sI_k _ _ (by omega), sI_k _ _ (by omega)]; exact h6.2.2⟩, fun k hk => by rw [sI_o _ _ (by omega), sI_o _ _ (by omega), sI_o _ _ (by omega)]; exact h7 k hk⟩
  · have ng : ¬ (nI j < 0 ∨ 301 ≤ (nI j).toNatClampNeg) := nI_in (by omega) (by omega)
    rw [f5_comeTo, qbl, if_neg (fun g => by have := (nI_ltI (b := 0) (by omega) (by omega)).mp g; omega), o_324_0 hO, sI_o _ _ (show 278 ≠ 324 by omega), e278, a2, if_neg (nle_i (by omega) (by omega) (by omega)), if_neg (fun g => by have := (nI_ltI (a := 300) (by omega) (by omega)).mp g; omega), f5_comeTo_c32, if_neg (by decide), if_neg ng, o_324_0 hO, o_278_1 hO, sI_o _ _ (show 280 ≠ 324 by omega), qcl (by omega), e280, b1, f5_comeTo_c52, qbl, if_neg (by decide), if_neg (nI_in (by omega) (by omega)), o_324_0 hO, o_278_3 hO, sI_o _ _ (show 282 ≠ 324 by omega), sI_o _ _ (show 282 ≠ 324 by omega), qcl (by omega), e282, b3, qbl]
  · rw [sI_k _ _ (by omega), sI_k _ _ (by omega), sI_s]
  · rw [sI_k _ _ (by omega), sI_s]
  · rw [sI_o _ _ (by omega), sI_o _ _ (by omega), sI_o _ _ (by omega)]; exact h5
theorem x_nxt (hx : Kx n O B z T sc s I0) (h : KS B z T sc I0 I i q st) (hk : kdT B z i ≠ 27) : ∃ I', f5_comeTo I O 324 (I 324 2 + 1) = some I' ∧ KS B z T sc I0 I' (i + 1) q st := by
  have hiT := kd_T hx.2.2.2.2.2.2.1 h.2.1 hk
  have hq := h.2.2.2.2.2.2.1.1
  rw [h.2.2.1, nI_1]
  exact x_come hx h (by omega) (by omega)
/-- a fault at a token -/
def KFl (B : TN) (z T sc : Nat) (I0 I : TI) (f j : Nat) : Prop := KFr sc I0 I ∧ (1 ≤ f ∧ f ≤ 7) ∧ j ≤ T ∧ I 324 6 = nI f ∧ I 324 7 = nI (stT B z j)
theorem x_ref (hx : Kx n O B z T sc s I0) (h : KS B z T sc I0 I i q st) {f : Nat} (hf : 1 ≤ f ∧ f ≤ 7) : ∃ I', f5_refuse I O 324 (nI f) = some (0, I') ∧ KFl B z T sc I0 I' f i := by
  obtain ⟨hn, hO, hs1, hs2, hs3, hT, hT2, hz, ⟨a1, a2, a3⟩, hl, hs⟩ := hx
  obtain ⟨g, h1, h2, h3, h4, h5, h6, h7⟩ := h
  obtain ⟨b1, b2, b3⟩ := a3 i (by omega)
  have e278 : I 278 = I0 278 := g.1 278 (by omega) (by omega) (by omega)
  have e281 : I 281 = I0 281 := g.1 281 (by omega) (by omega) (by omega)
  refine ⟨sI (sI I 324 6 (nI f)) 324 7 (nI (stT B z i)), ?_, ⟨fun a g1 g2 g3 => by rw [sI_o _ _ g1, sI_o _ _ g1]; exact g.1 a g1 g2 g3, fun k g1 g2 g3 g4 g5 => by rw [sI_k _ _ g5, sI_k _ _ g4]; exact g.2.1 k g1 g2 g3 g4 g5, fun k g1 => by rw [sI_o _ _ (by omega), sI_o _ _ (by omega)]; exact g.2.2 k g1⟩, hf, h1, by rw [sI_k _ _ (by omega), sI_s], sI_s _ _ _ _⟩
  rw [f5_refuse, qbl, sI_k _ _ (show (2 : Nat) ≠ 6 by omega), h2, if_neg (fun g => by have := (nI_ltI (b := 0) (by omega) (by omega)).mp g; omega), o_324_0 hO, sI_o _ _ (show 278 ≠ 324 by omega), e278, a2, if_neg (nle_i (by omega) (by omega) (by omega)), if_neg (fun g => by have := (nI_ltI (a := 300) (by omega) (by omega)).mp g; omega), if_neg (nI_in (by omega) (by omega)), o_278_2 hO, sI_o _ _ (show 281 ≠ 324 by omega), e281, qcl (by omega), b2, qbl]
theorem x_add (hx : Kx n O B z T sc s I0) (h : KS B z T sc I0 I i q st) (hq : q ≤ i) (hq3 : q < 300) {w : Nat} (hw : w < 2147483648) : ∃ I', f7_add I O (rO O 324 1) (nI w) = some (nI q, I') ∧ KS B z T sc I0 I' i (q + 1) (upN st q w) := by
  obtain ⟨hn, hO, hs1, hs2, hs3, hT, hT2, hz, -, hl, hs⟩ := hx
  obtain ⟨f, h1, h2, h3, h4, h5, h6, h7⟩ := h
  refine ⟨sI (sI I (sc + 1) q (nI w)) sc 5 (nI (q + 1)), ?_, ⟨fun a g1 g2 g3 => by rw [sI_o _ _ g2, sI_o _ _ g3]; exact f.1 a g1 g2 g3, fun k g1 g2 g3 g4 g5 => by rw [sI_o _ _ (by omega), sI_o _ _ (by omega)]; exact f.2.1 k g1 g2 g3 g4 g5, fun k g1 => by rw [sI_k _ _ g1, sI_o _ _ (by omega)]; exact f.2.2 k g1⟩, h1, ?_, ?_, ?_, sI_s _ _ _ _, ⟨by omega, by rw [sI_o _ _ (by omega), sI_o _ _ (by omega)]; exact h6.2.1, by rw [sI_o _ _ (by omega), sI_o _ _ (by omega)]; exact h6.2.2⟩, fun k hk => ?_⟩
  · rw [hs1, f7_add, h5, if_neg (fun g => by have := (nI_ltI (b := 0) (by omega) (by omega)).mp g; omega), if_pos (show nI q < 300 from (nI_ltI (b := 300) (by omega) (by omega)).mpr (by omega)), if_neg (nI_in (by omega) (by omega)), hs2, qcl (by omega), qbl, sI_o _ _ (show sc ≠ sc + 1 by omega), h5, nI_1, qbl, sI_s, show nI (q + 1) - 1 = nI q from qsub (b := 1) (by omega)]
  · rw [sI_o _ _ (by omega), sI_o _ _ (by omega)]; exact h2
  · rw [sI_o _ _ (by omega), sI_o _ _ (by omega)]; exact h3
  · rw [sI_o _ _ (by omega), sI_o _ _ (by omega)]; exact h4
  · rw [sI_o _ _ (show sc + 1 ≠ sc by omega)]
    by_cases y : k = q
    · rw [y, sI_s, upN_s]; exact ⟨rfl, hw⟩
    · rw [sI_k _ _ y, upN_o _ y]; exact h7 k (by omega)
theorem x_aim (hx : Kx n O B z T sc s I0) (h : KS B z T sc I0 I i q st) {p : Nat} (hp : p < q) (hq3 : q ≤ 300) (hw : st p < 1024) : ∃ I', f7_aim I O (rO O 324 1) (nI p) = some I' ∧ KS B z T sc I0 I' i q (upN st p (st p + q * 1024)) := by
  obtain ⟨hn, hO, hs1, hs2, hs3, hT, hT2, hz, -, hl, hs⟩ := hx
  obtain ⟨f, h1, h2, h3, h4, h5, h6, h7⟩ := h
  have e := (h7 p hp).1
  refine ⟨sI I (sc + 1) p (nI (st p + q * 1024)), ?_, ⟨fun a g1 g2 g3 => by rw [sI_o _ _ g3]; exact f.1 a g1 g2 g3, fun k g1 g2 g3 g4 g5 => by rw [sI_o _ _ (by omega)]; exact f.2.1 k g1 g2 g3 g4 g5, fun k g1 => by rw [sI_o _ _ (by omega)]; exact f.2.2 k g1⟩, h1, ?_, ?_, ?_, ?_, ⟨h6.1, by rw [sI_o _ _ (by omega)]; exact h6.2.1, by rw [sI_o _ _ (by omega)]; exact h6.2.2⟩, fun k hk => ?_⟩
  · have ng : ¬ (nI p < 0 ∨ 300 ≤ (nI p).toNatClampNeg) := nI_in (by omega) (by omega)
    rw [hs1, f7_aim, if_neg (fun g => by have := (nI_ltI (b := 0) (by omega) (by omega)).mp g; omega), h5, if_neg (nle_i (by omega) (by omega) hp), if_neg (show ¬ (300 : Int32) ≤ nI p from nle_i (a := 300) (by omega) (by omega) (by omega)), if_neg ng, if_neg ng, hs2, qcl (by omega), e, show nI (st p) / 1024 = nI (st p / 1024) from pk_div (d := 1024) (by omega) (by omega) (by omega), show nI (st p / 1024) * 1024 = nI (st p / 1024 * 1024) from qmul _ 1024, qsubm, show nI q * 1024 = nI (q * 1024) from qmul q 1024, qadd, Nat.mod_eq_of_lt hw, qbl]
  · rw [sI_o _ _ (by omega)]; exact h2
  · rw [sI_o _ _ (by omega)]; exact h3
  · rw [sI_o _ _ (by omega)]; exact h4
  · rw [sI_o _ _ (by omega)]; exact h5
  · by_cases y : k = p
    · rw [y, sI_s, upN_s]; exact ⟨rfl, by omega⟩
    · rw [sI_k _ _ y, upN_o _ y]; exact h7 k hk
theorem x_exp (hx : Kx n O B z T sc s I0) (hB : ∀ p, p < z → B p < 256) (h : KS B z T sc I0 I i q st) {w : Nat} (hw : w < 600) (h27 : w ≠ 27) : (kdT B z i = w ∧ ∃ I', f5_expect I O 324 (nI w) = some (1, I') ∧ KS B z T sc I0 I' (i + 1) q st) ∨ (kdT B z i ≠ w ∧ ∃ I', f5_expect I O 324 (nI w) = some (0, I') ∧ KFl B z T sc I0 I' 1 i) := by
  have kl := kd_lt B z i hB
  by_cases y : kdT B z i = w
  · left
    obtain ⟨I', q1, q2⟩ := x_nxt hx h (by omega)
    exact ⟨y, I', by rw [f5_expect, h.2.2.2.1, if_pos (congrArg nI y), q1, qb], q2⟩
  · right
    obtain ⟨I', q1, q2⟩ := x_ref hx h (f := 1) ⟨by omega, by omega⟩
    exact ⟨y, I', by rw [f5_expect, h.2.2.2.1, if_neg (fun g => y (by rw [nI_eq (by omega) (by omega)] at g; exact g)), show f5_refuse I O 324 1 = _ from q1, qb], q2⟩
theorem x_ent (hx : Kx n O B z T sc s I0) (h : KS B z T sc I0 I i q st) (hk : kdT B z i ≠ 27) {o : Nat} (ho : o ≤ 8) : (o < 8 ∧ ∃ I', f5_enter I O 324 (nI o) = some (1, I') ∧ KS B z T sc I0 I' (i + 1) q st) ∨ (o = 8 ∧ ∃ I', f5_enter I O 324 (nI o) = some (0, I') ∧ KFl B z T sc I0 I' 3 i) := by
  by_cases y : o < 8
  · left
    obtain ⟨I', q1, q2⟩ := x_nxt hx h hk
    exact ⟨y, I', by rw [f5_enter, if_pos (show nI o < 8 from (nI_ltI (b := 8) (by omega) (by omega)).mpr y), q1, qb], q2⟩
  · right
    obtain ⟨I', q1, q2⟩ := x_ref hx h (f := 3) ⟨by omega, by omega⟩
    exact ⟨by omega, I', by rw [f5_enter, if_neg (show ¬ nI o < 8 from fun g => y ((nI_ltI (b := 8) (by omega) (by omega)).mp g)), show f5_refuse I O 324 3 = _ from q1, qb], q2⟩
/-- what a part of a law brings about -/
def ResV (B : TN) (z T sc s : Nat) (I0 : TI) (i q : Nat) (st : TN) (OK : Nat → (lEnv → Int) → Prop) (FL : Nat → Nat → Prop) (d : Nat) (res : Option (Int32 × TI)) : Prop := (∃ I' j q' st' v, res = some (1, I') ∧ KS B z T sc I0 I' j q' st' ∧ i < j ∧ q ≤ q' ∧ q' + i ≤ q + j ∧ (∀ k, k < q → st' k = st k) ∧ VX s st' q q' v d ∧ OK j v) ∨ (∃ I' f j, res = some (0, I') ∧ KFl B z T sc I0 I' f j ∧ FL f j)
theorem Res_f {OK : Nat → (lEnv → Int) → Prop} {FL : Nat → Nat → Prop} {d f j : Nat} {I' : TI} {res : Option (Int32 × TI)} (e : res = some (0, I')) (h : KFl B z T sc I0 I' f j) (g : FL f j) : ResV B z T sc s I0 i q st OK FL d res := Or.inr ⟨I', f, j, e, h, g⟩
theorem x_num (hx : Kx n O B z T sc s I0) (h : KS B z T sc I0 I i q st) (hqi : q ≤ i) (hk : kdT B z i = 28) {OK : Nat → (lEnv → Int) → Prop} {FL : Nat → Nat → Prop} {d : Nat} (hd : 1 ≤ d) (h1 : nvT B z i ≤ 9999 → OK (i + 1) (fun _ => (nvT B z i : Int))) (h2 : ¬ nvT B z i ≤ 9999 → FL 2 i) : ResV B z T sc s I0 i q st OK FL d (f5_readNumber I O 324) := by
  have h4 := h.2.2.2.2.1
  have hT := hx.2.2.2.2.2.1
  have hiT := kd_T hx.2.2.2.2.2.2.1 h.2.1 (by omega)
  by_cases y : nvT B z i ≤ 9999
  · obtain ⟨I1, q1, q2⟩ := x_add hx h hqi (by omega) (w := 28 + nvT B z i * 1024) (by omega)
    obtain ⟨I2, q3, q4⟩ := x_nxt hx q2 (by omega)
    refine Or.inl ⟨I2, i + 1, q + 1, upN st q (28 + nvT B z i * 1024), fun _ => (nvT B z i : Int), ?_, q4, by omega, by omega, by omega, fun k hk => upN_o _ (by omega), VX_num (upN_s _ _ _) y hd, h1 y⟩
    rw [f5_readNumber, h4, Nat.min_eq_right (by omega), if_pos (show nI (nvT B z i) ≤ 9999 from (nI_leI (b := 9999) (by omega) (by omega)).mpr y), show nI (nvT B z i) * 1024 = nI (nvT B z i * 1024) from qmul _ 1024, show (28 : Int32) + nI (nvT B z i * 1024) = nI (28 + nvT B z i * 1024) from qadd 28 _, q1, qb]
    show (f5_comeTo I1 O 324 (I1 324 2 + 1)).bind _ = _
    rw [q3, qb]
  · obtain ⟨I', q1, q2⟩ := x_ref hx h (f := 2) ⟨by omega, by omega⟩
    refine Res_f (I' := I') ?_ q2 (h2 y)
    rw [f5_readNumber, h4, if_neg (show ¬ nI (min 10000 (nvT B z i)) ≤ 9999 from nle_i (b := 9999) (by omega) (by omega) (by omega)), show f5_refuse I O 324 2 = _ from q1, qb]
theorem x_name (hx : Kx n O B z T sc s I0) (h : KS B z T sc I0 I i q st) (hqi : q ≤ i) (hk : 7 ≤ kdT B z i ∧ kdT B z i ≤ 13) {OK : Nat → (lEnv → Int) → Prop} {FL : Nat → Nat → Prop} {d : Nat} (hd : 1 ≤ d) (h1 : okN s (nmX (kdT B z i - 7)) = true → OK (i + 1) (fun e => e.1 (nmX (kdT B z i - 7)))) (h2 : okN s (nmX (kdT B z i - 7)) = false → FL 5 i) : ResV B z T sc s I0 i q st OK FL d (f5_readName I O 324 (nI (kdT B z i))) := by
  have hT := hx.2.2.2.2.2.1
  have hiT := kd_T hx.2.2.2.2.2.2.1 h.2.1 (by omega)
  have l5 : I 324 5 = nI s := by rw [h.1.2.1 5 (by omega) (by omega) (by omega) (by omega) (by omega)]; exact hx.2.2.2.2.2.2.2.2.2.1
  have hs := hx.2.2.2.2.2.2.2.2.2.2
  have dec : ∀ k, k < 14 → 7 ≤ k → ∀ s, s < 3 → ((if nI k = (10 : Int32) then true else if nI k = (11 : Int32) then true else false) = (k == 10 || k == 11)) ∧ okN s (nmX (k - 7)) = !(((k == 10 || k == 11) && s == 2) || ((k == 7 || k == 12 || k == 13) && s == 1)) := by decide +kernel
  have d1 := (dec (kdT B z i) (by omega) hk.1 s hs).2
  have good : okN s (nmX (kdT B z i - 7)) = true → ResV B z T sc s I0 i q st OK FL d (f5_readName_c72 O I 324 (nI (kdT B z i))) := by
    intro y
    obtain ⟨I1, q1, q2⟩ := x_add hx h hqi (by omega) (w := kdT B z i) (by omega)
    obtain ⟨I2, q3, q4⟩ := x_nxt hx q2 (by omega)
    refine Or.inl ⟨I2, i + 1, q + 1, upN st q (kdT B z i), fun e => e.1 (nmX (kdT B z i - 7)), ?_, q4, by omega, by omega, by omega, fun k hk => upN_o _ (by omega), VX_name (c := kdT B z i - 7) (by rw [upN_s]; omega) (by omega) y hd, h1 y⟩
    rw [f5_readName_c72, q1, qb]
    show (f5_comeTo I1 O 324 (I1 324 2 + 1)).bind _ = _
    rw [q3, qb]
  have bad : okN s (nmX (kdT B z i - 7)) = false → ResV B z T sc s I0 i q st OK FL d ((f5_refuse I O 324 (5 : Int32)).bind fun r3 => some (r3.1, r3.2)) := by
    intro y
    obtain ⟨I', q1, q2⟩ := x_ref hx h (f := 5) ⟨by omega, by omega⟩
    exact Res_f (I' := I') (by rw [show f5_refuse I O 324 5 = _ from q1, qb]) q2 (h2 y)
  have s2 : nI s = (2 : Int32) ↔ s = 2 := by rw [show (2 : Int32) = nI 2 from rfl, nI_eq (by omega) (by omega)]
  have s1 : nI s = (1 : Int32) ↔ s = 1 := by rw [show (1 : Int32) = nI 1 from rfl, nI_eq (by omega) (by omega)]
  have e54 : ∀ y3 : Int32, f5_readName_c54 O I 324 (nI (kdT B z i)) y3 = if y3 = 0 then f5_readName_c72 O I 324 (nI (kdT B z i)) else (if nI s = (1 : Int32) then ((f5_refuse I O 324 (5 : Int32)).bind fun r3 => some (r3.1, r3.2)) else f5_readName_c72 O I 324 (nI (kdT B z i))) := fun y3 => by rw [f5_readName_c54, l5]
  have e41 : ∀ y2 t0 : Int32, f5_readName_c41 O I 324 (nI (kdT B z i)) y2 t0 = if y2 = 0 then f5_readName_c54 O I 324 (nI (kdT B z i)) t0 else (if nI s = (2 : Int32) then ((f5_refuse I O 324 (5 : Int32)).bind fun r3 => some (r3.1, r3.2)) else f5_readName_c54 O I 324 (nI (kdT B z i)) t0) := fun y2 t0 => by rw [f5_readName_c41, l5]
  have cs : kdT B z i = 7 ∨ kdT B z i = 8 ∨ kdT B z i = 9 ∨ kdT B z i = 10 ∨ kdT B z i = 11 ∨ kdT B z i = 12 ∨ kdT B z i = 13 := by omega
  have ofPlace : (kdT B z i = 7 ∨ kdT B z i = 12 ∨ kdT B z i = 13) → f5_readName I O 324 (nI (kdT B z i)) = f5_readName_c41 O I 324 (nI (kdT B z i)) 0 1 → ResV B z T sc s I0 i q st OK FL d (f5_readName I O 324 (nI (kdT B z i))) := by
    intro hc e
    rw [e, e41, if_pos rfl, e54, if_neg (by decide)]
    by_cases y : s = 1
    · rw [if_pos (s1.mpr y)]
      refine bad ?_
      rw [d1, y]
      rcases hc with g | g | g <;> rw [g] <;> rfl
    · rw [if_neg (fun g => y (s1.mp g))]
      refine good ?_
      rw [d1]
      have : s = 0 ∨ s = 2 := by omega
      rcases hc with g | g | g <;> rcases this with w | w <;> rw [g, w] <;> rfl
  have ofChild : (kdT B z i = 10 ∨ kdT B z i = 11) → f5_readName I O 324 (nI (kdT B z i)) = f5_readName_c41 O I 324 (nI (kdT B z i)) 1 0 → ResV B z T sc s I0 i q st OK FL d (f5_readName I O 324 (nI (kdT B z i))) := by
    intro hc e
    rw [e, e41, if_neg (by decide)]
    by_cases y : s = 2
    · rw [if_pos (s2.mpr y)]
      refine bad ?_
      rw [d1, y]
      rcases hc with g | g <;> rw [g] <;> rfl
    · rw [if_neg (fun g => y (s2.mp g)), e54, if_pos rfl]
      refine good ?_
      rw [d1]
      have : s = 0 ∨ s = 1 := by omega
      rcases hc with g | g <;> rcases this with w | w <;> rw [g, w] <;> rfl
  have ofAll : (kdT B z i = 8 ∨ kdT B z i = 9) → f5_readName I O 324 (nI (kdT B z i)) = f5_readName_c41 O I 324 (nI (kdT B z i)) 0 0 → ResV B z T sc s I0 i q st OK FL d (f5_readName I O 324 (nI (kdT B z i))) := by
    intro hc e
    rw [e, e41, if_pos rfl, e54, if_pos rfl]
    refine good ?_
    rw [d1]
    have : s = 0 ∨ s = 1 ∨ s = 2 := by omega
    rcases hc with g | g <;> rcases this with w | w | w <;> rw [g, w] <;> rfl
  rcases cs with g | g | g | g | g | g | g
  · exact ofPlace (Or.inl g) (by rw [g]; rfl)
  · exact ofAll (Or.inl g) (by rw [g]; rfl)
  · exact ofAll (Or.inr g) (by rw [g]; rfl)
  · exact ofChild (Or.inl g) (by rw [g]; rfl)
  · exact ofChild (Or.inr g) (by rw [g]; rfl)
  · exact ofPlace (Or.inr (Or.inl g)) (by rw [g]; rfl)
  · exact ofPlace (Or.inr (Or.inr g)) (by rw [g]; rfl)
end KR
