/-! numbers of the pure stage -/
theorem qL (k : Nat) : (OfNat.ofNat k : Int32) = nI (OfNat.ofNat k) := rfl
theorem qb {α β : Type} (x : α) (f : α → Option β) : (some x).bind f = f x := rfl
theorem qbl {α β : Type} (a : α) (f : α → β) : bl a f = f a := rfl
theorem qlt {a b : Nat} (ha : a < 2147483648) (hb : b < 2147483648) : (nI a < nI b) = (a < b) := propext (nI_ltI ha hb)
theorem qle {a b : Nat} (ha : a < 2147483648) (hb : b < 2147483648) : (nI a ≤ nI b) = (a ≤ b) := propext (nI_leI ha hb)
theorem qeq {a b : Nat} (ha : a < 2147483648) (hb : b < 2147483648) : (nI a = nI b) = (a = b) := propext (nI_eq ha hb)
theorem qcl {a : Nat} (ha : a < 2147483648) : (nI a).toNatClampNeg = a := nI_clamp ha
theorem qadd (a b : Nat) : nI a + nI b = nI (a + b) := nI_add a b
theorem qmul (a b : Nat) : nI a * nI b = nI (a * b) := (Int32.ofNat_mul a b).symm
theorem qsub {a b : Nat} (h : b ≤ a) : nI a - nI b = nI (a - b) := by
  have h1 : nI a = nI (a - b) + nI b := by rw [nI_add, Nat.sub_add_cancel h]
  rw [h1, Int32.add_sub_cancel]
theorem qtoI {a : Nat} (h : a < 2147483648) : (nI a).toInt = (a : Int) := nI_toInt h
theorem qofI {x : Int32} {a : Nat} (h : x.toInt = (a : Int)) (ha : a < 2147483648) : x = nI a := Int32.toInt_inj.mp (by rw [h, qtoI ha])
theorem qdiv {a b : Nat} (ha : a < 2147483648) (hb : b < 2147483648) : nI a / nI b = nI (a / b) := by
  have hab : a / b < 2147483648 := Nat.lt_of_le_of_lt (Nat.div_le_self a b) ha
  refine qofI ?_ hab
  have h1 : ((a : Int).tdiv (b : Int)) = ((a / b : Nat) : Int) := (Int.ofNat_tdiv a b).symm
  rw [Int32.toInt_div, qtoI ha, qtoI hb, h1]
  generalize a / b = q at hab
  exact Int.bmod_eq_of_le (by omega) (by omega)
theorem qdm (a b : Nat) : a - a / b * b = a % b := by
  have h := Nat.div_add_mod a b
  rw [Nat.mul_comm] at h
  omega
theorem qsubm (a b : Nat) : nI a - nI (a / b * b) = nI (a % b) := by
  rw [qsub (Nat.div_mul_le_self a b), qdm]
theorem nltT {a b : Nat} (h : a < b) : (a < b) = True := eq_true h
theorem nltF {a b : Nat} (h : b ≤ a) : (a < b) = False := eq_false (Nat.not_lt.mpr h)
theorem nleT {a b : Nat} (h : a ≤ b) : (a ≤ b) = True := eq_true h
theorem nleF {a b : Nat} (h : b < a) : (a ≤ b) = False := eq_false (Nat.not_le.mpr h)
theorem neqT {a b : Nat} (h : a = b) : (a = b) = True := eq_true h
theorem neqF {a b : Nat} (h : a ≠ b) : (a = b) = False := eq_false h
theorem i_lt {a b : Int32} : a < b ↔ a.toInt < b.toInt := Int32.lt_iff_toInt_lt
theorem i_le {a b : Int32} : a ≤ b ↔ a.toInt ≤ b.toInt := Int32.le_iff_toInt_le
theorem i_eq {a b : Int32} : a = b ↔ a.toInt = b.toInt := Int32.toInt_inj.symm
theorem i_rng (x : Int32) : -2147483648 ≤ x.toInt ∧ x.toInt < 2147483648 := by
  have h1 := Int32.le_toInt x
  have h2 := Int32.toInt_lt x
  omega
def inR (x : Int32) (n : Nat) : Prop := 0 ≤ x.toInt ∧ x.toInt < n
theorem inR_of {x : Int32} {n : Nat} (h : inR x n) : ∃ r, r < n ∧ x = nI r := by
  obtain ⟨h1, h2⟩ := h
  have h3 := i_rng x
  refine ⟨x.toInt.toNat, by omega, qofI (by omega) (by omega)⟩
theorem inR_nI {r n : Nat} (h : r < n) (hn : r < 2147483648) : inR (nI r) n := by
  unfold inR
  rw [qtoI hn]
  omega
theorem l0 : (0 : Int32).toInt = 0 := by decide
theorem l1 : (1 : Int32).toInt = 1 := by decide
theorem lm1 : (-1 : Int32).toInt = -1 := by decide
theorem qlk (k : Nat) (h : k < 2147483648) : (OfNat.ofNat k : Int32).toInt = (k : Int) := qtoI h
theorem qpred {a : Nat} (h : a < 2147483648) : (nI a - 1).toInt = (a : Int) - 1 := by
  rw [Int32.toInt_sub, qtoI h, l1]
  exact Int.bmod_eq_of_le (by omega) (by omega)
theorem m_isIn0 {x : Int32} {n : Nat} (hn : n < 2147483648) (hd : Decidable (inR x n)) : f12_isIn x 0 (nI n - 1) = some (if inR x n then 1 else 0) := by
  unfold f12_isIn
  have h0 : x < 0 ↔ x.toInt < 0 := by rw [i_lt, l0]
  have h1 : nI n - 1 < x ↔ (n : Int) - 1 < x.toInt := by rw [i_lt, qpred hn]
  by_cases a1 : x.toInt < 0
  · rw [if_pos (h0.mpr a1), if_neg (fun q => by unfold inR at q; omega)]
  · rw [if_neg (fun q => a1 (h0.mp q))]
    by_cases a2 : (n : Int) - 1 < x.toInt
    · rw [if_pos (h1.mpr a2), if_neg (fun q => by unfold inR at q; omega)]
    · rw [if_neg (fun q => a2 (h1.mp q)), if_pos (by unfold inR; omega)]
theorem m_isIn {x : Int32} {a b : Nat} (ha : a < 2147483648) (hb : b < 2147483648) (hd : Decidable ((a : Int) ≤ x.toInt ∧ x.toInt ≤ b)) : f12_isIn x (nI a) (nI b) = some (if (a : Int) ≤ x.toInt ∧ x.toInt ≤ b then 1 else 0) := by
  unfold f12_isIn
  have h0 : x < nI a ↔ x.toInt < a := by rw [i_lt, qtoI ha]
  have h1 : nI b < x ↔ (b : Int) < x.toInt := by rw [i_lt, qtoI hb]
  by_cases a1 : x.toInt < a
  · rw [if_pos (h0.mpr a1), if_neg (fun q => by omega)]
  · rw [if_neg (fun q => a1 (h0.mp q))]
    by_cases a2 : (b : Int) < x.toInt
    · rw [if_pos (h1.mpr a2), if_neg (fun q => by omega)]
    · rw [if_neg (fun q => a2 (h1.mp q)), if_pos (by omega)]
theorem m_inF {x : Int32} {a b : Nat} (h : ¬ ((a : Int) ≤ x.toInt ∧ x.toInt ≤ b)) (ha : a < 2147483648) (hb : b < 2147483648) : f12_isIn x (nI a) (nI b) = some (nI 0) := by
  rw [m_isIn ha hb (Classical.propDecidable _), if_neg h]; rfl
theorem m_inT {x a b : Nat} (h : a ≤ x) (h2 : x ≤ b) (hb : b < 2147483648) : f12_isIn (nI x) (nI a) (nI b) = some (nI 1) := by
  rw [m_isIn (by omega) hb (Classical.propDecidable _), if_pos (by rw [qtoI (by omega)]; omega)]; rfl
theorem sI_s (I : Nat → Nat → Int32) (a k : Nat) (v : Int32) : sI I a k v a k = v := by
  unfold sI va_up upd; rw [if_pos rfl, if_pos rfl]
theorem sI_o (I : Nat → Nat → Int32) {a k b : Nat} (v : Int32) (h : b ≠ a) : sI I a k v b = I b := by
  unfold sI va_up; rw [if_neg h]
theorem sI_k (I : Nat → Nat → Int32) {a k j : Nat} (v : Int32) (h : j ≠ k) : sI I a k v a j = I a j := by
  unfold sI va_up upd; rw [if_pos rfl, if_neg h]
theorem sI_e (I : Nat → Nat → Int32) {a k b j : Nat} (v : Int32) (h : b ≠ a ∨ j ≠ k) : sI I a k v b j = I b j := by
  by_cases hb : b = a
  · subst hb
    rcases h with h | h
    · exact absurd rfl h
    · exact sI_k I v h
  · rw [sI_o I v hb]
theorem cp_o (I : Nat → Nat → Int32) {a b s t n c : Nat} (h : c ≠ b) : cpI I a b s t n c = I c := by
  unfold cpI va_up; rw [if_neg h]
