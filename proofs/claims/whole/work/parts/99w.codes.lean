/-! teaching: how far the reference's codes go -/
section CD
variable {n : Nat} {J : TI} {L : TL} {O : TO} {N : TN} {c : Nat}
theorem m_c80 {y1 y2 y3 y4 : Int32} : ∀ d k m s, k + d = 5 → d < m → f12_teaches_c80 n O m J L 331 y1 y2 y3 y4 (nI s) (nI k) = f12_teaches_c105 n O n J L 331 y1 y2 y3 y4 (nI (s * 9 ^ d)) (-1) (nI 0) := by
  intro d
  induction d with
  | zero =>
    intro k m s hk hm
    obtain ⟨m, rfl⟩ : ∃ m', m = m' + 1 := ⟨m - 1, by omega⟩
    rw [f12_teaches_c80, show k = 5 by omega, if_pos (show (5 : Int32) ≤ nI 5 by decide), Nat.pow_zero, Nat.mul_one]; rfl
  | succ d ih =>
    intro k m s hk hm
    obtain ⟨m, rfl⟩ : ∃ m', m = m' + 1 := ⟨m - 1, by omega⟩
    rw [f12_teaches_c80, if_neg (show ¬ (5 : Int32) ≤ nI k from nle_i (a := 5) (by omega) (by omega) (by omega)), show nI s * 9 = nI (s * 9) from qmul s 9, nI_1, ih (k + 1) m (s * 9) (by omega) (by omega), Nat.mul_assoc, show 9 * 9 ^ d = 9 ^ (d + 1) by rw [Nat.pow_succ, Nat.mul_comm]]
theorem m_c50 (hM : MV J O N) {y1 y2 y3 : Int32} : ∀ d k m s, k + d = 5 → d < m → f12_teaches_c50 n O m J L 331 y1 y2 y3 (nI s) (nI k) = f12_teaches_c80 n O n J L 331 y1 y2 y3 (nI (s * 9 ^ d)) (nI 1) (nI (N 0)) := by
  have e0 := hM.2 0 (by omega)
  intro d
  induction d with
  | zero =>
    intro k m s hk hm
    obtain ⟨m, rfl⟩ : ∃ m', m = m' + 1 := ⟨m - 1, by omega⟩
    rw [f12_teaches_c50, show k = 5 by omega, if_pos (show (5 : Int32) ≤ nI 5 by decide), Nat.pow_zero, Nat.mul_one, hM.1, e0]; rfl
  | succ d ih =>
    intro k m s hk hm
    obtain ⟨m, rfl⟩ : ∃ m', m = m' + 1 := ⟨m - 1, by omega⟩
    rw [f12_teaches_c50, if_neg (show ¬ (5 : Int32) ≤ nI k from nle_i (a := 5) (by omega) (by omega) (by omega)), show nI s * 9 = nI (s * 9) from qmul s 9, nI_1, ih (k + 1) m (s * 9) (by omega) (by omega), Nat.mul_assoc, show 9 * 9 ^ d = 9 ^ (d + 1) by rw [Nat.pow_succ, Nat.mul_comm]]
theorem m_codes (hn : 100000 ≤ n) (hB : WB N) (hM : MV J O N) {y1 y2 y3 : Int32} : f12_teaches_c50 n O n J L 331 y1 y2 y3 1 0 = f12_teaches_c105 n O n J L 331 y1 y2 y3 (nI 59049) (nI (9 ^ (5 - N 0))) (-1) (nI 0) := by
  have b1 := hB.1
  have h1 := m_c50 (n := n) (L := L) hM (y1 := y1) (y2 := y2) (y3 := y3) 5 0 n 1 (by omega) (by omega)
  have h2 := m_c80 (n := n) (O := O) (J := J) (L := L) (y1 := y1) (y2 := y2) (y3 := y3) (y4 := nI (1 * 9 ^ 5)) (5 - N 0) (N 0) n 1 (by omega) (by omega)
  rw [Nat.one_mul (9 ^ (5 - N 0))] at h2
  exact h1.trans h2
theorem c9_e {a : Nat} (h : a ≤ 5) : 9 ^ a * 9 ^ (5 - a) = 59049 := by
  rw [← Nat.pow_add, show a + (5 - a) = 5 by omega]
end CD
