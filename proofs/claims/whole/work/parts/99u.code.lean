/-! teaching: rows and codes -/
def codeN (t : TN) : Nat := t 0 * 6561 + t 1 * 729 + t 2 * 81 + t 3 * 9 + t 4
theorem dg_0 (x : Nat) : dgT x 0 = x / 6561 % 9 := rfl
theorem dg_1 (x : Nat) : dgT x 1 = x / 729 % 9 := rfl
theorem dg_2 (x : Nat) : dgT x 2 = x / 81 % 9 := rfl
theorem dg_3 (x : Nat) : dgT x 3 = x / 9 % 9 := rfl
theorem dg_4 (x : Nat) : dgT x 4 = x % 9 := by
  show x / 9 ^ 0 % 9 = x % 9
  rw [Nat.pow_zero, Nat.div_one]
theorem code_dg {t : TN} (h : ∀ r, r < 5 → t r ≤ 8) : ∀ r, r < 5 → dgT (codeN t) r = t r := by
  have h0 := h 0 (by omega)
  have h1 := h 1 (by omega)
  have h2 := h 2 (by omega)
  have h3 := h 3 (by omega)
  have h4 := h 4 (by omega)
  intro r hr
  unfold codeN
  have : r = 0 ∨ r = 1 ∨ r = 2 ∨ r = 3 ∨ r = 4 := by omega
  rcases this with rfl | rfl | rfl | rfl | rfl
  · rw [dg_0]; omega
  · rw [dg_1]; omega
  · rw [dg_2]; omega
  · rw [dg_3]; omega
  · rw [dg_4]; omega
theorem dg_code {x : Nat} (h : x < 59049) : codeN (dgT x) = x := by
  unfold codeN
  rw [dg_0, dg_1, dg_2, dg_3, dg_4]
  omega
theorem code_lt {t : TN} (h : ∀ r, r < 5 → t r ≤ 8) : codeN t < 59049 := by
  have h0 := h 0 (by omega)
  have h1 := h 1 (by omega)
  have h2 := h 2 (by omega)
  have h3 := h 3 (by omega)
  have h4 := h 4 (by omega)
  unfold codeN
  omega
theorem ti_code (x : Nat) : tiN x = dgT x 0 + dgT x 1 + dgT x 2 + dgT x 3 + dgT x 4 := by
  show 0 + dgT x 0 + dgT x 1 + dgT x 2 + dgT x 3 + dgT x 4 = _
  omega
/-- the best of the codes -/
def bsB (P : Nat → Bool) (x : Nat) (b : Option Nat) : Option Nat := if 8 < tiN x then b else match b with
  | none => if P x then some x else none
  | some y => if tiN y < tiN x then some y else if P x then some x else some y
def BsI (P : Nat → Bool) (g : Nat → Nat) (k : Nat) (b : Option Nat) : Prop := match b with
  | none => ∀ j, j < k → tiN (g j) ≤ 8 → P (g j) = false
  | some y => (∃ i, i < k ∧ y = g i) ∧ tiN y ≤ 8 ∧ P y = true ∧ ∀ j, j < k → tiN (g j) ≤ 8 → P (g j) = true → tiN y < tiN (g j) ∨ (tiN y = tiN (g j) ∧ g j ≤ y)
theorem bs_s {P : Nat → Bool} {g : Nat → Nat} (hg : ∀ i j, i < j → g i < g j) {k : Nat} {b : Option Nat} (h : BsI P g k b) : BsI P g (k + 1) (bsB P (g k) b) := by
  unfold bsB
  by_cases z : 8 < tiN (g k)
  · rw [if_pos z]
    cases b with
    | none =>
      intro j hj h8
      by_cases q : j = k
      · subst q; omega
      · exact h j (by omega) h8
    | some y =>
      obtain ⟨⟨i, hi, ei⟩, a2, a3, a4⟩ := h
      refine ⟨⟨i, by omega, ei⟩, a2, a3, fun j hj h8 hP => ?_⟩
      by_cases q : j = k
      · subst q; omega
      · exact a4 j (by omega) h8 hP
  · rw [if_neg z]
    cases b with
    | none =>
      show BsI P g (k + 1) (if P (g k) then some (g k) else none)
      cases hp : P (g k)
      · rw [if_neg (by decide)]
        intro j hj h8
        by_cases q : j = k
        · subst q; exact hp
        · exact h j (by omega) h8
      · rw [if_pos rfl]
        refine ⟨⟨k, by omega, rfl⟩, by omega, hp, fun j hj h8 hP => ?_⟩
        by_cases q : j = k
        · subst q; exact Or.inr ⟨rfl, Nat.le_refl _⟩
        · have := h j (by omega) h8
          rw [this] at hP; exact absurd hP (by decide)
    | some y =>
      obtain ⟨⟨i, hi, ei⟩, a2, a3, a4⟩ := h
      show BsI P g (k + 1) (if tiN y < tiN (g k) then some y else if P (g k) then some (g k) else some y)
      by_cases q1 : tiN y < tiN (g k)
      · rw [if_pos q1]
        refine ⟨⟨i, by omega, ei⟩, a2, a3, fun j hj h8 hP => ?_⟩
        by_cases q : j = k
        · subst q; exact Or.inl q1
        · exact a4 j (by omega) h8 hP
      · rw [if_neg q1]
        cases hp : P (g k)
        · rw [if_neg (by decide)]
          refine ⟨⟨i, by omega, ei⟩, a2, a3, fun j hj h8 hP => ?_⟩
          by_cases q : j = k
          · subst q; rw [hp] at hP; exact absurd hP (by decide)
          · exact a4 j (by omega) h8 hP
        · rw [if_pos rfl]
          refine ⟨⟨k, by omega, rfl⟩, by omega, hp, fun j hj h8 hP => ?_⟩
          by_cases q : j = k
          · subst q; exact Or.inr ⟨rfl, Nat.le_refl _⟩
          · have hlt := hg j k (by omega)
            rcases a4 j (by omega) h8 hP with u | ⟨u, -⟩
            · exact Or.inl (by omega)
            · by_cases w : tiN (g k) < tiN (g j)
              · exact Or.inl w
              · exact Or.inr ⟨by omega, by omega⟩
