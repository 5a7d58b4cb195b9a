/-! teaching: the class's sharing -/
def smT (s : TN) : Nat → Nat → Nat
  | 0, _ => 0
  | d + 1, r => s r + smT s d (r + 1)
/-- the rows that go on from t: the places below r and from e on as in t, the sum from r on is q -/
def GdT (P : TN → Bool) (t : TN) (e r q : Nat) (s : TN) : Prop := (∀ j, j < r → s j = t j) ∧ (∀ j, e ≤ j → s j = t j) ∧ smT s (e - r) r = q ∧ P s = true
/-- what the class holds while it shares -/
def ShI (O : TO) (N : TN) (lw : Lws) (c : Nat) (I0 I : TI) (t : TN) : Prop := (∀ a, a ≠ 283 → a ≠ 284 → a ≠ 285 → a ≠ 296 → a ≠ 298 → I a = I0 a) ∧ (∀ r, r < 5 → t r ≤ 8 ∧ I 296 r = nI (t r)) ∧ vOK N lw c I
theorem smT_le {s : TN} : ∀ d r j, r ≤ j → j < r + d → s j ≤ smT s d r := by
  intro d
  induction d with
  | zero => intro r j h1 h2; omega
  | succ d ih =>
    intro r j h1 h2
    show s j ≤ s r + smT s d (r + 1)
    by_cases z : j = r
    · rw [z]; omega
    · have := ih (r + 1) j (by omega) (by omega); omega
theorem smT_c {s s' : TN} : ∀ d r, (∀ j, r ≤ j → j < r + d → s j = s' j) → smT s d r = smT s' d r := by
  intro d
  induction d with
  | zero => intro r _; rfl
  | succ d ih =>
    intro r h
    show s r + smT s d (r + 1) = s' r + smT s' d (r + 1)
    rw [h r (by omega) (by omega), ih (r + 1) (fun j h1 h2 => h j (by omega) (by omega))]
