/-! teaching: times, soundings, what is heard then -/
def dgT (x k : Nat) : Nat := x / 9 ^ (4 - k) % 9
def tiN (x : Nat) : Nat := fo (fun k s => s + dgT x k) 5 0 0
def soG (N : TN) (r k p s : Nat) : Nat := if holeB N r p then (if K N r p = k then s + 1 else s) else s
def sdK (N : TN) (r k : Nat) : Nat := if r < N 0 then fo (soG N r k) (Ln N r) 0 0 else 0
def taS (N : TN) (t : TN) (k d : Nat) : Nat := fo (fun r s => s + t r * sdK N r k) d 0 0
def taN (N : TN) (c : Nat) (t : TN) (k : Nat) : Nat := min 99 (Hd N c k + taS N t k 5)
section TH
variable {n : Nat} {I J : TI} {O : TO} {N : TN}
theorem md9 {x : Nat} (hx : x < 2147483648) : nI x - nI x / 9 * 9 = nI (x % 9) := by
  rw [show nI x / 9 = nI (x / 9) from pk_div (d := 9) hx (by omega) (by omega), show nI (x / 9) * 9 = nI (x / 9 * 9) from qmul (x / 9) 9, qsubm]
theorem m_times4 {x : Nat} (hx : x < 2147483648) : ∀ d k m, k + d = 4 → d < m → ∀ y, y < 2147483648 → f12_timesOf_c4 n m (nI y) (nI k) = some (nI (y / 9 ^ d % 9)) := by
  intro d
  induction d with
  | zero =>
    intro k m hk hm y hy
    obtain ⟨m, rfl⟩ : ∃ m', m = m' + 1 := ⟨m - 1, by omega⟩
    rw [f12_timesOf_c4, show k = 4 by omega, if_pos (show (4 : Int32) ≤ nI 4 by decide), md9 hy, Nat.pow_zero, Nat.div_one]
  | succ d ih =>
    intro k m hk hm y hy
    obtain ⟨m, rfl⟩ : ∃ m', m = m' + 1 := ⟨m - 1, by omega⟩
    have : y / 9 ≤ y := Nat.div_le_self _ _
    rw [f12_timesOf_c4, if_neg (show ¬ (4 : Int32) ≤ nI k from nle_i (a := 4) (by omega) (by omega) (by omega)), show nI y / 9 = nI (y / 9) from pk_div (d := 9) hy (by omega) (by omega), nI_1, ih (k + 1) m (by omega) (by omega) (y / 9) (by omega), Nat.div_div_eq_div_mul, show 9 * 9 ^ d = 9 ^ (d + 1) by rw [Nat.pow_succ, Nat.mul_comm]]
theorem m_timesOf (hn : 100000 ≤ n) {x k : Nat} (hx : x < 2147483648) (hk : k < 5) : f12_timesOf n (nI x) (nI k) = some (nI (dgT x k)) :=
  m_times4 hx (4 - k) k n (by omega) (by omega) x hx
theorem dgT_le (x k : Nat) : dgT x k ≤ 8 := by
  have := Nat.mod_lt (x / 9 ^ (4 - k)) (show 0 < 9 by omega)
  unfold dgT
  omega
theorem m_timesIn (hn : 100000 ≤ n) {x : Nat} (hx : x < 2147483648) {a : Nat} : f12_timesIn n a (nI x) = some (nI (tiN x)) := by
  refine lpF (L := fun m k s => f12_timesIn_c4 n m (nI x) (nI s) (nI k)) (fun k s => s + dgT x k) (fun _ _ => True) 5 nI ?_ (fun _ _ _ _ => trivial) ?_ 5 0 n 0 (by omega) (by omega) trivial
  · intro m k s hk _
    rw [f12_timesIn_c4, if_neg (show ¬ (5 : Int32) ≤ nI k from nle_i (a := 5) (by omega) (by omega) hk), m_timesOf hn hx hk, qb, qadd, nI_1]
  · intro m s _
    rw [f12_timesIn_c4, if_pos (show (5 : Int32) ≤ nI 5 by decide)]
theorem soG_le {r k p s M : Nat} (h : s ≤ M) : soG N r k p s ≤ M + 1 := by
  unfold soG
  split
  · split <;> omega
  · omega
theorem sdK_le (hB : WB N) {r k : Nat} : sdK N r k ≤ 16 := by
  unfold sdK
  split
  · next h =>
    have b1 := hB.1
    have l1 := hB.2.2.1 r (by omega)
    have := foI (soG N r k) (fun p s => s ≤ p) (Ln N r) (fun p s _ h => soG_le h) (Ln N r) 0 0 (by omega) (Nat.le_refl _)
    exact Nat.le_trans this l1
  · omega
theorem x_sound (hn : 100000 ≤ n) (hB : WB N) (hV : WV I O 3 4 5 6 7 8 N) {r k : Nat} (hr : r < N 0) (hk : k < 6) : f10_soundings n I O 3 (nI r) (nI k) = some (nI (sdK N r k)) := by
  have b1 := hB.1
  have l1 := hB.2.2.1 r (by omega)
  have es := x_size hV hB hr
  unfold sdK
  rw [if_pos hr]
  refine lpF (L := fun m p s => f10_soundings_c5 n I O m 3 (nI r) (nI k) (nI s) (nI p)) (soG N r k) (fun _ _ => True) (Ln N r) nI ?_ (fun _ _ _ _ => trivial) ?_ (Ln N r) 0 n 0 (by omega) (by omega) trivial
  · intro m p s hp _
    have eh := x_sounds hV hB hr hp
    have ek := x_keyAt hV hB hr hp
    have kb := hB.2.2.2.2.1 r p (by omega) (by omega)
    have np : ¬ nI (Ln N r) ≤ nI p := nle_i (by omega) (by omega) hp
    rw [f10_soundings_c5, es, qb, if_neg np, eh, qb]
    unfold soG
    cases holeB N r p
    · rw [if_pos (by decide), if_neg (by decide), nI_1]
    · rw [if_neg (by decide), if_pos rfl, ek, qb]
      by_cases z : K N r p = k
      · rw [if_pos (congrArg nI z), if_pos z, nI_1, nI_1]
      · rw [if_neg (fun q => z (by rw [qeq (by omega) (by omega)] at q; exact q)), if_neg z, nI_1]
  · intro m s _
    rw [f10_soundings_c5, es, qb, if_pos (Int32.le_refl _)]
theorem taS_le (hB : WB N) {t : TN} (ht : ∀ r, r < 5 → t r ≤ 8) {k : Nat} : ∀ d, d ≤ 5 → taS N t k d ≤ 128 * d := by
  intro d
  induction d with
  | zero => intro _; exact Nat.le_refl _
  | succ d ih =>
    intro hd
    have h1 := ih (by omega)
    have h2 : t d * sdK N d k ≤ 8 * 16 := Nat.mul_le_mul (ht d (by omega)) (sdK_le hB)
    unfold taS at h1 ⊢
    rw [fo_s, Nat.zero_add]
    omega
theorem x_then (hn : 100000 ≤ n) (hO : OF O) (hB : WB N) (hV : WV I O 3 4 5 6 7 8 N) {t : TN} (ht : ∀ r, r < 5 → t r ≤ 8 ∧ I 296 r = nI (t r)) (hs : ∀ r k, r < 5 → k < 6 → I 297 (r * 6 + k) = nI (sdK N r k)) {c k : Nat} (hc : c < N 1) (hk : k < 6) : f6_heardThen n I O 295 3 (nI c) (nI k) = some (nI (taN N c t k)) := by
  have b2 := hB.2.1
  have hb := hB.2.2.2.2.2.2.1 c k (by omega) hk
  have et := x_timesHeard hV hB hc hk
  have tl := taS_le hB (t := t) (fun r hr => (ht r hr).1) (k := k) 5 (by omega)
  unfold f6_heardThen
  rw [et, qb]
  have key : ∀ d r m, r + d = 5 → d < m → f6_heardThen_c11 n I O m 295 (nI k) (nI (Hd N c k + taS N t k r)) (nI r) = some (nI (taN N c t k)) := by
    intro d
    induction d with
    | zero =>
      intro r m hr hm
      obtain ⟨m, rfl⟩ : ∃ m', m = m' + 1 := ⟨m - 1, by omega⟩
      rw [f6_heardThen_c11, show r = 5 by omega, if_pos (show (5 : Int32) ≤ nI 5 by decide)]
      unfold taN
      have wb : Hd N c k + taS N t k 5 ≤ 1000 := by omega
      generalize Hd N c k + taS N t k 5 = w at *
      by_cases z : 99 ≤ w
      · rw [show min 99 w = 99 by omega]
        by_cases z2 : w = 99
        · subst z2; rfl
        · simp (disch := omega) only [fJ9_min_7cf53, fJ9_max_7cf53, qL, qb, qbl, qadd, qmul, qsubm, qdm, qsub, qdiv, qcl, qlt, qle, qeq, nltT, nltF, nleT, nleF, neqT, neqF, or_false, false_or, or_true, true_or, or_self, and_true, true_and, and_false, false_and, and_self, not_true_eq_false, not_false_eq_true, ↓reduceIte]
      · rw [show min 99 w = w by omega]
        by_cases z2 : w = 0
        · subst z2; rfl
        · simp (disch := omega) only [fJ9_min_7cf53, fJ9_max_7cf53, qL, qb, qbl, qadd, qmul, qsubm, qdm, qsub, qdiv, qcl, qlt, qle, qeq, nltT, nltF, nleT, nleF, neqT, neqF, or_false, false_or, or_true, true_or, or_self, and_true, true_and, and_false, false_and, and_self, not_true_eq_false, not_false_eq_true, ↓reduceIte]
    | succ d ih =>
      intro r m hr hm
      obtain ⟨m, rfl⟩ : ∃ m', m = m' + 1 := ⟨m - 1, by omega⟩
      have e1 := (ht r (by omega)).2
      have e2 := hs r k (by omega) hk
      have e3 : taS N t k (r + 1) = taS N t k r + t r * sdK N r k := by unfold taS; rw [fo_s, Nat.zero_add]
      have i := ih (r + 1) m (by omega) (by omega)
      rw [← i, e3, ← Nat.add_assoc, f6_heardThen_c11, if_neg (show ¬ (5 : Int32) ≤ nI r from nle_i (a := 5) (by omega) (by omega) (by omega)), if_neg (nI_in (by omega) (by omega)), show nI r * 6 = nI (r * 6) from qmul r 6, qadd, if_neg (nI_in (by omega) (by omega)), o_295_1 hO, o_295_2 hO, qcl (by omega), qcl (by omega), e1, e2, qmul, qadd, qbl, nI_1]
  exact key 5 0 n (by omega) (by omega)
end TH
