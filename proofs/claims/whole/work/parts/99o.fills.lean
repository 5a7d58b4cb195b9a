/-! the ways to fill -/
def fiN (N : TN) (r v p : Nat) : Nat := if tornB N r p then v / 6 ^ tcN N r p % 6 else K N r p
def phI (row : TN) (N : TN) (s : Nat) : Nat → Nat → Bool
  | 0, _ => true
  | d + 1, j => if row (s + j) = N (199 + j) then phI row N s d (j + 1) else false
def phO (row : TN) (N : TN) (ln : Nat) : Nat → Nat → Bool
  | 0, _ => false
  | d + 1, s => if ln < s + N 5 then false else if phI row N s (N 5) 0 then true else phO row N ln d (s + 1)
section PH
variable {n : Nat} {I J : TI} {O : TO} {N row : TN} {ln : Nat}
theorem x_ph15 (hO : OF O) (h5 : N 5 ≤ 8) (hl : ln ≤ 16) (p5 : I 2 6 = nI (N 5)) (pk : ∀ k, k < 8 → I 132 k = nI (N (199 + k)) ∧ N (199 + k) ≤ 5) (hr : ∀ p, p < ln → I 288 p = nI (row p) ∧ row p ≤ 5) {s : Nat} (hs : s + N 5 ≤ ln) {k2 : Nat → Nat → Int32 → Int32 → Option Int32} : ∀ d j m, j + d = N 5 → d < m → f2_hasPhrase_c15 n I O k2 m 287 2 (nI ln) (nI s) (nI j) = if phI row N s d j then some 1 else k2 287 2 (nI ln) (nI (s + 1)) := by
  intro d
  induction d with
  | zero =>
    intro j m hj hm
    obtain ⟨m, rfl⟩ : ∃ m', m = m' + 1 := ⟨m - 1, by omega⟩
    rw [f2_hasPhrase_c15, p5, show j = N 5 by omega, if_pos (Int32.le_refl _), if_pos rfl]; rfl
  | succ d ih =>
    intro j m hj hm
    obtain ⟨m, rfl⟩ : ∃ m', m = m' + 1 := ⟨m - 1, by omega⟩
    obtain ⟨a1, a2⟩ := hr (s + j) (by omega)
    obtain ⟨a3, a4⟩ := pk j (by omega)
    rw [f2_hasPhrase_c15, p5, if_neg (nle_i (by omega) (by omega) (by omega)), if_neg (show ¬ (8 : Int32) ≤ nI j from nle_i (a := 8) (by omega) (by omega) (by omega)), qadd, if_neg (nI_in (by omega) (by omega)), if_neg (nI_in (by omega) (by omega)), o_287_0 hO, o_2_2 hO, qcl (by omega), qcl (by omega), a1, a3]
    show _ = if (if row (s + j) = N (199 + j) then phI row N s d (j + 1) else false) = true then _ else _
    by_cases z : row (s + j) = N (199 + j)
    · rw [if_pos (congrArg nI z), if_pos z, nI_1]; exact ih (j + 1) m (by omega) (by omega)
    · rw [if_neg (fun q => z (by rw [qeq (by omega) (by omega)] at q; exact q)), if_neg z, if_neg (show ¬ nI j = nI (N 5) from fun q => by rw [qeq (by omega) (by omega)] at q; omega), if_neg (show ¬ ((false : Bool) = true) by decide), nI_1]
theorem x_phr (hn : 100000 ≤ n) (hO : OF O) (h5 : N 5 ≤ 8) (hl : ln ≤ 16) (p5 : I 2 6 = nI (N 5)) (pk : ∀ k, k < 8 → I 132 k = nI (N (199 + k)) ∧ N (199 + k) ≤ 5) (hr : ∀ p, p < ln → I 288 p = nI (row p) ∧ row p ≤ 5) : ∀ d s m, s + d = 18 → d < m → f2_hasPhrase_c2 n I O m 287 2 (nI ln) (nI s) = some (if phO row N ln d s then 1 else 0) := by
  intro d
  induction d with
  | zero =>
    intro s m hs hm
    obtain ⟨m, rfl⟩ : ∃ m', m = m' + 1 := ⟨m - 1, by omega⟩
    rw [f2_hasPhrase_c2, p5, qadd, if_pos ((nI_ltI (by omega) (by omega)).mpr (by omega))]; rfl
  | succ d ih =>
    intro s m hs hm
    obtain ⟨m, rfl⟩ : ∃ m', m = m' + 1 := ⟨m - 1, by omega⟩
    rw [f2_hasPhrase_c2, p5, qadd]
    show _ = some (if (if ln < s + N 5 then false else if phI row N s (N 5) 0 = true then true else phO row N ln d (s + 1)) = true then (1 : Int32) else 0)
    by_cases z : ln < s + N 5
    · rw [if_pos ((nI_ltI (by omega) (by omega)).mpr z), if_pos z]; rfl
    · rw [if_neg (fun q => z ((nI_ltI (by omega) (by omega)).mp q)), if_neg z, show (0 : Int32) = nI 0 from rfl, x_ph15 hO h5 hl p5 pk hr (by omega) (N 5) 0 n (by omega) (by omega)]
      cases phI row N s (N 5) 0
      · show f2_hasPhrase_c2 n I O m 287 2 (nI ln) (nI (s + 1)) = some (if phO row N ln d (s + 1) = true then (1 : Int32) else 0)
        exact ih (s + 1) m (by omega) (by omega)
      · rfl
theorem m_ph24 (hO : OF O) (hM : MV J O N) (h5 : N 5 ≤ 8) (hl : ln ≤ 16) (hp : ∀ k, k < 8 → N (199 + k) ≤ 5) (hr : ∀ p, p < ln → J 342 p = nI (row p) ∧ row p ≤ 5) {s : Nat} (hs : s + N 5 ≤ ln) {k2 : Nat → Int32 → Int32 → Option Int32} {y1 : Int32} : ∀ d j m, j + d = N 5 → d < m → f12_isPhraseIn_c24 n J O k2 m 331 y1 (nI s) (nI j) = if phI row N s d j then some 1 else k2 331 y1 (nI (s + 1)) := by
  have p5 := hM.2 5 (by omega)
  intro d
  induction d with
  | zero =>
    intro j m hj hm
    obtain ⟨m, rfl⟩ : ∃ m', m = m' + 1 := ⟨m - 1, by omega⟩
    rw [f12_isPhraseIn_c24, hM.1, p5, show j = N 5 by omega, if_pos (Int32.le_refl _), if_pos rfl]; rfl
  | succ d ih =>
    intro j m hj hm
    obtain ⟨m, rfl⟩ : ∃ m', m = m' + 1 := ⟨m - 1, by omega⟩
    obtain ⟨a1, a2⟩ := hr (s + j) (by omega)
    have a3 := hM.2 (199 + j) (by omega)
    have a4 := hp j (by omega)
    rw [f12_isPhraseIn_c24, hM.1, p5, if_neg (nle_i (by omega) (by omega) (by omega)), qadd, if_neg (nI_in (by omega) (by omega)), show (199 : Int32) + nI j = nI (199 + j) from qadd 199 j, if_neg (nI_in (by omega) (by omega)), o_331_27 hO, qcl (by omega), qcl (by omega), a1, a3]
    show _ = if (if row (s + j) = N (199 + j) then phI row N s d (j + 1) else false) = true then _ else _
    by_cases z : row (s + j) = N (199 + j)
    · rw [if_pos (congrArg nI z), if_pos z, nI_1]; exact ih (j + 1) m (by omega) (by omega)
    · rw [if_neg (fun q => z (by rw [qeq (by omega) (by omega)] at q; exact q)), if_neg z, if_neg (show ¬ nI j = nI (N 5) from fun q => by rw [qeq (by omega) (by omega)] at q; omega), if_neg (show ¬ ((false : Bool) = true) by decide), nI_1]
theorem m_phr (hn : 100000 ≤ n) (hO : OF O) (hM : MV J O N) (h5 : N 5 ≤ 8) {r : Nat} (hrr : r < 5) (hl : Ln N r ≤ 16) (hp : ∀ k, k < 8 → N (199 + k) ≤ 5) (hr : ∀ p, p < Ln N r → J 342 p = nI (row p) ∧ row p ≤ 5) : ∀ d s m, s + d = 18 → d < m → f12_isPhraseIn_c2 n J O m 331 (nI r) (nI s) = some (if phO row N (Ln N r) d s then 1 else 0) := by
  have p5 := hM.2 5 (by omega)
  have el : J 332 (114 + r) = nI (Ln N r) := m_len hM hrr
  have y0 : (114 : Int32) + nI r = nI (114 + r) := qadd 114 r
  intro d
  induction d with
  | zero =>
    intro s m hs hm
    obtain ⟨m, rfl⟩ : ∃ m', m = m' + 1 := ⟨m - 1, by omega⟩
    rw [f12_isPhraseIn_c2, y0, if_neg (nI_in (by omega) (by omega)), hM.1, qcl (by omega), el, p5, qadd, if_pos ((nI_ltI (by omega) (by omega)).mpr (by omega))]; rfl
  | succ d ih =>
    intro s m hs hm
    obtain ⟨m, rfl⟩ : ∃ m', m = m' + 1 := ⟨m - 1, by omega⟩
    rw [f12_isPhraseIn_c2, y0, if_neg (nI_in (by omega) (by omega)), hM.1, qcl (by omega), el, p5, qadd]
    show _ = some (if (if Ln N r < s + N 5 then false else if phI row N s (N 5) 0 = true then true else phO row N (Ln N r) d (s + 1)) = true then (1 : Int32) else 0)
    by_cases z : Ln N r < s + N 5
    · rw [if_pos ((nI_ltI (by omega) (by omega)).mpr z), if_pos z]; rfl
    · rw [if_neg (fun q => z ((nI_ltI (by omega) (by omega)).mp q)), if_neg z, show (0 : Int32) = nI 0 from rfl, m_ph24 hO hM h5 hl hp hr (by omega) (N 5) 0 n (by omega) (by omega)]
      cases phI row N s (N 5) 0
      · show f12_isPhraseIn_c2 n J O m 331 (nI r) (nI (s + 1)) = some (if phO row N (Ln N r) d (s + 1) = true then (1 : Int32) else 0)
        exact ih (s + 1) m (by omega) (by omega)
      · rfl
end PH
theorem md6 {x : Nat} (hx : x < 2147483648) : nI x - nI x / 6 * 6 = nI (x % 6) := by
  rw [show nI x / 6 = nI (x / 6) from pk_div (d := 6) hx (by omega) (by omega), show nI (x / 6) * 6 = nI (x / 6 * 6) from qmul (x / 6) 6, qsubm]
section FI
variable {n : Nat} {I J : TI} {O : TO} {N : TN} {r : Nat}
theorem tm_hi {q : Nat} : ∀ d, d ≤ q → tmN N r d / 2 ^ q = 0 := fun d h => Nat.div_eq_of_lt (Nat.lt_of_lt_of_le (tmN_lt d) (Nat.pow_le_pow_right (by omega) h))
theorem tm_bit {q : Nat} : ∀ d, q < d → tmN N r d / 2 ^ q % 2 = if tornB N r q then 1 else 0 := by
  intro d
  induction d with
  | zero => intro h; omega
  | succ d ih =>
    intro h
    rw [tmN_s]
    by_cases z : q = d
    · subst z
      have h0 := tm_hi (N := N) (r := r) (q := q) q (Nat.le_refl _)
      cases tornB N r q
      · rw [if_neg (by decide), if_neg (by decide), h0]
      · rw [if_pos rfl, if_pos rfl, Nat.add_div_right _ (Nat.pow_pos (by omega)), h0]
    · have := ih (by omega)
      cases tornB N r d
      · rw [if_neg (by decide)]; exact this
      · rw [if_pos rfl, ← this]
        obtain ⟨e, rfl⟩ : ∃ e, d = q + 1 + e := ⟨d - q - 1, by omega⟩
        rw [show 2 ^ (q + 1 + e) = 2 ^ q * (2 * 2 ^ e) by rw [Nat.pow_add, Nat.pow_succ, Nat.mul_assoc], Nat.add_mul_div_left _ _ (Nat.pow_pos (by omega))]
        omega
theorem sh16 : ∀ p, p < 16 → ((nI p &&& 31).toBitVec.smod 32).toNat = p := by decide +kernel
theorem bit_t {b p : Nat} (hb : b < 65536) (hp : p < 16) : (nI b >>> (nI p &&& 31)) &&& 1 = nI (b / 2 ^ p % 2) := by
  rw [pk_shrN (by omega) _ p (sh16 p hp), show (1 : Int32) = nI 1 from rfl, nI_and, Nat.and_one_is_mod]
theorem x_fill2 (hl : Ln N r ≤ 16) : ∀ d p m y, p + d = 16 → d < m → Ln N r ≤ p → f2_fill_c5 n O m I 287 (nI (tmN N r (Ln N r))) y (nI p) = some I := by
  intro d
  induction d with
  | zero =>
    intro p m y hp hm h
    obtain ⟨m, rfl⟩ : ∃ m', m = m' + 1 := ⟨m - 1, by omega⟩
    rw [f2_fill_c5, show p = 16 by omega, if_pos (show (16 : Int32) ≤ nI 16 by decide)]
  | succ d ih =>
    intro p m y hp hm h
    obtain ⟨m, rfl⟩ : ∃ m', m = m' + 1 := ⟨m - 1, by omega⟩
    rw [f2_fill_c5, if_neg (show ¬ (16 : Int32) ≤ nI p from nle_i (a := 16) (by omega) (by omega) (by omega)), bit_t (tm_16 hl) (by omega), tm_hi _ h, if_pos (show nI (0 % 2) = 0 by decide), nI_1]
    exact ih (p + 1) m y (by omega) (by omega) (by omega)
theorem x_fill1 (hO : OF O) (hl : Ln N r ≤ 16) {v : Nat} (hv : v < 2000) : ∀ d p m I, p + d = Ln N r → 16 - p < m → ∃ I', f2_fill_c5 n O m I 287 (nI (tmN N r (Ln N r))) (nI (v / 6 ^ tcN N r p)) (nI p) = some I' ∧ (∀ a, a ≠ 288 → I' a = I a) ∧ (∀ q, q < p → I' 288 q = I 288 q) ∧ ∀ q, p ≤ q → q < Ln N r → I' 288 q = if tornB N r q then nI (fiN N r v q) else I 288 q := by
  intro d
  induction d with
  | zero =>
    intro p m I hp hm
    exact ⟨I, x_fill2 hl (16 - p) p m _ (by omega) hm (by omega), fun _ _ => rfl, fun _ _ => rfl, fun q h1 h2 => by omega⟩
  | succ d ih =>
    intro p m I hp hm
    obtain ⟨m, rfl⟩ : ∃ m', m = m' + 1 := ⟨m - 1, by omega⟩
    have vb : v / 6 ^ tcN N r p ≤ v := Nat.div_le_self _ _
    have tb := tm_bit (N := N) (r := r) (q := p) (Ln N r) (by omega)
    cases ht : tornB N r p
    · have e1 : tcN N r (p + 1) = tcN N r p := by show (if tornB N r p then _ else _) = _; rw [ht]; rfl
      obtain ⟨I', a1, a2, a3, a4⟩ := ih (p + 1) m I (by omega) (by omega)
      rw [e1] at a1
      refine ⟨I', ?_, a2, fun q hq => a3 q (by omega), fun q h1 h2 => ?_⟩
      · rw [ht] at tb
        rw [f2_fill_c5, if_neg (show ¬ (16 : Int32) ≤ nI p from nle_i (a := 16) (by omega) (by omega) (by omega)), bit_t (tm_16 hl) (by omega), tb, if_pos (by decide), nI_1]
        exact a1
      · by_cases z : q = p
        · subst z; rw [a3 q (by omega), ht]; rfl
        · exact a4 q (by omega) h2
    · have e1 : tcN N r (p + 1) = tcN N r p + 1 := by show (if tornB N r p then _ else _) = _; rw [ht]; rfl
      have e2 : v / 6 ^ tcN N r p / 6 = v / 6 ^ tcN N r (p + 1) := by rw [e1, Nat.pow_succ, Nat.div_div_eq_div_mul]
      obtain ⟨I', a1, a2, a3, a4⟩ := ih (p + 1) m (sI I 288 p (nI (v / 6 ^ tcN N r p % 6))) (by omega) (by omega)
      refine ⟨I', ?_, fun a ha => by rw [a2 a ha, sI_o _ _ ha], fun q hq => by rw [a3 q (by omega), sI_k _ _ (by omega)], fun q h1 h2 => ?_⟩
      · rw [ht] at tb
        rw [f2_fill_c5, if_neg (show ¬ (16 : Int32) ≤ nI p from nle_i (a := 16) (by omega) (by omega) (by omega)), bit_t (tm_16 hl) (by omega), tb, if_neg (by decide), if_neg (nI_in (by omega) (by omega)), o_287_0 hO, qcl (by omega), md6 (by omega), qbl, show nI (v / 6 ^ tcN N r p) / 6 = nI (v / 6 ^ tcN N r p / 6) from pk_div (d := 6) (by omega) (by omega) (by omega), e2, nI_1]
        exact a1
      · by_cases z : q = p
        · subst z
          rw [a3 q (by omega), sI_s, ht, if_pos rfl]
          unfold fiN
          rw [ht, if_pos rfl]
        · rw [a4 q (by omega) h2, sI_k _ _ z]
theorem m_f69 (hO : OF O) (hM : MV J O N) (hB : WB N) (hr : r < 5) (hl : Ln N r ≤ 16) {v : Nat} (hv : v < 2000) {k56 : TI → Nat → Int32 → Int32 → Int64 → Int32 → Option (Int64 × TI)} {y2 y5 : Int32} {y3 : Int64} : ∀ d p m J1, p + d = Ln N r → d < m → (∀ a, a ≠ 342 → J1 a = J a) → (∀ q, q < p → J1 342 q = nI (fiN N r v q)) → ∃ J', f12_fills_c69 n O k56 m J1 331 (nI r) y2 y3 y5 (nI (v / 6 ^ tcN N r p)) (nI p) = ((f12_isPhraseIn n J' O 331 (nI r)).bind fun r4 => (if r4 = 0 then k56 J' 331 (nI r) y2 (y3 + 0) (y5 + 1) else k56 J' 331 (nI r) y2 (y3 + 1) (y5 + 1))) ∧ (∀ a, a ≠ 342 → J' a = J a) ∧ ∀ q, q < Ln N r → J' 342 q = nI (fiN N r v q) := by
  have y0 : (114 : Int32) + nI r = nI (114 + r) := qadd 114 r
  have o := o_331_27 hO
  intro d
  induction d with
  | zero =>
    intro p m J1 hp hm h0 h1
    obtain ⟨m, rfl⟩ : ∃ m', m = m' + 1 := ⟨m - 1, by omega⟩
    have hM1 := MV_fr hM (h0 332 (by omega))
    have el : J1 332 (114 + r) = nI (Ln N r) := m_len hM1 hr
    refine ⟨J1, ?_, h0, fun q hq => h1 q (by omega)⟩
    rw [f12_fills_c69, y0, if_neg (nI_in (by omega) (by omega)), hM.1, qcl (by omega), el, show p = Ln N r by omega, if_pos (Int32.le_refl _)]
  | succ d ih =>
    intro p m J1 hp hm h0 h1
    obtain ⟨m, rfl⟩ : ∃ m', m = m' + 1 := ⟨m - 1, by omega⟩
    have hM1 := MV_fr hM (h0 332 (by omega))
    have el : J1 332 (114 + r) = nI (Ln N r) := m_len hM1 hr
    have et := m_isTorn hM1 hB hr (show p < 16 by omega)
    have ek := m_keyOf hM1 hr (show p < 16 by omega)
    have vb : v / 6 ^ tcN N r p ≤ v := Nat.div_le_self _ _
    have np : ¬ nI (Ln N r) ≤ nI p := nle_i (by omega) (by omega) (by omega)
    obtain ⟨J', a1, a2, a3⟩ := ih (p + 1) m (sI J1 342 p (nI (fiN N r v p))) (by omega) (by omega) (fun a ha => by rw [sI_o _ _ ha]; exact h0 a ha) (fun q hq => by
      by_cases z : q = p
      · subst z; rw [sI_s]
      · rw [sI_k _ _ z]; exact h1 q (by omega))
    have et2 : f12_isTorn (sI J1 342 p (nI (fiN N r v p))) O 331 (nI r) (nI p) = some (if tornB N r p then 1 else 0) := m_isTorn (MV_fr hM1 (sI_o _ _ (by omega))) hB hr (by omega)
    refine ⟨J', ?_, a2, a3⟩
    rw [← a1]
    cases ht : tornB N r p
    · have e1 : tcN N r (p + 1) = tcN N r p := by show (if tornB N r p then _ else _) = _; rw [ht]; rfl
      have e2 : fiN N r v p = K N r p := by unfold fiN; rw [ht]; rfl
      rw [ht] at et et2
      rw [f12_fills_c69, y0, if_neg (nI_in (by omega) (by omega)), hM.1, qcl (by omega), el, if_neg np, et, qb, if_pos (by decide), ek, qb, ← e2]
      unfold f12_fills_c114
      rw [if_neg (nI_in (by omega) (by omega)), o, qcl (by omega), qbl, et2, qb, if_pos (by decide), e1, nI_1, Int32.div_one]
    · have e1 : tcN N r (p + 1) = tcN N r p + 1 := by show (if tornB N r p then _ else _) = _; rw [ht]; rfl
      have e3 : v / 6 ^ tcN N r p / 6 = v / 6 ^ tcN N r (p + 1) := by rw [e1, Nat.pow_succ, Nat.div_div_eq_div_mul]
      have e2 : fiN N r v p = v / 6 ^ tcN N r p % 6 := by unfold fiN; rw [ht]; rfl
      rw [ht] at et et2
      rw [f12_fills_c69, y0, if_neg (nI_in (by omega) (by omega)), hM.1, qcl (by omega), el, if_neg np, et, qb, if_neg (by decide), md6 (by omega), ← e2]
      unfold f12_fills_c114
      rw [if_neg (nI_in (by omega) (by omega)), o, qcl (by omega), qbl, et2, qb, if_neg (by decide), show nI (v / 6 ^ tcN N r p) / 6 = nI (v / 6 ^ tcN N r p / 6) from pk_div (d := 6) (by omega) (by omega) (by omega), e3, nI_1]
end FI
