/-! how likely -/
def su (w : TN) (d a : Nat) : Nat := fo (fun j s => s + w j) d a 0
theorem su_s {w : TN} {d a : Nat} : su w (d + 1) a = su w d a + w (a + d) := fo_s _ _ _ _
theorem su_split {w : TN} {a : Nat} : ∀ d, su w (a + d) 0 = su w a 0 + su w d a := by
  intro d
  induction d with
  | zero => rfl
  | succ d ih => rw [show a + (d + 1) = a + d + 1 from rfl, su_s, su_s, ih, Nat.zero_add]; omega
def lyG (b : Nat) (w : TN) : TN := fun k => if k = 0 then w 0 * b else w k * b + w (k - 1) * (10 - b)
theorem su_ly {b : Nat} {w : TN} : ∀ d, su (lyG b w) (d + 1) 0 = su w (d + 1) 0 * b + su w d 0 * (10 - b) := by
  intro d
  induction d with
  | zero =>
    show 0 + lyG b w 0 = (0 + w 0) * b + 0 * (10 - b)
    show 0 + w 0 * b = (0 + w 0) * b + 0 * (10 - b)
    rw [Nat.zero_mul, Nat.zero_add, Nat.zero_add, Nat.add_zero]
  | succ d ih =>
    have e : su w (d + 1) 0 * (10 - b) = su w d 0 * (10 - b) + w d * (10 - b) := by rw [su_s, Nat.zero_add, Nat.add_mul]
    rw [su_s, ih, su_s (w := w) (d := d + 1), Nat.zero_add, show lyG b w (d + 1) = w (d + 1) * b + w d * (10 - b) from rfl, Nat.add_mul]
    omega
theorem su_10 {b : Nat} {w : TN} (hb : b ≤ 10) (h : w 16 = 0) : su (lyG b w) 17 0 = su w 17 0 * 10 := by
  rw [su_ly 16, su_s (w := w) (d := 16), Nat.zero_add, h, Nat.add_zero, ← Nat.mul_add, show b + (10 - b) = 10 by omega]
def lyP (N : TN) (lw : Lws) (r c k p : Nat) (s : TN × Nat) : TN × Nat := if holeB N r p then (if K N r p = k then (lyG (blN N lw r p c) s.1, s.2 + 1) else s) else s
def lyI (k : Nat) (s : TN × Nat) : Prop := s.2 ≤ k ∧ (∀ j, s.2 < j → s.1 j = 0) ∧ su s.1 17 0 = 10 ^ s.2
def ly0 : TN × Nat := (fun j => if j = 0 then 1 else 0, 0)
theorem ly0_ok : lyI 0 ly0 := ⟨Nat.le_refl _, fun j hj => if_neg (by have : ly0.2 = 0 := rfl; omega), by decide⟩
theorem lyI_s {N : TN} {lw : Lws} {r c k p : Nat} {s : TN × Nat} (hB : WB N) (hr : r < 5) (hp : p < 16) (h : lyI p s) : lyI (p + 1) (lyP N lw r c k p s) := by
  obtain ⟨h1, h2, h3⟩ := h
  have bb := blN_le hB (lw := lw) (r := r) (p := p) (c := c) hr hp
  unfold lyP
  split
  · split
    · refine ⟨by show s.2 + 1 ≤ p + 1; omega, fun j hj => ?_, ?_⟩
      · have hj' : s.2 + 1 < j := hj
        show (if j = 0 then _ else _) = 0
        rw [if_neg (by omega), h2 j (by omega), h2 (j - 1) (by omega), Nat.zero_mul, Nat.zero_mul]
      · show su (lyG _ s.1) 17 0 = 10 ^ (s.2 + 1)
        rw [su_10 bb (h2 16 (by omega)), h3, Nat.pow_succ]
    · exact ⟨by omega, h2, h3⟩
  · exact ⟨by omega, h2, h3⟩
theorem g1 (a b : Nat) : Nat.gcd a b = Nat.gcd b (a % b) := by rw [Nat.gcd_comm a b, Nat.gcd_rec b a, Nat.gcd_comm]
theorem half_mod {b r : Nat} (h0 : 0 < r) (h : r < b) : b % r * 2 ≤ b := by
  by_cases q : r * 2 ≤ b
  · have := Nat.mod_lt b h0; omega
  · have : b % r = b - r := by rw [Nat.mod_eq_sub_mod (by omega), Nat.mod_eq_of_lt (by omega)]
    omega
theorem lz_le {a : Nat} (h : a < 2 ^ 63) : lg_cmp (lN a) (0 : Int64) ≤ 0 ↔ a = 0 := by
  rw [lg_cmp_le]
  have := pk_lLE (a := a) (b := 0) h (by omega)
  exact this.trans (by omega)
theorem lz_eq {a : Nat} (h : a < 2 ^ 63) : lN a = (0 : Int64) ↔ a = 0 := by
  constructor
  · intro q
    have := (lz_le h).mp (by rw [q]; decide)
    exact this
  · intro q; rw [q]; rfl
section GC
variable {n : Nat}
theorem x_gcd1 {m a b j : Nat} (ha : a < 2 ^ 63) (h0 : 0 < b) (hb : b < 2 ^ 63) (hj : j < 200) : f11_commonDivisor_c9 n (m + 1) (lN a) (lN b) (nI j) = f11_commonDivisor_c9 n m (lN b) (lN (a % b)) (nI (j + 1)) := by
  rw [f11_commonDivisor_c9, if_neg (show ¬ (200 : Int32) ≤ nI j from nle_i (a := 200) (by omega) (by omega) hj), if_neg (fun q => by have := (lz_le hb).mp q; omega), if_neg (fun q => by have := (lz_eq hb).mp q; omega), pk_lRem ha h0 hb, nI_1]
theorem x_gcd0 {m a j : Nat} (hj : j < 200) : f11_commonDivisor_c9 n (m + 1) (lN a) (lN 0) (nI j) = some (lN a) := by
  rw [f11_commonDivisor_c9, if_neg (show ¬ (200 : Int32) ≤ nI j from nle_i (a := 200) (by omega) (by omega) hj), if_pos ((lz_le (by omega)).mpr rfl)]
theorem x_gcd : ∀ k a b j m, a < 2 ^ 63 → b < 2 ^ k → k ≤ 62 → j + 2 * k < 200 → 2 * k < m → f11_commonDivisor_c9 n m (lN a) (lN b) (nI j) = some (lN (Nat.gcd a b)) := by
  intro k
  induction k with
  | zero =>
    intro a b j m ha hb hk hj hm
    obtain ⟨m, rfl⟩ : ∃ m', m = m' + 1 := ⟨m - 1, by omega⟩
    have : b = 0 := by rw [Nat.pow_zero] at hb; omega
    subst this
    rw [x_gcd0 (by omega), Nat.gcd_zero_right]
  | succ k ih =>
    intro a b j m ha hb hk hj hm
    obtain ⟨m, rfl⟩ : ∃ m', m = m' + 2 := ⟨m - 2, by omega⟩
    have p63 : 2 ^ (k + 1) < 2 ^ 63 := Nat.pow_lt_pow_right (by omega) (by omega)
    by_cases z : b = 0
    · subst z; rw [x_gcd0 (by omega), Nat.gcd_zero_right]
    · rw [x_gcd1 ha (by omega) (by omega) (by omega), g1]
      have hr := Nat.mod_lt a (show 0 < b by omega)
      by_cases y : a % b = 0
      · rw [y, x_gcd0 (by omega), Nat.gcd_zero_right]
      · rw [x_gcd1 (by omega) (by omega) (by omega) (by omega), g1]
        have hm2 := half_mod (show 0 < a % b by omega) hr
        rw [Nat.pow_succ] at hb
        exact ih (a % b) (b % (a % b)) (j + 1 + 1) m (by omega) (by omega) (by omega) (by omega) (by omega)
theorem m_gcd1 {m a b : Nat} (ha : a < 2 ^ 63) (h0 : 0 < b) (hb : b < 2 ^ 63) : f12_divisor_c6 n (m + 1) (lN a) (lN b) = f12_divisor_c6 n m (lN b) (lN (a % b)) := by
  rw [f12_divisor_c6, if_neg (fun q => by rw [lg_cmp_eq] at q; have := (lz_eq hb).mp q; omega), if_neg (fun q => by have := (lz_eq hb).mp q; omega), pk_lRem ha h0 hb]
theorem m_gcd0 {m a : Nat} : f12_divisor_c6 n (m + 1) (lN a) (lN 0) = some (lN a) := by
  rw [f12_divisor_c6, if_pos (show lg_cmp (lN 0) 0 = 0 by decide)]
theorem m_gcd : ∀ k a b m, a < 2 ^ 63 → b < 2 ^ k → k ≤ 62 → 2 * k < m → f12_divisor_c6 n m (lN a) (lN b) = some (lN (Nat.gcd a b)) := by
  intro k
  induction k with
  | zero =>
    intro a b m ha hb hk hm
    obtain ⟨m, rfl⟩ : ∃ m', m = m' + 1 := ⟨m - 1, by omega⟩
    have : b = 0 := by rw [Nat.pow_zero] at hb; omega
    subst this
    rw [m_gcd0, Nat.gcd_zero_right]
  | succ k ih =>
    intro a b m ha hb hk hm
    obtain ⟨m, rfl⟩ : ∃ m', m = m' + 2 := ⟨m - 2, by omega⟩
    have p63 : 2 ^ (k + 1) < 2 ^ 63 := Nat.pow_lt_pow_right (by omega) (by omega)
    by_cases z : b = 0
    · subst z; rw [m_gcd0, Nat.gcd_zero_right]
    · rw [m_gcd1 ha (by omega) (by omega), g1]
      have hr := Nat.mod_lt a (show 0 < b by omega)
      by_cases y : a % b = 0
      · rw [y, m_gcd0, Nat.gcd_zero_right]
      · rw [m_gcd1 (by omega) (by omega) (by omega), g1]
        have hm2 := half_mod (show 0 < a % b by omega) hr
        rw [Nat.pow_succ] at hb
        exact ih (a % b) (b % (a % b)) m (by omega) (by omega) (by omega) (by omega)
end GC
section LY
variable {n : Nat} {I J : TI} {L : TL} {O : TO} {N : TN} {lw : Lws} {sx : Option Nat}
def LW (L : TL) (a : Nat) (w : TN) : Prop := ∀ j, j < 17 → L a j = lN (w j)
theorem nb_l {b : Nat} (hb : b ≤ 10) : (nI b).toInt64 = lN b ∧ (10 - nI b).toInt64 = lN (10 - b) := by
  refine ⟨nI_l (by omega), ?_⟩
  rw [show (10 : Int32) - nI b = nI (10 - b) from qsub (a := 10) hb, nI_l (by omega)]
theorem ly_d {w : TN} {b k : Nat} : lN (w (k + 1)) * lN b + lN (w k) * lN (10 - b) = lN (lyG b w (k + 1)) := by
  rw [lN_mul, lN_mul, lN_add]; rfl
theorem x_wp (hO : OF O) {w : TN} {b : Nat} (hb : b ≤ 10) : ∀ k m L, k < m → k ≤ 16 → (∀ j, j < 17 → L 299 j = lN (if j ≤ k then w j else lyG b w j)) → ∃ L', f6_weighPlace_c3 n O m L 295 (nI b) (nI k) = some L' ∧ LW L' 299 (lyG b w) := by
  obtain ⟨n1, n2⟩ := nb_l hb
  have n3 : (nI (10 - b)).toInt64 = lN (10 - b) := nI_l (by omega)
  have o := o_295_4 hO
  intro k
  induction k with
  | zero =>
    intro m L hm hk h
    obtain ⟨m, rfl⟩ : ∃ m', m = m' + 1 := ⟨m - 1, by omega⟩
    have e0 : L 299 0 = lN (w 0) := by rw [h 0 (by omega), if_pos (Nat.le_refl _)]
    refine ⟨sL L 299 0 (lN (lyG b w 0)), ?_, fun j hj => ?_⟩
    · rw [f6_weighPlace_c3, if_pos (show nI 0 ≤ 0 by decide), o, e0, n1, lN_mul]; rfl
    · by_cases z : j = 0
      · subst z; rw [sL_s]
      · rw [sL_k _ _ z, h j hj, if_neg (by omega)]
  | succ k ih =>
    intro m L hm hk h
    obtain ⟨m, rfl⟩ : ∃ m', m = m' + 1 := ⟨m - 1, by omega⟩
    have e0 : L 299 (k + 1) = lN (w (k + 1)) := by rw [h (k + 1) (by omega), if_pos (Nat.le_refl _)]
    have e1 : L 299 k = lN (w k) := by rw [h k (by omega), if_pos (by omega)]
    obtain ⟨L', a1, a2⟩ := ih m (sL L 299 (k + 1) (lN (lyG b w (k + 1)))) (by omega) (by omega) (fun j hj => by
      by_cases z : j = k + 1
      · subst z; rw [sL_s, if_neg (by omega)]
      · rw [sL_k _ _ z, h j hj]
        by_cases y : j ≤ k
        · rw [if_pos y, if_pos (by omega)]
        · rw [if_neg y, if_neg (by omega)])
    have dn : nI (k + 1) + -nI 1 = nI k := by rw [← Int32.sub_eq_add_neg, qsub (by omega), Nat.add_sub_cancel]
    refine ⟨L', ?_, a2⟩
    rw [← a1]
    simp (disch := omega) only [f6_weighPlace_c3, o, e0, e1, n1, n3, ly_d, dn, Nat.add_sub_cancel, qL, qb, qbl, qadd, qmul, qsubm, qdm, qsub, qdiv, qcl, qlt, qle, qeq, nltT, nltF, nleT, nleF, neqT, neqF, or_false, false_or, or_true, true_or, or_self, and_true, true_and, and_false, false_and, and_self, not_true_eq_false, not_false_eq_true, ↓reduceIte]
theorem m_wp (hO : OF O) {w : TN} {b : Nat} (hb : b ≤ 10) {k79 : TI → TL → Nat → Int32 → Int32 → Int32 → Int32 → Int32 → Int64 → Int32 → Option (Int64 × TI × TL)} {y1 y2 y3 y4 y5 y8 : Int32} {y6 : Int64} : ∀ k m L, k + 1 < m → k ≤ 16 → (∀ j, j < 17 → L 347 j = lN (if j ≤ k then w j else lyG b w j)) → ∃ L', f12_likely_c131 n O k79 m J L 331 y1 y2 y3 y4 y5 y6 y8 (nI b) (nI k) = k79 J L' 331 y1 y2 y3 y4 y5 (y6 * 10) (y8 + 1) ∧ LW L' 347 (lyG b w) := by
  obtain ⟨n1, n2⟩ := nb_l hb
  have n3 : (nI (10 - b)).toInt64 = lN (10 - b) := nI_l (by omega)
  have o := o_331_33 hO
  intro k
  induction k with
  | zero =>
    intro m L hm hk h
    obtain ⟨m, rfl⟩ : ∃ m', m = m' + 2 := ⟨m - 2, by omega⟩
    have e0 : L 347 0 = lN (w 0) := by rw [h 0 (by omega), if_pos (Nat.le_refl _)]
    refine ⟨sL L 347 0 (lN (lyG b w 0)), ?_, fun j hj => ?_⟩
    · rw [f12_likely_c131, if_neg (show ¬ nI 0 < 0 by decide), if_neg (nI_in (by omega) (by omega)), if_pos (show nI 0 ≤ 0 by decide), if_neg (nI_in (by omega) (by omega)), o, show (nI 0).toNatClampNeg = 0 from rfl, e0, n1, lN_mul, Int64.add_zero, qbl, f12_likely_c131, if_pos (show nI 0 + -1 < 0 by decide)]; rfl
    · by_cases z : j = 0
      · subst z; rw [sL_s]
      · rw [sL_k _ _ z, h j hj, if_neg (by omega)]
  | succ k ih =>
    intro m L hm hk h
    obtain ⟨m, rfl⟩ : ∃ m', m = m' + 1 := ⟨m - 1, by omega⟩
    have e0 : L 347 (k + 1) = lN (w (k + 1)) := by rw [h (k + 1) (by omega), if_pos (Nat.le_refl _)]
    have e1 : L 347 k = lN (w k) := by rw [h k (by omega), if_pos (by omega)]
    obtain ⟨L', a1, a2⟩ := ih m (sL L 347 (k + 1) (lN (lyG b w (k + 1)))) (by omega) (by omega) (fun j hj => by
      by_cases z : j = k + 1
      · subst z; rw [sL_s, if_neg (by omega)]
      · rw [sL_k _ _ z, h j hj]
        by_cases y : j ≤ k
        · rw [if_pos y, if_pos (by omega)]
        · rw [if_neg y, if_neg (by omega)])
    have dn : nI (k + 1) + -nI 1 = nI k := by rw [← Int32.sub_eq_add_neg, qsub (by omega), Nat.add_sub_cancel]
    refine ⟨L', ?_, a2⟩
    rw [← a1]
    simp (disch := omega) only [f12_likely_c131, o, e0, e1, n1, n3, ly_d, dn, Nat.add_sub_cancel, qL, qb, qbl, qadd, qmul, qsubm, qdm, qsub, qdiv, qcl, qlt, qle, qeq, nltT, nltF, nleT, nleF, neqT, neqF, or_false, false_or, or_true, true_or, or_self, and_true, true_and, and_false, false_and, and_self, not_true_eq_false, not_false_eq_true, ↓reduceIte]
theorem x_weigh (hn : 100000 ≤ n) (hO : OF O) (hB : WB N) (hL : LX0 I sx lw) (hV : WV I O 3 4 5 6 7 8 N) {r c k : Nat} (hr : r < N 0) (hc : c < N 1) (hk : k < 6) : ∃ I' L', f6_weigh n I L O 295 3 sx (nI r) (nI c) (nI k) = some (I', L') ∧ JN I I' ∧ LW L' 299 (fo (lyP N lw r c k) (Ln N r) 0 ly0).1 := by
  have b1 := hB.1
  have l1 := hB.2.2.1 r (by omega)
  have o := o_295_4 hO
  have e0 : f6_weigh n I L O 295 3 sx (nI r) (nI c) (nI k) = f6_weigh_c18 n O n I (sL (flL L 299 17 0) 299 0 1) 295 3 sx (nI r) (nI c) (nI k) (nI 0) := by
    unfold f6_weigh
    rw [o, qbl, qbl]; rfl
  rw [e0]
  have i0 : LW (sL (flL L 299 17 0) 299 0 1) 299 ly0.1 := by
    intro j hj
    by_cases z : j = 0
    · subst z; rw [sL_s]; rfl
    · rw [sL_k _ _ z, show ly0.1 j = 0 from if_neg z]
      unfold flL va_up
      rw [if_pos rfl, if_pos hj]; rfl
  refine lpR (L := fun m p (s : TI × TL × TN × Nat) => f6_weigh_c18 n O m s.1 s.2.1 295 3 sx (nI r) (nI c) (nI k) (nI p)) (fun p s => JN I s.1 ∧ s.2.2 = fo (lyP N lw r c k) p 0 ly0 ∧ LW s.2.1 299 s.2.2.1) (fun res => ∃ I' L', res = some (I', L') ∧ JN I I' ∧ LW L' 299 (fo (lyP N lw r c k) (Ln N r) 0 ly0).1) (Ln N r) ?_ ?_ (Ln N r) 0 n (I, sL (flL L 299 17 0) 299 0 1, ly0) (by omega) (by omega) ⟨JN_r I, rfl, i0⟩
  · intro m p s hp ⟨k1, k2, k3⟩
    left
    have hV' : WV s.1 O 3 4 5 6 7 8 N := WV_fr hV (fun a ha => k1 a (by omega) (by omega) (by omega))
    have hL' : LX0 s.1 sx lw := LX_fr hL (fun a h1 h2 => k1 a (by omega) (by omega) (by omega))
    have es := x_size hV' hB hr
    have eh := x_sounds hV' hB hr hp
    have ek := x_keyAt hV' hB hr hp
    have kb := hB.2.2.2.2.1 r p (by omega) (by omega)
    have np : ¬ nI (Ln N r) ≤ nI p := nle_i (by omega) (by omega) hp
    have e1 : fo (lyP N lw r c k) (p + 1) 0 ly0 = lyP N lw r c k p s.2.2 := by rw [fo_s, ← k2, Nat.zero_add]
    cases hh : holeB N r p
    · refine ⟨s, ⟨k1, ?_, k3⟩, ?_⟩
      · rw [e1]; unfold lyP; rw [hh]; rfl
      · show f6_weigh_c18 n O (m + 1) s.1 s.2.1 295 3 sx (nI r) (nI c) (nI k) (nI p) = f6_weigh_c18 n O m s.1 s.2.1 295 3 sx (nI r) (nI c) (nI k) (nI (p + 1))
        rw [hh] at eh
        rw [f6_weigh_c18, es, qb, if_neg np, eh, qb, if_pos (by decide), nI_1]
    · rw [hh] at eh
      by_cases z : K N r p = k
      · obtain ⟨I2, q1, q2⟩ := x_blurs hn hO hB hL' hV' w3 hr hp hc
        have bb := blN_le hB (lw := lw) (r := r) (p := p) (c := c) (by omega) (by omega)
        obtain ⟨L2, q3, q4⟩ := x_wp (n := n) hO (w := s.2.2.1) bb 16 n s.2.1 (by omega) (by omega) (fun j hj => by rw [if_pos (by omega)]; exact k3 j hj)
        have q3' : f6_weighPlace n s.2.1 O 295 (nI (blN N lw r p c)) = some L2 := q3
        refine ⟨(I2, L2, lyG (blN N lw r p c) s.2.2.1, s.2.2.2 + 1), ⟨JN_t k1 q2, ?_, q4⟩, ?_⟩
        · rw [e1]; unfold lyP; rw [hh, if_pos rfl, if_pos z]
        · show f6_weigh_c18 n O (m + 1) s.1 s.2.1 295 3 sx (nI r) (nI c) (nI k) (nI p) = f6_weigh_c18 n O m I2 L2 295 3 sx (nI r) (nI c) (nI k) (nI (p + 1))
          rw [f6_weigh_c18, es, qb, if_neg np, eh, qb, if_neg (by decide), ek, qb, z, if_pos rfl, o_295_0 hO, q1, qb]
          dsimp only
          rw [q3', qb, nI_1]
      · refine ⟨s, ⟨k1, ?_, k3⟩, ?_⟩
        · rw [e1]; unfold lyP; rw [hh, if_pos rfl, if_neg z]
        · show f6_weigh_c18 n O (m + 1) s.1 s.2.1 295 3 sx (nI r) (nI c) (nI k) (nI p) = f6_weigh_c18 n O m s.1 s.2.1 295 3 sx (nI r) (nI c) (nI k) (nI (p + 1))
          rw [f6_weigh_c18, es, qb, if_neg np, eh, qb, if_neg (by decide), ek, qb, if_neg (fun q => z (by rw [qeq (by omega) (by omega)] at q; exact q)), nI_1]
  · intro m s ⟨k1, k2, k3⟩
    have hV' : WV s.1 O 3 4 5 6 7 8 N := WV_fr hV (fun a ha => k1 a (by omega) (by omega) (by omega))
    refine ⟨s.1, s.2.1, ?_, k1, by rw [← k2]; exact k3⟩
    show f6_weigh_c18 n O (m + 1) s.1 s.2.1 295 3 sx (nI r) (nI c) (nI k) (nI (Ln N r)) = _
    rw [f6_weigh_c18, x_size hV' hB hr, qb, if_pos (Int32.le_refl _)]
theorem x_from (hn : 100000 ≤ n) (hO : OF O) {w : TN} (h : LW L 299 w) {x : Nat} (hx : x ≤ 16) : f6_outcomesFrom n L O 295 (nI x) = some (lN (su w (17 - x) x)) := by
  have o := o_295_4 hO
  have e0 : f6_outcomesFrom n L O 295 (nI x) = f6_outcomesFrom_c9 n L O n 295 (lN 0) (nI x) := by
    unfold f6_outcomesFrom
    have em : fJ9_max_7cf53 0 (nI x) = some (nI x) := by
      simp (disch := omega) only [fJ9_max_7cf53, qL, qb, qbl, qadd, qmul, qsubm, qdm, qsub, qdiv, qcl, qlt, qle, qeq, nltT, nltF, nleT, nleF, neqT, neqF, or_false, false_or, or_true, true_or, or_self, and_true, true_and, and_false, false_and, and_self, not_true_eq_false, not_false_eq_true, ↓reduceIte]
      split
      · rfl
      · rw [show x = 0 by omega]
    rw [em]
    rfl
  rw [e0]
  refine lpF (L := fun m k s => f6_outcomesFrom_c9 n L O m 295 (lN s) (nI k)) (fun j s => s + w j) (fun _ _ => True) 17 lN ?_ (fun _ _ _ _ => trivial) ?_ (17 - x) x n 0 (by omega) (by omega) trivial
  · intro m k s hk _
    rw [f6_outcomesFrom_c9, if_neg (show ¬ (16 : Int32) < nI k from fun q => by have := (nI_ltI (a := 16) (by omega) (by omega)).mp q; omega), if_neg (nI_in (by omega) (by omega)), o, qcl (by omega), h k hk, lN_add, qbl, nI_1]
  · intro m s _
    rw [f6_outcomesFrom_c9, if_pos (show (16 : Int32) < nI 17 by decide)]
theorem m_l207 (hO : OF O) {w : TN} (h : LW L 347 w) {y5 : Int32} {y6 : Int64} : ∀ d k m s, k + d = 17 → d < m → f12_likely_c207 n O m J L 331 y5 y6 (lN s) (nI k) = (if y5 = 0 then (f12_divisor n (lN (fo (fun j s => s + w j) d k s)) y6).bind fun r3 => if r3 = 0 then none else some ((lN (fo (fun j s => s + w j) d k s) / r3), J, L) else (f12_divisor n (lN (fo (fun j s => s + w j) d k s)) y6).bind fun r6 => if r6 = 0 then none else some ((y6 / r6), J, L)) := by
  have o := o_331_33 hO
  intro d
  induction d with
  | zero =>
    intro k m s hk hm
    obtain ⟨m, rfl⟩ : ∃ m', m = m' + 1 := ⟨m - 1, by omega⟩
    have : k = 17 := by omega
    subst this
    rw [f12_likely_c207, if_pos (show (17 : Int32) ≤ nI 17 by decide)]; rfl
  | succ d ih =>
    intro k m s hk hm
    obtain ⟨m, rfl⟩ : ∃ m', m = m' + 1 := ⟨m - 1, by omega⟩
    rw [f12_likely_c207, if_neg (show ¬ (17 : Int32) ≤ nI k from nle_i (a := 17) (by omega) (by omega) (by omega)), if_neg (nI_in (by omega) (by omega)), o, qcl (by omega), h k (by omega), lN_add, qbl, nI_1, ih (k + 1) m (s + w k) (by omega) (by omega)]
    rfl
theorem m_l43 (hO : OF O) {x1 x2 x3 x4 x5 : Int32} : ∀ d k m L, k + d = 17 → d < m → (∀ j, j < k → L 347 j = lN (ly0.1 j)) → ∃ L', f12_likely_c43 n O m J L 331 x1 x2 x3 x4 x5 (nI k) = f12_likely_c79 n O n J L' 331 x1 x2 x3 x4 x5 (lN 1) (nI 0) ∧ LW L' 347 ly0.1 := by
  have o := o_331_33 hO
  intro d
  induction d with
  | zero =>
    intro k m L hk hm h
    obtain ⟨m, rfl⟩ : ∃ m', m = m' + 1 := ⟨m - 1, by omega⟩
    have : k = 17 := by omega
    subst this
    refine ⟨L, ?_, h⟩
    rw [f12_likely_c43, if_pos (show (17 : Int32) ≤ nI 17 by decide)]; rfl
  | succ d ih =>
    intro k m L hk hm h
    obtain ⟨m, rfl⟩ : ∃ m', m = m' + 1 := ⟨m - 1, by omega⟩
    obtain ⟨L', a1, a2⟩ := ih (k + 1) m (sL L 347 k (lN (ly0.1 k))) (by omega) (by omega) (fun j hj => by
      by_cases z : j = k
      · subst z; rw [sL_s]
      · rw [sL_k _ _ z]; exact h j (by omega))
    refine ⟨L', ?_, a2⟩
    rw [← a1, f12_likely_c43, if_neg (show ¬ (17 : Int32) ≤ nI k from nle_i (a := 17) (by omega) (by omega) (by omega))]
    by_cases z : k = 0
    · subst z
      rw [if_pos (show nI 0 = 0 from rfl), if_neg (nI_in (by omega) (by omega)), o, qcl (by omega), qbl, nI_1]; rfl
    · rw [if_neg (nI_ne0 (by omega) (by omega)), if_neg (nI_in (by omega) (by omega)), o, qcl (by omega), qbl, nI_1, show ly0.1 k = 0 from if_neg z]; rfl
theorem m_l79 (hn : 100000 ≤ n) (hO : OF O) (hB : WB N) (hM : MV J O N) (hL : LM0 J (N 3) lw) {r c k : Nat} (hr : r < N 0) (hc : c < N 1) (hk : k < 6) {x4 x5 : Int32} (h0 : LW L 347 ly0.1) : ∃ J' L', f12_likely_c79 n O n J L 331 (nI r) (nI c) (nI k) x4 x5 (lN 1) (nI 0) = f12_likely_c207 n O n J' L' 331 x5 (lN (10 ^ (fo (lyP N lw r c k) (Ln N r) 0 ly0).2)) (lN 0) x4 ∧ KN J J' ∧ LW L' 347 (fo (lyP N lw r c k) (Ln N r) 0 ly0).1 := by
  have b1 := hB.1
  have l1 := hB.2.2.1 r (by omega)
  have y0 : (114 : Int32) + nI r = nI (114 + r) := qadd 114 r
  refine lpR (L := fun m p (s : TI × TL × TN × Nat) => f12_likely_c79 n O m s.1 s.2.1 331 (nI r) (nI c) (nI k) x4 x5 (lN (10 ^ s.2.2.2)) (nI p)) (fun p s => KN J s.1 ∧ s.2.2 = fo (lyP N lw r c k) p 0 ly0 ∧ LW s.2.1 347 s.2.2.1) (fun res => ∃ J' L', res = f12_likely_c207 n O n J' L' 331 x5 (lN (10 ^ (fo (lyP N lw r c k) (Ln N r) 0 ly0).2)) (lN 0) x4 ∧ KN J J' ∧ LW L' 347 (fo (lyP N lw r c k) (Ln N r) 0 ly0).1) (Ln N r) ?_ ?_ (Ln N r) 0 n (J, L, ly0) (by omega) (by omega) ⟨fun _ _ _ => rfl, rfl, h0⟩
  · intro m p s hp ⟨k1, k2, k3⟩
    left
    have hM' : MV s.1 O N := MV_fr hM (k1 332 (by omega) (by omega))
    have hL' : LM0 s.1 (N 3) lw := LM_fr hL (k1 334 (by omega) (by omega))
    have el : s.1 332 (114 + r) = nI (Ln N r) := m_len hM' (by omega)
    have eh := m_isHole hM' hB (show r < 5 by omega) (show p < 16 by omega)
    have ek := m_keyOf hM' (show r < 5 by omega) (show p < 16 by omega)
    have kb := hB.2.2.2.2.1 r p (by omega) (by omega)
    have np : ¬ nI (Ln N r) ≤ nI p := nle_i (by omega) (by omega) hp
    have e1 : fo (lyP N lw r c k) (p + 1) 0 ly0 = lyP N lw r c k p s.2.2 := by rw [fo_s, ← k2, Nat.zero_add]
    cases hh : holeB N r p
    · refine ⟨s, ⟨k1, ?_, k3⟩, ?_⟩
      · rw [e1]; unfold lyP; rw [hh]; rfl
      · show f12_likely_c79 n O (m + 1) s.1 s.2.1 331 (nI r) (nI c) (nI k) x4 x5 (lN (10 ^ s.2.2.2)) (nI p) = f12_likely_c79 n O m s.1 s.2.1 331 (nI r) (nI c) (nI k) x4 x5 (lN (10 ^ s.2.2.2)) (nI (p + 1))
        rw [hh] at eh
        rw [f12_likely_c79, y0, if_neg (nI_in (by omega) (by omega)), hM.1, qcl (by omega), el, if_neg np, eh, qb, if_pos (by decide), nI_1]
    · rw [hh] at eh
      by_cases z : K N r p = k
      · obtain ⟨J2, L2, q1, q2⟩ := m_blursOf (L := s.2.1) hn hO hB hM' hL' hr hp hc
        have q5 : L2 347 = s.2.1 347 := fr_blurs (n := n) hO _ q1
        have bb := blN_le hB (lw := lw) (r := r) (p := p) (c := c) (by omega) (by omega)
        obtain ⟨L3, q3, q4⟩ := m_wp (n := n) (J := J2) hO (w := s.2.2.1) bb (k79 := f12_likely_c79 n O m) (y1 := nI r) (y2 := nI c) (y3 := nI k) (y4 := x4) (y5 := x5) (y8 := nI p) (y6 := lN (10 ^ s.2.2.2)) 16 n L2 (by omega) (by omega) (fun j hj => by rw [if_pos (by omega), q5]; exact k3 j hj)
        refine ⟨(J2, L3, lyG (blN N lw r p c) s.2.2.1, s.2.2.2 + 1), ⟨KN_t k1 q2, ?_, q4⟩, ?_⟩
        · rw [e1]; unfold lyP; rw [hh, if_pos rfl, if_pos z]
        · show f12_likely_c79 n O (m + 1) s.1 s.2.1 331 (nI r) (nI c) (nI k) x4 x5 (lN (10 ^ s.2.2.2)) (nI p) = f12_likely_c79 n O m J2 L3 331 (nI r) (nI c) (nI k) x4 x5 (lN (10 ^ (s.2.2.2 + 1))) (nI (p + 1))
          rw [f12_likely_c79, y0, if_neg (nI_in (by omega) (by omega)), hM.1, qcl (by omega), el, if_neg np, eh, qb, if_neg (by decide), ek, qb, z, if_pos rfl, q1, qb]
          dsimp only
          rw [show (16 : Int32) = nI 16 from rfl, q3, nI_1, show (10 : Int64) = lN 10 from rfl, lN_mul, Nat.pow_succ]
      · refine ⟨s, ⟨k1, ?_, k3⟩, ?_⟩
        · rw [e1]; unfold lyP; rw [hh, if_pos rfl, if_neg z]
        · show f12_likely_c79 n O (m + 1) s.1 s.2.1 331 (nI r) (nI c) (nI k) x4 x5 (lN (10 ^ s.2.2.2)) (nI p) = f12_likely_c79 n O m s.1 s.2.1 331 (nI r) (nI c) (nI k) x4 x5 (lN (10 ^ s.2.2.2)) (nI (p + 1))
          rw [f12_likely_c79, y0, if_neg (nI_in (by omega) (by omega)), hM.1, qcl (by omega), el, if_neg np, eh, qb, if_neg (by decide), ek, qb, if_neg (fun q => z (by rw [qeq (by omega) (by omega)] at q; exact q)), nI_1]
  · intro m s ⟨k1, k2, k3⟩
    have hM' : MV s.1 O N := MV_fr hM (k1 332 (by omega) (by omega))
    have el : s.1 332 (114 + r) = nI (Ln N r) := m_len hM' (by omega)
    refine ⟨s.1, s.2.1, ?_, k1, by rw [← k2]; exact k3⟩
    show f12_likely_c79 n O (m + 1) s.1 s.2.1 331 (nI r) (nI c) (nI k) x4 x5 (lN (10 ^ s.2.2.2)) (nI (Ln N r)) = _
    rw [f12_likely_c79, y0, if_neg (nI_in (by omega) (by omega)), hM.1, qcl (by omega), el, if_pos (Int32.le_refl _), ← k2]; rfl
end LY
section LZ
variable {n : Nat} {I : TI} {O : TO}
theorem s_likely (hn : 100000 ≤ n) (h : RE tX I O) (L : TL) (p1 p2 p3 p4 b5 : Int32) : ∃ (v : Int64) (I1 I2 : TI) (L1 L2 : TL), f11_likely n I L O 1 p1 p2 p3 p4 b5 = some (v, I1, L1) ∧ f12_likely n I1 L1 O 331 p1 p2 p3 p4 b5 = some (v, I2, L2) ∧ RE tX I2 O := by
  obtain ⟨N, G, e, f, tp, h⟩ := h
  have hO := h.1
  have hV := RW_WV hO h.2.2.2.2.2.2.1
  have hN := h.2.2.2.1
  have hB := NB_WB hN
  have hM := h.2.1
  have hF := RW_fd h.2.2.2.2.2.2.1
  have b0 : N 0 ≤ 5 := hB.1
  have b1 : N 1 ≤ 4 := hB.2.1
  have e1 := o_1_0 hO
  have e2 := o_2_0 hO
  by_cases h1 : inR p1 (N 0)
  · obtain ⟨r, hr, rfl⟩ := inR_of h1
    have ex := x_hasRoll hV hB hr
    have em := m_isRoll hM hB hr
    by_cases h2 : inR p2 (N 1)
    · obtain ⟨c, hc, rfl⟩ := inR_of h2
      by_cases h3 : ((1 : Nat) : Int) ≤ p3.toInt ∧ p3.toInt ≤ ((5 : Nat) : Int)
      · obtain ⟨k, hk1, hk, rfl⟩ := inB h3
        have hb := hB.2.2.2.2.2.2.1 c k (by omega) (by omega)
        have hx := x_heardBy hV hB hc hk1 (show k < 6 by omega)
        have nn : ¬ nI (Hd N c k) = -1 := neg_ne (by omega)
        by_cases h4 : ((0 : Nat) : Int) ≤ p4.toInt ∧ p4.toInt ≤ ((16 : Nat) : Int)
        · obtain ⟨x, -, hx4, rfl⟩ := inB h4
          obtain ⟨lw, l1, l2⟩ := R_lw h
          obtain ⟨I1, L1, q1, q2, q3⟩ := x_weigh (L := L) hn hO hB l1 hV hr hc (show k < 6 by omega)
          have r1 := R0_x tXst h (JN_XF q2)
          have hM1 : MV I1 O N := r1.2.1
          obtain ⟨La, a1, a2⟩ := m_l43 (n := n) (J := I1) hO (x1 := nI r) (x2 := nI c) (x3 := nI k) (x4 := nI x) (x5 := b5) 17 0 n L1 (by omega) (by omega) (fun j hj => by omega)
          obtain ⟨I2, L2, c1, c2, c3⟩ := m_l79 hn hO hB hM1 (LM_fr l2 (q2 334 (by omega) (by omega) (by omega))) hr hc (show k < 6 by omega) (x4 := nI x) (x5 := b5) a2
          have l1' := hB.2.2.1 r (by omega)
          have hI : lyI (Ln N r) (fo (lyP N lw r c k) (Ln N r) 0 ly0) := foI (lyP N lw r c k) lyI (Ln N r) (fun p s hp hs => lyI_s hB (by omega) (by omega) hs) (Ln N r) 0 ly0 (by omega) ly0_ok
          generalize fo (lyP N lw r c k) (Ln N r) 0 ly0 = W at q3 c1 c3 hI
          obtain ⟨i1, i2, i3⟩ := hI
          have tb : 10 ^ W.2 ≤ 10 ^ 16 := Nat.pow_le_pow_right (by omega) (by omega)
          have t0 : 0 < 10 ^ W.2 := Nat.pow_pos (by omega)
          have sp := su_split (w := W.1) (a := x) (17 - x)
          rw [show x + (17 - x) = 17 by omega, i3] at sp
          have f1 := x_from hn hO q3 hx4
          have f2 := x_from hn hO q3 (show 0 ≤ 16 by omega)
          rw [show 17 - 0 = 17 from rfl, i3] at f2
          have g := m_l207 (n := n) (J := I2) hO c3 (y5 := b5) (y6 := lN (10 ^ W.2)) (17 - x) x n 0 (by omega) (by omega)
          rw [show fo (fun j s => s + W.1 j) (17 - x) x 0 = su W.1 (17 - x) x from rfl] at g
          generalize su W.1 (17 - x) x = S at f1 g sp
          generalize 10 ^ W.2 = T at f2 g sp tb t0 c1
          have d1 : f11_commonDivisor n (lN T) (lN S) = some (lN (Nat.gcd T S)) := x_gcd 60 T S 0 n (by omega) (by omega) (by omega) (by omega) (by omega)
          have d2 : f12_divisor n (lN S) (lN T) = some (lN (Nat.gcd T S)) := by
            rw [Nat.gcd_comm]; exact m_gcd 60 S T n (by omega) (by omega) (by omega) (by omega)
          have gp : 0 < Nat.gcd T S := Nat.gcd_pos_of_pos_left _ t0
          have gl : Nat.gcd T S ≤ T := Nat.gcd_le_left _ t0
          have gz : ¬ lN (Nat.gcd T S) = 0 := fun q => by have := (lz_eq (by omega)).mp q; omega
          have gc : 0 < lg_cmp (lN (Nat.gcd T S)) (0 : Int64) := by
            have := (lz_le (a := Nat.gcd T S) (by omega))
            have nl : ¬ lg_cmp (lN (Nat.gcd T S)) (0 : Int64) ≤ 0 := fun q => by have := this.mp q; omega
            exact Int32.not_le.mp nl
          refine ⟨if b5 = 0 then lN S / lN (Nat.gcd T S) else lN T / lN (Nat.gcd T S), I1, I2, L1, L2, ?_, ?_, N, G, e, f, tp, R0_m tXst r1 (KN_MF c2)⟩
          · rw [f11_likely, e1, e2, ex, qb, if_neg (by decide), hx, qb, if_neg nn, if_neg (show ¬ nI x < 0 from fun q => by have := (nI_ltI (b := 0) (by omega) (by omega)).mp q; omega), if_pos (show nI x ≤ 16 from (nI_leI (b := 16) (by omega) (by omega)).mpr hx4), x_ruling hO hF hN, qb, o_1_9 hO, q1, qb]
            dsimp only
            rw [f1, qb, show f6_outcomesFrom n L1 O 295 0 = some (lN T) from f2, qb, d1, qb, if_pos gc]
            by_cases z : b5 = 0
            · rw [if_pos z, if_pos z, if_neg gz]
            · rw [if_neg z, if_neg z, if_neg gz]
          · rw [f12_likely, m_isRoll hM1 hB hr, qb, if_neg (by decide), m_isChild hM1 hB hc, qb, if_neg (by decide), show f12_isIn (nI k) 1 5 = some (nI 1) from m_inT (a := 1) (b := 5) hk1 hk (by omega), qb, if_neg (by decide), show f12_isIn (nI x) 0 16 = some (nI 1) from m_inT (a := 0) (b := 16) (by omega) hx4 (by omega), qb, if_neg (by decide)]
            refine a1.trans (c1.trans (g.trans ?_))
            rw [d2]
            by_cases z : b5 = 0
            · rw [if_pos z, if_pos z, qb, if_neg gz]
            · rw [if_neg z, if_neg z, qb, if_neg gz]
        · have mi : f12_isIn p4 0 16 = some (nI 0) := m_inF (a := 0) (b := 16) h4 (by omega) (by omega)
          refine ⟨-1, I, I, L, L, ?_, ?_, N, G, e, f, tp, h⟩
          · have z1 : p4 < 0 ↔ p4.toInt < 0 := by rw [i_lt]; rfl
            have z2 : p4 ≤ 16 ↔ p4.toInt ≤ 16 := by rw [Int32.le_iff_toInt_le]; rfl
            by_cases g : p4 < 0
            · rw [f11_likely, e1, e2, ex, qb, if_neg (by decide), hx, qb, if_neg nn, if_pos g]
            · have g' : ¬ p4.toInt < 0 := fun w => g (z1.mpr w)
              rw [f11_likely, e1, e2, ex, qb, if_neg (by decide), hx, qb, if_neg nn, if_neg g, if_neg (fun q => by have := z2.mp q; omega)]
          · rw [f12_likely, em, qb, if_neg (by decide), m_isChild hM hB hc, qb, if_neg (by decide), show f12_isIn (nI k) 1 5 = some (nI 1) from m_inT (a := 1) (b := 5) hk1 hk (by omega), qb, if_neg (by decide), mi, qb, if_pos (show nI 0 = 0 from rfl)]
      · refine ⟨-1, I, I, L, L, ?_, ?_, N, G, e, f, tp, h⟩
        · rw [f11_likely, e1, e2, ex, qb, if_neg (by decide), x_noHeard hV hB hc h3, qb, if_pos rfl]
        · rw [f12_likely, em, qb, if_neg (by decide), m_isChild hM hB hc, qb, if_neg (by decide), show f12_isIn p3 1 5 = some (nI 0) from m_inF (a := 1) (b := 5) h3 (by omega) (by omega), qb, if_pos (show nI 0 = 0 from rfl)]
    · refine ⟨-1, I, I, L, L, ?_, ?_, N, G, e, f, tp, h⟩
      · rw [f11_likely, e1, e2, ex, qb, if_neg (by decide), x_noHeardC hV hB h2, qb, if_pos rfl]
      · rw [f12_likely, em, qb, if_neg (by decide), m_noChild hM hB h2, qb, if_pos rfl]
  · refine ⟨-1, I, I, L, L, ?_, ?_, N, G, e, f, tp, h⟩
    · rw [f11_likely, e1, e2, x_noRoll hV hB h1, qb, if_pos rfl]
    · rw [f12_likely, m_noRoll hM hB h1, qb, if_pos rfl]
end LZ
