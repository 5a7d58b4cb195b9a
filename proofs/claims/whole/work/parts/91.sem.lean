/-! laws: numbers -/
def iV (x : Int) : Int32 := Int32.ofInt x
def lV (x : Int) : Int64 := Int64.ofInt x
def bB (x : Int) : Prop := -1000000 ≤ x ∧ x ≤ 1000000
theorem iV_t {x : Int} (h1 : -2147483648 ≤ x) (h2 : x < 2147483648) : (iV x).toInt = x := Int32.toInt_ofInt_of_le (by omega) (by omega)
theorem lV_t {x : Int} (h1 : -9223372036854775808 ≤ x) (h2 : x < 9223372036854775808) : (lV x).toInt = x := Int64.toInt_ofInt_of_le (by omega) (by omega)
theorem iV_b {x : Int} (h : bB x) : (iV x).toInt = x := by unfold bB at h; exact iV_t (by omega) (by omega)
theorem lV_b {x : Int} (h : bB x) : (lV x).toInt = x := by unfold bB at h; exact lV_t (by omega) (by omega)
theorem iV_n {k : Nat} (h : k < 2147483648) : iV (k : Int) = nI k := Int32.toInt_inj.mp (by rw [iV_t (by omega) (by omega), qtoI h])
theorem iV_l {x : Int} (h : bB x) : (iV x).toInt64 = lV x := Int64.toInt_inj.mp (by rw [Int32.toInt_toInt64, iV_b h, lV_b h])
theorem lV_i (x : Int) : (lV x).toInt32 = iV x := Int64.toInt32_ofInt
theorem iV_eq {x y : Int} (hx : bB x) (hy : bB y) : iV x = iV y ↔ x = y := by rw [i_eq, iV_b hx, iV_b hy]
theorem iV_lt {x y : Int} (hx : bB x) (hy : bB y) : iV x < iV y ↔ x < y := by rw [i_lt, iV_b hx, iV_b hy]
theorem iV_le {x y : Int} (hx : bB x) (hy : bB y) : iV x ≤ iV y ↔ x ≤ y := by rw [i_le, iV_b hx, iV_b hy]
theorem lV_eq {x y : Int} (hx : bB x) (hy : bB y) : lV x = lV y ↔ x = y := by rw [← Int64.toInt_inj, lV_b hx, lV_b hy]
theorem lV_lt {x y : Int} (hx : bB x) (hy : bB y) : lV x < lV y ↔ x < y := by rw [Int64.lt_iff_toInt_lt, lV_b hx, lV_b hy]
theorem lV_le {x y : Int} (hx : bB x) (hy : bB y) : lV x ≤ lV y ↔ x ≤ y := by rw [Int64.le_iff_toInt_le, lV_b hx, lV_b hy]
theorem bd0 : bB 0 := ⟨by omega, by omega⟩
theorem bd1 : bB 1 := ⟨by omega, by omega⟩
theorem iV0 : iV 0 = nI 0 := by decide
theorem iV1 : iV 1 = nI 1 := by decide
def clp (x : Int) : Int := if x < -1000000 then -1000000 else if 1000000 < x then 1000000 else x
theorem clp_b (x : Int) : bB (clp x) := by
  unfold clp bB
  split
  · omega
  · split <;> omega
theorem x_clp {z : Int} (h1 : -9223372036854775808 ≤ z) (h2 : z < 9223372036854775808) : ((fJ9_min_f86c9 (1000000 : Int64) (lV z)).bind fun r => (fJ9_max_f86c9 (-1000000 : Int64) r).bind fun q => some q.toInt32) = some (iV (clp z)) := by
  have m1 : (1000000 : Int64).toInt = 1000000 := by decide
  have m2 : (-1000000 : Int64).toInt = -1000000 := by decide
  have m3 : (1000000 : Int64).toInt32 = iV 1000000 := by decide
  have m4 : (-1000000 : Int64).toInt32 = iV (-1000000) := by decide
  have g1 : 0 < lg_cmp (1000000 : Int64) (lV z) ↔ z < 1000000 := by rw [lg_cmp_gt, Int64.lt_iff_toInt_lt, m1, lV_t h1 h2]
  have g2 : lg_cmp (-1000000 : Int64) (lV z) < 0 ↔ -1000000 < z := by rw [lg_cmp_lt, Int64.lt_iff_toInt_lt, m2, lV_t h1 h2]
  have g3 : lg_cmp (-1000000 : Int64) (1000000 : Int64) < 0 := by decide
  unfold fJ9_min_f86c9 fJ9_max_f86c9 clp
  by_cases q1 : z < 1000000
  · rw [if_pos (g1.mpr q1), qb]
    by_cases q2 : -1000000 < z
    · rw [if_pos (g2.mpr q2), qb, lV_i, if_neg (by omega), if_neg (by omega)]
    · rw [if_neg (fun q => q2 (g2.mp q)), qb, m4]
      by_cases q3 : z < -1000000
      · rw [if_pos q3]
      · rw [if_neg q3, if_neg (by omega), show z = -1000000 by omega]
  · rw [if_neg (fun q => q1 (g1.mp q)), qb, if_pos g3, qb, m3, if_neg (by omega)]
    by_cases q3 : 1000000 < z
    · rw [if_pos q3]
    · rw [if_neg q3, show z = 1000000 by omega]
theorem m_clip {z : Int} (h1 : -9223372036854775808 ≤ z) (h2 : z < 9223372036854775808) : f12_clip (lV z) = some (lV (clp z)) := by
  have m1 : (1000000 : Int64).toInt = 1000000 := by decide
  have m2 : (-1000000 : Int64).toInt = -1000000 := by decide
  have m3 : (1000000 : Int64) = lV 1000000 := by decide
  have m4 : (-1000000 : Int64) = lV (-1000000) := by decide
  have g1 : lg_cmp (lV z) (1000000 : Int64) ≤ 0 ↔ z ≤ 1000000 := by rw [lg_cmp_le, Int64.le_iff_toInt_le, m1, lV_t h1 h2]
  have g2 : 0 ≤ lg_cmp (lV z) (-1000000 : Int64) ↔ -1000000 ≤ z := by rw [lg_cmp_ge, Int64.le_iff_toInt_le, m2, lV_t h1 h2]
  unfold f12_clip clp
  by_cases q1 : z ≤ 1000000
  · rw [if_pos (g1.mpr q1)]
    by_cases q2 : -1000000 ≤ z
    · rw [if_pos (g2.mpr q2), if_neg (by omega), if_neg (by omega)]
    · rw [if_neg (fun q => q2 (g2.mp q)), if_pos (by omega), ← m4]
  · rw [if_neg (fun q => q1 (g1.mp q)), if_neg (by omega), if_pos (by omega), ← m3]
theorem mulb {x y : Int} (hx : bB x) (hy : bB y) : -1000000000000 ≤ x * y ∧ x * y ≤ 1000000000000 := by
  unfold bB at *
  have h := Nat.mul_le_mul (show x.natAbs ≤ 1000000 by omega) (show y.natAbs ≤ 1000000 by omega)
  rw [← Int.natAbs_mul] at h
  omega
theorem tdb {x y : Int} (hx : bB x) : bB (x.tdiv y) := by
  unfold bB at *
  have h := Int.natAbs_tdiv_le_natAbs x y
  omega
/-- the four reckonings, by the class's signs -/
def ar (k : Nat) (x y : Int) : Int := if k = 45 then clp (x - y) else if k = 42 then clp (x * y) else if k = 47 then (if y = 0 then 0 else clp (x.tdiv y)) else clp (x + y)
theorem ar_b (k : Nat) (x y : Int) : bB (ar k x y) := by
  unfold ar
  split
  · exact clp_b _
  · split
    · exact clp_b _
    · split
      · split
        · exact bd0
        · exact clp_b _
      · exact clp_b _
theorem ar43 (x y : Int) : ar 43 x y = clp (x + y) := by unfold ar; rw [if_neg (by decide), if_neg (by decide), if_neg (by decide)]
theorem ar45 (x y : Int) : ar 45 x y = clp (x - y) := by unfold ar; rw [if_pos (by decide)]
theorem ar42 (x y : Int) : ar 42 x y = clp (x * y) := by unfold ar; rw [if_neg (by decide), if_pos (by decide)]
theorem ar47 (x y : Int) : ar 47 x y = if y = 0 then 0 else clp (x.tdiv y) := by unfold ar; rw [if_neg (by decide), if_neg (by decide), if_pos (by decide)]
theorem x_reckon {k : Nat} (hk : k = 43 ∨ k = 45 ∨ k = 42 ∨ k = 47) {x y : Int} (hx : bB x) (hy : bB y) : f1_reckon (nI k) (iV x) (iV y) = some (iV (ar k x y)) := by
  have ux := hx
  have uy := hy
  unfold bB at ux uy
  have um := mulb hx hy
  unfold f1_reckon
  simp only [qbl]
  rw [iV_l hx, iV_l hy]
  rcases hk with rfl | rfl | rfl | rfl
  · rw [if_neg (by decide), if_neg (by decide), if_neg (by decide), show lV x + lV y = lV (x + y) from (Int64.ofInt_add x y).symm, ar43]
    exact x_clp (by omega) (by omega)
  · rw [if_pos (by decide), show lV x - lV y = lV (x - y) from (Int64.ofInt_sub x y).symm, ar45]
    exact x_clp (by omega) (by omega)
  · rw [if_neg (by decide), if_pos (by decide), show lV x * lV y = lV (x * y) from (Int64.ofInt_mul x y).symm, ar42]
    exact x_clp (by omega) (by omega)
  · rw [if_neg (by decide), if_neg (by decide), if_pos (by decide)]
    have z0 : iV y = 0 ↔ y = 0 := iV_eq hy bd0
    rw [ar47]
    by_cases q : y = 0
    · rw [if_pos (z0.mpr q), if_pos q]
      have c0 : clp 0 = 0 := by decide
      have t := x_clp (z := 0) (by omega) (by omega)
      rw [c0] at t
      exact t
    · rw [if_neg (fun w => q (z0.mp w)), if_neg (fun w => q (z0.mp w)), if_neg q]
      have td := tdb (y := y) hx
      have e2 : (iV x / iV y).toInt64 = lV (x.tdiv y) := by
        refine Int64.toInt_inj.mp ?_
        rw [Int32.toInt_toInt64, lV_b td, Int32.toInt_div, iV_b hx, iV_b hy]
        unfold bB at td
        exact Int.bmod_eq_of_le (by omega) (by omega)
      rw [e2]
      unfold bB at td
      exact x_clp (by omega) (by omega)
def kxo (o : Nat) : Nat := if o = 7 then 45 else if o = 8 then 42 else if o = 9 then 47 else 43
theorem m_two {o : Nat} (ho : o = 6 ∨ o = 7 ∨ o = 8 ∨ o = 9) {x y : Int} (hx : bB x) (hy : bB y) : f12_two (nI o) (lV x) (lV y) = some (lV (ar (kxo o) x y)) := by
  have ux := hx
  have uy := hy
  unfold bB at ux uy
  have um := mulb hx hy
  unfold f12_two
  rcases ho with rfl | rfl | rfl | rfl
  · rw [if_pos (by decide), show lV x + lV y = lV (x + y) from (Int64.ofInt_add x y).symm, m_clip (by omega) (by omega), show kxo 6 = 43 from rfl, ar43, qb]
  · rw [if_neg (by decide), if_pos (by decide), show lV x - lV y = lV (x - y) from (Int64.ofInt_sub x y).symm, m_clip (by omega) (by omega), show kxo 7 = 45 from rfl, ar45, qb]
  · rw [if_neg (by decide), if_neg (by decide), if_pos (by decide), show lV x * lV y = lV (x * y) from (Int64.ofInt_mul x y).symm, m_clip (by omega) (by omega), show kxo 8 = 42 from rfl, ar42, qb]
  · rw [if_neg (by decide), if_neg (by decide), if_neg (by decide)]
    have z0 : lV y = 0 ↔ y = 0 := lV_eq hy bd0
    have z1 : lg_cmp (lV y) 0 = 0 ↔ y = 0 := by rw [lg_cmp_eq]; exact z0
    rw [show kxo 9 = 47 from rfl, ar47]
    by_cases q : y = 0
    · rw [if_pos (z1.mpr q), if_pos q]; rfl
    · rw [if_neg (fun w => q (z1.mp w)), if_neg (fun w => q (z0.mp w)), if_neg q]
      have td := tdb (y := y) hx
      have e2 : lV x / lV y = lV (x.tdiv y) := by
        refine Int64.toInt_inj.mp ?_
        rw [lV_b td, Int64.toInt_div, lV_b hx, lV_b hy]
        unfold bB at td
        exact Int.bmod_eq_of_le (by omega) (by omega)
      unfold bB at td
      rw [e2, m_clip (by omega) (by omega), qb]
/-! digits -/
def dgF : Nat → Nat → Nat → Nat
  | 0, _, s => s
  | d + 1, r, s => if r = 0 then s else dgF d (r / 10) (s + r % 10)
def dgI (x : Int) : Int := ((dgF 10 x.natAbs 0 : Nat) : Int)
theorem dgF_le : ∀ d r s, dgF d r s ≤ s + 9 * d := by
  intro d
  induction d with
  | zero => intro r s; exact Nat.le_refl _
  | succ d ih =>
    intro r s
    unfold dgF
    split
    · omega
    · have := ih (r / 10) (s + r % 10)
      omega
theorem dgI_b (x : Int) : bB (dgI x) := by
  have := dgF_le 10 x.natAbs 0
  unfold dgI bB; omega
theorem x_dg9 {n : Nat} : ∀ d k m r s, k + d = 10 → d < m → r < 2147483648 → s ≤ 9 * k → f1_digitsTogether_c9 n m (nI s) (nI r) (nI k) = some (nI (dgF d r s)) := by
  intro d
  induction d with
  | zero =>
    intro k m r s hk hm hr hs
    obtain ⟨m', rfl⟩ : ∃ m', m = m' + 1 := ⟨m - 1, by omega⟩
    simp (disch := omega) only [f1_digitsTogether_c9, dgF, qL, qb, qbl, qadd, qmul, qsubm, qdm, qsub, qdiv, qcl, qlt, qle, qeq, nltT, nltF, nleT, nleF, neqT, neqF, or_false, false_or, or_true, true_or, or_self, and_true, true_and, and_false, false_and, and_self, not_true_eq_false, not_false_eq_true, ↓reduceIte]
  | succ d ih =>
    intro k m r s hk hm hr hs
    obtain ⟨m', rfl⟩ : ∃ m', m = m' + 1 := ⟨m - 1, by omega⟩
    by_cases z : r = 0
    · simp (disch := omega) only [f1_digitsTogether_c9, dgF, z, qL, qb, qbl, qadd, qmul, qsubm, qdm, qsub, qdiv, qcl, qlt, qle, qeq, nltT, nltF, nleT, nleF, neqT, neqF, or_false, false_or, or_true, true_or, or_self, and_true, true_and, and_false, false_and, and_self, not_true_eq_false, not_false_eq_true, ↓reduceIte]
    · have e := ih (k + 1) m' (r / 10) (s + r % 10) (by omega) (by omega) (by omega) (by omega)
      have u : dgF (d + 1) r s = dgF d (r / 10) (s + r % 10) := by
        show (if r = 0 then s else _) = _
        rw [if_neg z]
      rw [u, ← e]
      simp (disch := omega) only [f1_digitsTogether_c9, qL, qb, qbl, qadd, qmul, qsubm, qdm, qsub, qdiv, qcl, qlt, qle, qeq, nltT, nltF, nleT, nleF, neqT, neqF, or_false, false_or, or_true, true_or, or_self, and_true, true_and, and_false, false_and, and_self, not_true_eq_false, not_false_eq_true, ↓reduceIte]
theorem iV_abs {x : Int} (h : bB x) : fJ9_abs_0f7a4 (iV x) = some (nI x.natAbs) := by
  have u := h
  unfold bB at u
  have z : 0 ≤ iV x ↔ 0 ≤ x := by
    have := iV_le bd0 h
    exact this
  unfold fJ9_abs_0f7a4
  by_cases q : 0 ≤ x
  · rw [if_pos (z.mpr q), ← iV_n (by omega), show ((x.natAbs : Nat) : Int) = x by omega]
  · rw [if_neg (fun w => q (z.mp w)), ← iV_n (by omega), show ((x.natAbs : Nat) : Int) = -x by omega]
    exact congrArg some (Int32.ofInt_neg x).symm
theorem x_digits {n : Nat} (hn : 100000 ≤ n) {x : Int} (h : bB x) : f1_digitsTogether n (iV x) = some (iV (dgI x)) := by
  have u := h
  unfold bB at u
  have l := dgF_le 10 x.natAbs 0
  unfold f1_digitsTogether dgI
  rw [iV_abs h, iV_n (by omega)]
  exact x_dg9 10 0 n x.natAbs 0 (by omega) (by omega) (by omega) (by omega)
theorem lV_n {k : Nat} : lV (k : Int) = lN k := Int64.ofInt_eq_ofNat
theorem dgF_m : ∀ d r s m, r < 10 ^ d → d < m → r < 2147483648 → ∀ n, f12_digitsOf_c16 n m (lN s) (lN r) = some (lN (dgF d r s)) := by
  intro d
  induction d with
  | zero =>
    intro r s m hr hm h2 n
    obtain ⟨m', rfl⟩ : ∃ m', m = m' + 1 := ⟨m - 1, by omega⟩
    have : r = 0 := by omega
    subst this
    show (if lg_cmp (lN 0) 0 ≤ 0 then some (lN s) else _) = _
    rw [if_pos (by decide)]; rfl
  | succ d ih =>
    intro r s m hr hm h2 n
    obtain ⟨m', rfl⟩ : ∃ m', m = m' + 1 := ⟨m - 1, by omega⟩
    have z1 : lg_cmp (lN r) 0 ≤ 0 ↔ r ≤ 0 := by
      rw [lg_cmp_le]
      exact pk_lLE (a := r) (b := 0) (by omega) (by omega)
    show (if lg_cmp (lN r) 0 ≤ 0 then some (lN s) else bl (lN s + (lN r - lN r / 10 * 10)) fun z2 => f12_digitsOf_c16 n m' z2 (lN r / 10)) = _
    by_cases z : r = 0
    · rw [if_pos (z1.mpr (by omega))]
      show _ = some (lN (if r = 0 then s else _))
      rw [if_pos z]
    · rw [if_neg (fun w => z (by have := z1.mp w; omega)), qbl]
      have e1 : lN r - lN r / 10 * 10 = lN (r % 10) := pk_lRem (a := r) (b := 10) (by omega) (by omega) (by omega)
      have e2 : lN r / 10 = lN (r / 10) := pk_lDiv (a := r) (b := 10) (by omega) (by omega) (by omega)
      rw [e1, e2, lN_add]
      show _ = some (lN (if r = 0 then s else dgF d (r / 10) (s + r % 10)))
      rw [if_neg z]
      exact ih (r / 10) (s + r % 10) m' (by rw [Nat.pow_succ] at hr; omega) (by omega) (by omega) n
theorem m_digits {n : Nat} (hn : 100000 ≤ n) {x : Int} (h : bB x) : f12_digitsOf n (lV x) = some (lV (dgI x)) := by
  have u := h
  unfold bB at u
  have z : 0 ≤ lg_cmp (lV x) 0 ↔ 0 ≤ x := by
    rw [lg_cmp_ge]
    exact lV_le bd0 h
  have e := dgF_m 10 x.natAbs 0 n (by omega) (by omega) (by omega) n
  unfold f12_digitsOf dgI
  rw [lV_n]
  by_cases q : 0 ≤ x
  · rw [if_pos (z.mpr q), ← e, show lV x = lN x.natAbs by rw [← lV_n, show ((x.natAbs : Nat) : Int) = x by omega]]; rfl
  · rw [if_neg (fun w => q (z.mp w)), ← e, show -lV x = lN x.natAbs by rw [← lV_n, show ((x.natAbs : Nat) : Int) = -x by omega]; exact (Int64.ofInt_neg x).symm]; rfl
