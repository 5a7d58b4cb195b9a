/-! the bits of sixteen places -/
theorem or16c : ∀ k, k < 16 → nI 1 <<< (nI k &&& nI 31) = nI (2 ^ k) := by decide +kernel
theorem nI_or (a b : Nat) : nI a ||| nI b = nI (a ||| b) := by
  apply Int32.toBitVec_inj.mp
  show BitVec.ofNat 32 a ||| BitVec.ofNat 32 b = BitVec.ofNat 32 (a ||| b)
  apply BitVec.eq_of_toNat_eq
  rw [BitVec.toNat_or, BitVec.toNat_ofNat, BitVec.toNat_ofNat, BitVec.toNat_ofNat, Nat.or_mod_two_pow]
theorem orb16 {k b : Nat} (hk : k < 16) (hb : b < 2 ^ k) : nI b ||| (nI 1 <<< (nI k &&& nI 31)) = nI (b + 2 ^ k) := by
  rw [or16c k hk, nI_or]
  have := Nat.two_pow_add_eq_or_of_lt hb 1
  rw [Nat.mul_one] at this
  rw [Nat.or_comm, ← this, Nat.add_comm]
theorem nI_and (a b : Nat) : nI a &&& nI b = nI (a &&& b) := by
  apply Int32.toBitVec_inj.mp
  show BitVec.ofNat 32 a &&& BitVec.ofNat 32 b = BitVec.ofNat 32 (a &&& b)
  apply BitVec.eq_of_toNat_eq
  rw [BitVec.toNat_and, BitVec.toNat_ofNat, BitVec.toNat_ofNat, BitVec.toNat_ofNat, Nat.and_mod_two_pow]
theorem nI_ush {b s : Nat} {x : UInt32} (hb : b < 2147483648) (hx : (x % 32).toBitVec.toNat = s) : ((nI b).toUInt32 >>> x).toInt32 = nI (b / 2 ^ s) := by
  apply Int32.toBitVec_inj.mp
  show BitVec.ofNat 32 b >>> (x % 32).toBitVec = BitVec.ofNat 32 (b / 2 ^ s)
  apply BitVec.eq_of_toNat_eq
  have h1 : b / 2 ^ s ≤ b := Nat.div_le_self _ _
  rw [BitVec.ushiftRight_eq', BitVec.toNat_ushiftRight, hx, BitVec.toNat_ofNat, BitVec.toNat_ofNat, Nat.shiftRight_eq_div_pow, Nat.mod_eq_of_lt (by omega), Nat.mod_eq_of_lt (by omega)]
theorem land_sp {i u v p q : Nat} (hv : v < 2 ^ i) (hq : q < 2 ^ i) : (2 ^ i * u + v) &&& (2 ^ i * p + q) = 2 ^ i * (u &&& p) + (v &&& q) := by
  apply Nat.eq_of_testBit_eq
  intro j
  rw [Nat.testBit_and, Nat.testBit_two_pow_mul_add _ hv, Nat.testBit_two_pow_mul_add _ hq, Nat.testBit_two_pow_mul_add _ (Nat.and_lt_two_pow v hq)]
  split
  · rw [Nat.testBit_and]
  · rw [Nat.testBit_and]
def bcA (x : Nat) : Nat := x - (x / 2 &&& 85)
def bcB (x : Nat) : Nat := (x &&& 51) + (x / 4 &&& 51)
def bcC (x : Nat) : Nat := (x + x / 16) % 16
theorem bcd1 : ∀ x, x < 256 → (x / 2 &&& 5592405) = (x / 2 &&& 85) ∧ (x / 2 &&& 85) ≤ x ∧ bcA x < 256 := by decide +kernel
theorem bcd2 : ∀ t, t < 2 → ∀ x, x < 256 → (128 * t + x / 2 &&& 85) = (x / 2 &&& 85) := by decide +kernel
theorem bcd3 : ∀ x, x < 256 → (x &&& 3355443) = (x &&& 51) ∧ (x / 4 &&& 3355443) = (x / 4 &&& 51) := by decide +kernel
theorem bcd4 : ∀ t, t < 4 → ∀ x, x < 256 → (64 * t + x / 4 &&& 51) = (x / 4 &&& 51) := by decide +kernel
theorem bcd5 : ∀ x, x < 256 → bcB (bcA x) ≤ 68 ∧ bcB (bcA x) % 16 ≤ 4 ∧ bcC (bcB (bcA x)) = pcF 8 x := by decide +kernel
theorem bcd6 : ∀ x, x < 80 → (x &&& 986895) = x % 16 := by decide +kernel
theorem bcd7 : ∀ x, x < 256 → (x &&& 15) = x % 16 := by decide +kernel
theorem bcd8 : ∀ h, h < 16 → ∀ l, l < 32 → (256 * h + l &&& 63) = l := by decide +kernel
theorem pcF_sp : ∀ d e b, pcF (d + e) b = pcF d b + pcF e (b / 2 ^ d) := by
  intro d
  induction d with
  | zero => intro e b; rw [Nat.zero_add, Nat.pow_zero, Nat.div_one]; exact (Nat.zero_add _).symm
  | succ d ih =>
    intro e b
    rw [show d + 1 + e = d + e + 1 by omega]
    show b % 2 + pcF (d + e) (b / 2) = b % 2 + pcF d (b / 2) + pcF e (b / 2 ^ (d + 1))
    rw [ih, Nat.div_div_eq_div_mul, show 2 * 2 ^ d = 2 ^ (d + 1) by rw [p2s, Nat.mul_comm]]
    omega
theorem pcF_md : ∀ d b c, pcF d (2 ^ d * c + b) = pcF d b := by
  intro d
  induction d with
  | zero => intro b c; rfl
  | succ d ih =>
    intro b c
    show (2 ^ (d + 1) * c + b) % 2 + pcF d ((2 ^ (d + 1) * c + b) / 2) = b % 2 + pcF d (b / 2)
    have e : 2 ^ (d + 1) * c = 2 * (2 ^ d * c) := by rw [p2s, Nat.mul_comm (2 ^ d) 2, Nat.mul_assoc]
    rw [e, show (2 * (2 ^ d * c) + b) / 2 = 2 ^ d * c + b / 2 by omega, ih]
    omega
theorem bc16 {b : Nat} (hb : b < 65536) : fJ6_bitCount_0f7a4 (nI b) = some (nI (pcF 16 b)) := by
  obtain ⟨h, l, hh, hl, rfl⟩ : ∃ h l, h < 256 ∧ l < 256 ∧ b = 256 * h + l := ⟨b / 256, b % 256, by omega, by omega, by omega⟩
  obtain ⟨a1, a2, a3⟩ := bcd1 h hh
  obtain ⟨a4, a5, a6⟩ := bcd1 l hl
  have c1 : (256 * h + l) / 2 &&& 1431655765 = 256 * (h / 2 &&& 85) + (l / 2 &&& 85) := by
    rw [show (256 * h + l) / 2 = 2 ^ 8 * (h / 2) + (128 * (h % 2) + l / 2) by omega, show (1431655765 : Nat) = 2 ^ 8 * 5592405 + 85 from rfl, land_sp (by omega) (by omega), a1, bcd2 _ (by omega) l hl]
  have c2 : 256 * h + l - (256 * (h / 2 &&& 85) + (l / 2 &&& 85)) = 256 * bcA h + bcA l := by unfold bcA; omega
  have c3 : (256 * bcA h + bcA l) &&& 858993459 = 256 * (bcA h &&& 51) + (bcA l &&& 51) := by
    rw [show 256 * bcA h + bcA l = 2 ^ 8 * bcA h + bcA l from rfl, show (858993459 : Nat) = 2 ^ 8 * 3355443 + 51 from rfl, land_sp (by omega) (by omega), (bcd3 _ a3).1]
  have c4 : (256 * bcA h + bcA l) / 4 &&& 858993459 = 256 * (bcA h / 4 &&& 51) + (bcA l / 4 &&& 51) := by
    rw [show (256 * bcA h + bcA l) / 4 = 2 ^ 8 * (bcA h / 4) + (64 * (bcA h % 4) + bcA l / 4) by omega, show (858993459 : Nat) = 2 ^ 8 * 3355443 + 51 from rfl, land_sp (by omega) (by omega), (bcd3 _ a3).2, bcd4 _ (by omega) _ a6]
  have c5 : 256 * (bcA h &&& 51) + (bcA l &&& 51) + (256 * (bcA h / 4 &&& 51) + (bcA l / 4 &&& 51)) = 256 * bcB (bcA h) + bcB (bcA l) := by unfold bcB; omega
  obtain ⟨d1, d2, d3⟩ := bcd5 h hh
  obtain ⟨d4, d5, d6⟩ := bcd5 l hl
  generalize bcB (bcA h) = H at c5 d1 d2 d3
  generalize bcB (bcA l) = M at c5 d4 d5 d6
  have c6 : (256 * H + M + (256 * H + M) / 16) &&& 252645135 = 256 * bcC H + bcC M := by
    rw [show 256 * H + M + (256 * H + M) / 16 = 2 ^ 8 * (H + H / 16) + (M + 16 * (H % 16) + M / 16) by omega, show (252645135 : Nat) = 2 ^ 8 * 986895 + 15 from rfl, land_sp (by omega) (by omega), bcd6 _ (by omega), bcd7 _ (by omega)]
    unfold bcC
    omega
  have d7 := pcF_le 8 h
  have d8 := pcF_le 8 l
  have c7 : (256 * bcC H + bcC M + (256 * bcC H + bcC M) / 256 + (256 * bcC H + bcC M + (256 * bcC H + bcC M) / 256) / 65536) &&& 63 = pcF 16 (256 * h + l) := by
    rw [show 256 * bcC H + bcC M + (256 * bcC H + bcC M) / 256 + (256 * bcC H + bcC M + (256 * bcC H + bcC M) / 256) / 65536 = 256 * bcC H + (bcC M + bcC H) by omega, bcd8 _ (by omega) _ (by omega), d3, d6, show (16 : Nat) = 8 + 8 from rfl, pcF_sp, show 256 * h + l = 2 ^ 8 * h + l from rfl, pcF_md, show (2 ^ 8 * h + l) / 2 ^ 8 = h by omega]
  unfold fJ6_bitCount_0f7a4
  rw [nI_ush (s := 1) (by omega) (by decide), show (256 * h + l) / 2 ^ 1 = (256 * h + l) / 2 from rfl, show (1431655765 : Int32) = nI 1431655765 from rfl, nI_and, c1, qsub (by omega), c2, qbl, show (858993459 : Int32) = nI 858993459 from rfl, nI_and, c3, nI_ush (s := 2) (by omega) (by decide), show (256 * bcA h + bcA l) / 2 ^ 2 = (256 * bcA h + bcA l) / 4 from rfl, nI_and, c4, qadd, c5, qbl, nI_ush (s := 4) (by omega) (by decide), show (256 * H + M) / 2 ^ 4 = (256 * H + M) / 16 from rfl, qadd, show (252645135 : Int32) = nI 252645135 from rfl, nI_and, c6, qbl, nI_ush (s := 8) (by omega) (by decide), show (256 * bcC H + bcC M) / 2 ^ 8 = (256 * bcC H + bcC M) / 256 from rfl, qadd, qbl, nI_ush (s := 16) (by omega) (by decide), show (256 * bcC H + bcC M + (256 * bcC H + bcC M) / 256) / 2 ^ 16 = (256 * bcC H + bcC M + (256 * bcC H + bcC M) / 256) / 65536 from rfl, qadd, qbl, show (63 : Int32) = nI 63 from rfl, nI_and, c7]
theorem low_bit : ∀ d b, 0 < b → b < 2 ^ d → (b &&& (b - 1)) < b ∧ pcF d (b &&& (b - 1)) + 1 = pcF d b := by
  intro d
  induction d with
  | zero => intro b h0 h; rw [Nat.pow_zero] at h; omega
  | succ d ih =>
    intro b h0 h
    rw [p2s] at h
    by_cases z : b % 2 = 1
    · have e : b &&& (b - 1) = 2 * (b / 2) := by
        have := land_sp (i := 1) (u := b / 2) (v := 1) (p := b / 2) (q := 0) (by omega) (by omega)
        rw [show 2 ^ 1 * (b / 2) + 1 = b by omega, show 2 ^ 1 * (b / 2) + 0 = b - 1 by omega, Nat.and_self, show (1 &&& 0 : Nat) = 0 from rfl] at this
        rw [this]; omega
      rw [e]
      refine ⟨by omega, ?_⟩
      show (2 * (b / 2)) % 2 + pcF d (2 * (b / 2) / 2) + 1 = b % 2 + pcF d (b / 2)
      rw [show 2 * (b / 2) / 2 = b / 2 by omega]
      omega
    · obtain ⟨i1, i2⟩ := ih (b / 2) (by omega) (by omega)
      have e : b &&& (b - 1) = 2 * (b / 2 &&& (b / 2 - 1)) := by
        have := land_sp (i := 1) (u := b / 2) (v := 0) (p := b / 2 - 1) (q := 1) (by omega) (by omega)
        rw [show 2 ^ 1 * (b / 2) + 0 = b by omega, show 2 ^ 1 * (b / 2 - 1) + 1 = b - 1 by omega, show (0 &&& 1 : Nat) = 0 from rfl] at this
        rw [this]; omega
      rw [e]
      refine ⟨by omega, ?_⟩
      show (2 * (b / 2 &&& (b / 2 - 1))) % 2 + pcF d (2 * (b / 2 &&& (b / 2 - 1)) / 2) + 1 = b % 2 + pcF d (b / 2)
      rw [show 2 * (b / 2 &&& (b / 2 - 1)) / 2 = (b / 2 &&& (b / 2 - 1)) by omega]
      omega
theorem pcF_0 : ∀ d, pcF d 0 = 0 := by
  intro d
  induction d with
  | zero => rfl
  | succ d ih => show 0 % 2 + pcF d (0 / 2) = 0; rw [Nat.zero_div, ih]
theorem m_bits16 {n : Nat} : ∀ b, b < 65536 → ∀ m c, b < m → f12_bits_c4 n m (nI c) (nI b) = some (nI (c + pcF 16 b)) := by
  intro b
  induction b using Nat.strongRecOn with
  | _ b ih =>
    intro hb m c hm
    obtain ⟨m', rfl⟩ : ∃ m', m = m' + 1 := ⟨m - 1, by omega⟩
    by_cases z : b = 0
    · subst z
      rw [f12_bits_c4, if_pos (show nI 0 = 0 from rfl), pcF_0]; rfl
    · obtain ⟨h2, h3⟩ := low_bit 16 b (by omega) hb
      have h1 : nI b &&& (nI b - 1) = nI (b &&& (b - 1)) := by
        rw [show (1 : Int32) = nI 1 from rfl, qsub (by omega), nI_and]
      rw [f12_bits_c4, if_neg (nI_ne0 (by omega) (by omega)), h1, nI_1, ih _ h2 (by omega) m' (c + 1) (by omega), ← h3, show c + 1 + pcF 16 (b &&& (b - 1)) = c + (pcF 16 (b &&& (b - 1)) + 1) by omega]
/-- the torn places as a number -/
def tmG (N : TN) (r p b : Nat) : Nat := if tornB N r p then b + 2 ^ p else b
def tmN (N : TN) (r d : Nat) : Nat := fo (tmG N r) d 0 0
theorem tmN_s {N : TN} {r d : Nat} : tmN N r (d + 1) = if tornB N r d then tmN N r d + 2 ^ d else tmN N r d := by
  unfold tmN
  rw [fo_s, Nat.zero_add]; rfl
theorem tmN_lt {N : TN} {r : Nat} : ∀ d, tmN N r d < 2 ^ d := by
  intro d
  induction d with
  | zero => exact Nat.one_pos
  | succ d ih => rw [tmN_s, p2s]; split <;> omega
theorem to_tm {N : TN} {r : Nat} : ∀ d, d ≤ 16 → fo (toG N r) d 0 0 = nI (tmN N r d) := by
  intro d
  induction d with
  | zero => intro _; rfl
  | succ d ih =>
    intro hd
    rw [fo_s, Nat.zero_add, ih (by omega), tmN_s]
    unfold toG
    cases tornB N r d
    · rfl
    · exact orb16 (by omega) (tmN_lt d)
theorem tm_16 {N : TN} {r : Nat} {d : Nat} (hd : d ≤ 16) : tmN N r d < 65536 := Nat.lt_of_lt_of_le (tmN_lt d) (by rw [show (65536 : Nat) = 2 ^ 16 from rfl]; exact Nat.pow_le_pow_right (by omega) hd)
theorem pcF_hi : ∀ d b k, k < d → b < 2 ^ k → pcF d (b + 2 ^ k) = pcF d b + 1 := by
  intro d
  induction d with
  | zero => intro b k h; omega
  | succ d ih =>
    intro b k hk hb
    show (b + 2 ^ k) % 2 + pcF d ((b + 2 ^ k) / 2) = b % 2 + pcF d (b / 2) + 1
    cases k with
    | zero =>
      rw [Nat.pow_zero] at hb ⊢
      rw [show b = 0 by omega]
      show 1 + pcF d 0 = 0 + pcF d 0 + 1
      omega
    | succ k =>
      rw [p2s] at hb ⊢
      rw [show (b + 2 ^ k * 2) / 2 = b / 2 + 2 ^ k by omega, ih (b / 2) k (by omega) (by omega)]
      omega
def tcN (N : TN) (r : Nat) : Nat → Nat
  | 0 => 0
  | d + 1 => if tornB N r d then tcN N r d + 1 else tcN N r d
theorem tm_pc {N : TN} {r : Nat} : ∀ d, d ≤ 16 → pcF 16 (tmN N r d) = tcN N r d := by
  intro d
  induction d with
  | zero => intro _; exact pcF_0 16
  | succ d ih =>
    intro hd
    rw [tmN_s]
    show _ = if tornB N r d then tcN N r d + 1 else tcN N r d
    cases tornB N r d
    · rw [if_neg (by decide), if_neg (by decide)]; exact ih (by omega)
    · rw [if_pos rfl, if_pos rfl, pcF_hi 16 _ d (by omega) (tmN_lt d), ih (by omega)]
