/-! teaching: both -/
section TJ
variable {n : Nat} {O : TO} {N : TN} {lw : Lws} {c m0 : Nat} {I : TI}
theorem ta_ext {s s' : TN} (h : ∀ r, r < 5 → s r = s' r) (k : Nat) : taN N c s k = taN N c s' k := by
  have : taS N s k 5 = taS N s' k 5 := by
    show 0 + s 0 * _ + s 1 * _ + s 2 * _ + s 3 * _ + s 4 * _ = 0 + s' 0 * _ + s' 1 * _ + s' 2 * _ + s' 3 * _ + s' 4 * _
    rw [h 0 (by omega), h 1 (by omega), h 2 (by omega), h 3 (by omega), h 4 (by omega)]
  unfold taN
  rw [this]
theorem al_ext {s s' : TN} (h : ∀ r, r < 5 → s r = s' r) : ∀ d k, alB N lw c m0 s d k = alB N lw c m0 s' d k := by
  intro d
  induction d with
  | zero => intro k; rfl
  | succ d ih =>
    intro k
    show aS m0 k (lbB N lw c k (taN N c s k)) (alB N lw c m0 s d (k + 1)) = aS m0 k (lbB N lw c k (taN N c s' k)) (alB N lw c m0 s' d (k + 1))
    rw [ta_ext h, ih]
theorem cd_mul {s : TN} {a : Nat} (ha : a ≤ 5) (h8 : ∀ j, j < 5 → s j ≤ 8) (hz : ∀ j, a ≤ j → s j = 0) : (∃ i, i < 9 ^ a ∧ codeN s = i * 9 ^ (5 - a)) ∧ smT s a 0 = s 0 + s 1 + s 2 + s 3 + s 4 := by
  have h0 := h8 0 (by omega)
  have h1 := h8 1 (by omega)
  have h2 := h8 2 (by omega)
  have h3 := h8 3 (by omega)
  have h4 := h8 4 (by omega)
  have : a = 0 ∨ a = 1 ∨ a = 2 ∨ a = 3 ∨ a = 4 ∨ a = 5 := by omega
  unfold codeN
  rcases this with rfl | rfl | rfl | rfl | rfl | rfl
  · have z0 := hz 0 (by omega); have z1 := hz 1 (by omega); have z2 := hz 2 (by omega); have z3 := hz 3 (by omega); have z4 := hz 4 (by omega)
    refine ⟨⟨0, by decide, ?_⟩, ?_⟩
    · omega
    · show 0 = _; omega
  · have z1 := hz 1 (by omega); have z2 := hz 2 (by omega); have z3 := hz 3 (by omega); have z4 := hz 4 (by omega)
    refine ⟨⟨s 0, ?_, ?_⟩, ?_⟩
    · show s 0 < 9; omega
    · show _ = s 0 * 6561; omega
    · show s 0 + 0 = _; omega
  · have z2 := hz 2 (by omega); have z3 := hz 3 (by omega); have z4 := hz 4 (by omega)
    refine ⟨⟨s 0 * 9 + s 1, ?_, ?_⟩, ?_⟩
    · show _ < 81; omega
    · show _ = (s 0 * 9 + s 1) * 729; omega
    · show s 0 + (s 1 + 0) = _; omega
  · have z3 := hz 3 (by omega); have z4 := hz 4 (by omega)
    refine ⟨⟨s 0 * 81 + s 1 * 9 + s 2, ?_, ?_⟩, ?_⟩
    · show _ < 729; omega
    · show _ = (s 0 * 81 + s 1 * 9 + s 2) * 81; omega
    · show s 0 + (s 1 + (s 2 + 0)) = _; omega
  · have z4 := hz 4 (by omega)
    refine ⟨⟨s 0 * 729 + s 1 * 81 + s 2 * 9 + s 3, ?_, ?_⟩, ?_⟩
    · show _ < 6561; omega
    · show _ = (s 0 * 729 + s 1 * 81 + s 2 * 9 + s 3) * 9; omega
    · show s 0 + (s 1 + (s 2 + (s 3 + 0))) = _; omega
  · refine ⟨⟨s 0 * 6561 + s 1 * 729 + s 2 * 81 + s 3 * 9 + s 4, ?_, ?_⟩, ?_⟩
    · show _ < 59049; omega
    · show _ = (s 0 * 6561 + s 1 * 729 + s 2 * 81 + s 3 * 9 + s 4) * 1; omega
    · show s 0 + (s 1 + (s 2 + (s 3 + (s 4 + 0)))) = _; omega
theorem dg_mul {a k i : Nat} (h : a ≤ k) (hk : k < 5) : dgT (i * 9 ^ (5 - a)) k = 0 := by
  have e : i * 9 ^ (5 - a) = i * 9 ^ (k - a) * 9 * 9 ^ (4 - k) := by
    rw [Nat.mul_assoc, Nat.mul_assoc, show 9 * 9 ^ (4 - k) = 9 ^ (4 - k + 1) by rw [Nat.pow_succ, Nat.mul_comm], ← Nat.pow_add, show k - a + (4 - k + 1) = 5 - a by omega]
  unfold dgT
  rw [e, Nat.mul_div_cancel _ (Nat.pow_pos (by omega)), Nat.mul_mod_left]
def zxT (x : Nat) : TN := fun k => if k < 5 then dgT x k else 0
theorem zx_good (hB : WB N) (hm : m0 < 64) (h2 : m0 % 2 = 0) {x i : Nat} (hx : x = i * 9 ^ (5 - N 0)) (hl : x < 59049) (hg : tgB N lw c m0 (dgT x) = true) : GdZ N lw c m0 (tiN x) (zxT x) ∧ codeN (zxT x) = x := by
  have b1 := hB.1
  have z8 : ∀ j, j < 5 → zxT x j = dgT x j := fun j hj => if_pos hj
  have hz : ∀ j, N 0 ≤ j → zxT x j = 0 := fun j hj => by
    by_cases q : j < 5
    · rw [z8 j q, hx]; exact dg_mul hj q
    · exact if_neg q
  refine ⟨⟨fun j hj => by omega, hz, ?_, ?_⟩, ?_⟩
  · rw [Nat.sub_zero, (cd_mul b1 (fun j hj => by rw [z8 j hj]; exact dgT_le x j) hz).2, z8 0 (by omega), z8 1 (by omega), z8 2 (by omega), z8 3 (by omega), z8 4 (by omega), ti_code]
  · show alB N lw c m0 (zxT x) 5 1 = true
    rw [al_ext z8, ← tg_al hm h2]; exact hg
  · have e := dg_code hl
    unfold codeN at e ⊢
    rw [z8 0 (by omega), z8 1 (by omega), z8 2 (by omega), z8 3 (by omega), z8 4 (by omega)]; exact e
theorem good_zx (hB : WB N) (hm : m0 < 64) (h2 : m0 % 2 = 0) {q : Nat} (hq : q ≤ 8) {s : TN} (h : GdZ N lw c m0 q s) : (∀ r, r < 5 → s r ≤ 8) ∧ (∃ i, i < 9 ^ N 0 ∧ codeN s = i * 9 ^ (5 - N 0)) ∧ tiN (codeN s) = q ∧ tgB N lw c m0 (dgT (codeN s)) = true := by
  have b1 := hB.1
  obtain ⟨g1, g2, g3, g4⟩ := h
  have g3' : smT s (N 0) 0 = q := g3
  have s8 : ∀ j, j < 5 → s j ≤ 8 := fun j hj => by
    by_cases z : j < N 0
    · have := smT_le (s := s) (N 0) 0 j (by omega) (by omega); omega
    · rw [g2 j (by omega)]; exact Nat.zero_le _
  have cm := cd_mul b1 s8 g2
  have dg := code_dg s8
  refine ⟨s8, cm.1, ?_, ?_⟩
  · rw [ti_code, dg 0 (by omega), dg 1 (by omega), dg 2 (by omega), dg 3 (by omega), dg 4 (by omega), ← cm.2]; exact g3'
  · rw [tg_al hm h2, al_ext dg]; exact g4
theorem m_isInM {x : Int32} {a : Nat} (ha : a < 2147483648) (hd : Decidable (-1 ≤ x.toInt ∧ x.toInt < a)) : f12_isIn x (-1) (nI a - 1) = some (if -1 ≤ x.toInt ∧ x.toInt < a then 1 else 0) := by
  unfold f12_isIn
  have h0 : x < -1 ↔ x.toInt < -1 := by rw [i_lt, lm1]
  have h1 : nI a - 1 < x ↔ (a : Int) - 1 < x.toInt := by rw [i_lt, qpred ha]
  by_cases a1 : x.toInt < -1
  · rw [if_pos (h0.mpr a1), if_neg (fun q => by omega)]
  · rw [if_neg (fun q => a1 (h0.mp q))]
    by_cases a2 : (a : Int) - 1 < x.toInt
    · rw [if_pos (h1.mpr a2), if_neg (fun q => by omega)]
    · rw [if_neg (fun q => a2 (h1.mp q)), if_pos (by omega)]
theorem nI_nm {q : Nat} (h : q < 2147483648) : ¬ nI q = -1 := fun g => by
  have q' := i_eq.mp g
  rw [qtoI h, lm1] at q'; omega
/-- what the two answer, once all is in range -/
theorem t_join (hn : 100000 ≤ n) {e f tp : Nat} {G : TN} (h : R0 tX I O N G e f tp) (L : TL) (hc : c < N 1) (hm : m0 < 64) (h2 : m0 % 2 = 0) {p3 : Int32} (h3 : p3 = -1 ∨ ∃ r, r < N 0 ∧ p3 = nI r) : ∃ (v : Int32) (I1 I2 : TI) (L2 : TL), f11_teaches_c55 n O I 1 (nI c) (nI m0) p3 = some (v, I1) ∧ f12_teaches_c50 n O n I1 L 331 (nI c) (nI m0) p3 1 0 = some (v, I2, L2) ∧ R0 tX I1 O N G e f tp ∧ RE tX I2 O := by
  have hO := h.1
  have hV := RW_WV hO h.2.2.2.2.2.2.1
  have hN := h.2.2.2.1
  have hB := NB_WB hN
  have hF := RW_fd h.2.2.2.2.2.2.1
  have b0 : N 0 ≤ 5 := hB.1
  have b1 : N 1 ≤ 4 := hB.2.1
  obtain ⟨lw, l1, l2⟩ := R_lw h
  obtain ⟨I0, x1, x2⟩ := x_teach hn hO hB hc hm l1 hV
  have pre : f11_teaches_c55 n O I 1 (nI c) (nI m0) p3 = (f6_teach n I O 295 3 (rlX N) (nI c) (nI m0)).bind fun r6 => (if r6.1 = (-1 : Int32) then some (((-2) : Int32), r6.2) else (if p3 = (-1 : Int32) then some (r6.1, r6.2) else (f6_timesOf r6.2 O 295 p3).bind fun r10 => some (r10, r6.2))) := by
    rw [f11_teaches_c55, x_ruling hO hF hN, qb, o_1_9 hO, o_1_0 hO, o_2_0 hO]
  have fx : ∀ I1 t', ShI O N lw c I0 I1 t' → XF I I1 := fun I1 t' hS a ha => (hS.1 a (by omega) (by omega) (by omega) (by omega) (by omega)).trans (x1 a (by omega) (by omega) (by omega))
  have rf : ∀ I1 t', ShI O N lw c I0 I1 t' → R0 tX I1 O N G e f tp ∧ ∃ J' L' b, BsI (fun x => tgB N lw c m0 (dgT x)) (fun k => k * 9 ^ (5 - N 0)) (9 ^ N 0) b ∧ RE tX J' O ∧ f12_teaches_c50 n O n I1 L 331 (nI c) (nI m0) p3 1 0 = (if enB b = (-1 : Int32) then some (((-2) : Int32), J', L') else (if p3 = (-1 : Int32) then (f12_timesIn n 331 (enB b)).bind fun r6 => some (r6, J', L') else (f12_timesOf n (enB b) p3).bind fun r4 => some (r4, J', L'))) := by
    intro I1 t' hS
    have r1 := R0_x tXst h (fx I1 t' hS)
    refine ⟨r1, ?_⟩
    obtain ⟨J', L', b, c1, c2, c3, c4⟩ := m_bestC (L := L) (c := c) (m := m0) (y3 := p3) hn hO hB r1.2.1 (LM_fr l2 (fx I1 t' hS 334 (by omega))) (by omega) (Nat.pow_pos (n := 5 - N 0) (show 0 < 9 by omega)) (c9_e b0)
    refine ⟨J', L', b, c1, ⟨N, G, e, f, tp, R0_z tXst r1 c2 (fun a g1 g2 g3 => c3 a (by omega) (by omega) (by omega) (by omega)) (fun k _ => by rw [c3 331 (by omega) (by omega) (by omega) (by omega)])⟩, ?_⟩
    rw [m_codes hn hB r1.2.1, c4]
  have st0 : 0 < 9 ^ (5 - N 0) := Nat.pow_pos (by omega)
  have cl : ∀ i, i < 9 ^ N 0 → i * 9 ^ (5 - N 0) < 59049 := fun i hi => by
    rw [← c9_e b0]; exact Nat.mul_lt_mul_of_pos_right hi st0
  rcases x2 with ⟨I1, t', q1, hS, no⟩ | ⟨I1, t', q, q1, hS, hq, hg, no, mx⟩
  · obtain ⟨r1, J', L', b, c1, c2, c3⟩ := rf I1 t' hS
    have hb : b = none := by
      cases b with
      | none => rfl
      | some y =>
        obtain ⟨⟨i, hi, ei⟩, y8, yP, -⟩ := c1
        have ei' : y = i * 9 ^ (5 - N 0) := ei
        exact absurd (zx_good hB hm h2 ei' (by rw [ei']; exact cl i hi) yP).1 (no _ y8 _)
    refine ⟨-2, I1, J', L', ?_, ?_, r1, c2⟩
    · rw [pre, q1, qb, if_pos rfl]
    · rw [c3, hb, if_pos (show enB none = -1 from rfl)]
  · obtain ⟨r1, J', L', b, c1, c2, c3⟩ := rf I1 t' hS
    obtain ⟨s8, ⟨i0, hi0, ei0⟩, tq, tg⟩ := good_zx hB hm h2 hq hg
    have hb : b = some (codeN t') := by
      cases b with
      | none =>
        have := c1 i0 hi0 (by show tiN (i0 * 9 ^ (5 - N 0)) ≤ 8; rw [← ei0, tq]; exact hq)
        have e : tgB N lw c m0 (dgT (i0 * 9 ^ (5 - N 0))) = false := this
        rw [← ei0, tg] at e; exact absurd e (by decide)
      | some y =>
        obtain ⟨⟨i, hi, ei⟩, y8, yP, ya⟩ := c1
        have ei' : y = i * 9 ^ (5 - N 0) := ei
        obtain ⟨z1, z2⟩ := zx_good hB hm h2 ei' (by rw [ei']; exact cl i hi) yP
        have u := ya i0 hi0 (by show tiN (i0 * 9 ^ (5 - N 0)) ≤ 8; rw [← ei0, tq]; exact hq) (by show tgB N lw c m0 (dgT (i0 * 9 ^ (5 - N 0))) = true; rw [← ei0]; exact tg)
        have u' : tiN y < tiN (i0 * 9 ^ (5 - N 0)) ∨ (tiN y = tiN (i0 * 9 ^ (5 - N 0)) ∧ i0 * 9 ^ (5 - N 0) ≤ y) := u
        rw [← ei0, tq] at u'
        rcases u' with u1 | ⟨u1, u2⟩
        · exact absurd z1 (no _ u1 _)
        · rw [u1] at z1
          have := mx _ z1
          rw [z2] at this
          exact congrArg some (Nat.le_antisymm this u2)
    have cb := code_lt s8
    have en : enB b = nI (codeN t') := by rw [hb]; rfl
    have nn : ¬ nI (codeN t') = -1 := nI_nm (by omega)
    have nq : ¬ nI q = -1 := nI_nm (by omega)
    rcases h3 with rfl | ⟨r, hr, rfl⟩
    · refine ⟨nI q, I1, J', L', ?_, ?_, r1, c2⟩
      · rw [pre, q1, qb]
        dsimp only
        rw [if_neg nq, if_pos rfl]
      · rw [c3, en, if_neg nn, if_pos rfl, m_timesIn hn (by omega), qb, tq]
    · have nr : ¬ nI r = -1 := nI_nm (by omega)
      have e5 := (hS.2.1 r (by omega)).2
      refine ⟨nI (t' r), I1, J', L', ?_, ?_, r1, c2⟩
      · rw [pre, q1, qb]
        dsimp only
        rw [if_neg nq, if_neg nr, f6_timesOf, if_neg (fun g => by have := (nI_ltI (b := 0) (by omega) (by omega)).mp g; omega), if_neg (show ¬ (5 : Int32) ≤ nI r from nle_i (a := 5) (by omega) (by omega) (by omega)), if_neg (nI_in (by omega) (by omega)), o_295_1 hO, qcl (by omega), e5, qb]
      · rw [c3, en, if_neg nn, if_neg nr, m_timesOf hn (by omega) (by omega), qb, code_dg s8 r (by omega)]
theorem s_teaches (hn : 100000 ≤ n) (h : RE tX I O) (L : TL) (p1 p2 p3 : Int32) : ∃ (v : Int32) (I1 I2 : TI) (L2 : TL), f11_teaches n I O 1 p1 p2 p3 = some (v, I1) ∧ f12_teaches n I1 L O 331 p1 p2 p3 = some (v, I2, L2) ∧ RE tX I2 O := by
  have h0 := h
  obtain ⟨N, G, e, f, tp, h⟩ := h
  have hO := h.1
  have hV := RW_WV hO h.2.2.2.2.2.2.1
  have hN := h.2.2.2.1
  have hB := NB_WB hN
  have hM := h.2.1
  have hF := RW_fd h.2.2.2.2.2.2.1
  have b0 : N 0 ≤ 5 := hB.1
  have b1 : N 1 ≤ 4 := hB.2.1
  have e1 := o_1_0 hO
  have e2 := o_2_0 hO
  have m0' := hM.2 0 (by omega)
  by_cases h1 : inR p1 (N 1)
  · obtain ⟨c, hc, rfl⟩ := inR_of h1
    have ex := x_hasChild hV hB hc
    have em := m_isChild hM hB hc
    by_cases h2 : ((0 : Nat) : Int) ≤ p2.toInt ∧ p2.toInt ≤ ((63 : Nat) : Int)
    · obtain ⟨m, -, hm, rfl⟩ := inB h2
      have na : nI m &&& 1 = nI (m % 2) := by rw [show (1 : Int32) = nI 1 from rfl, nI_and, Nat.and_one_is_mod]
      have nd : nI m - nI m / 2 * 2 = nI (m % 2) := by
        rw [show nI m / 2 = nI (m / 2) from pk_div (d := 2) (by omega) (by omega) (by omega), show nI (m / 2) * 2 = nI (m / 2 * 2) from qmul (m / 2) 2, qsubm]
      have l0' : ¬ nI m < 0 := fun g => by have := (nI_ltI (b := 0) (by omega) (by omega)).mp g; omega
      have l64 : ¬ (64 : Int32) ≤ nI m := nle_i (a := 64) (by omega) (by omega) (by omega)
      by_cases z : m % 2 = 0
      · have i62 : f12_isIn (nI m) 0 62 = some 1 := m_inT (x := m) (a := 0) (b := 62) (by omega) (by omega) (by omega)
        have xe : ∀ J, f12_isChild J O 331 (nI c) = some 1 → f12_teaches n J L O 331 (nI c) (nI m) p3 = (f12_isIn p3 (-1) (J (rO O 331 0) 0 - 1)).bind fun r9 => (if r9 = 0 then some (((-2) : Int32), J, L) else f12_teaches_c50 n O n J L 331 (nI c) (nI m) p3 1 0) := by
          intro J hJ
          rw [f12_teaches, hJ, qb, if_neg (by decide), i62, qb, if_neg (by decide), nd, z, if_neg (by decide)]
        by_cases h3 : -1 ≤ p3.toInt ∧ p3.toInt < (N 0 : Int)
        · have h3' : p3 = -1 ∨ ∃ r, r < N 0 ∧ p3 = nI r := by
            by_cases w : p3.toInt = -1
            · exact Or.inl (i_eq.mpr (by rw [w, lm1]))
            · exact Or.inr (inR_of ⟨by omega, h3.2⟩)
          obtain ⟨v, I1, I2, L2, q1, q2, r1, q3⟩ := t_join hn h L hc (m0 := m) (by omega) z h3'
          refine ⟨v, I1, I2, L2, ?_, ?_, q3⟩
          · rw [f11_teaches, e1, e2, ex, qb, if_neg (by decide), if_neg l0', if_neg l64, na, z, if_pos (show nI 0 = 0 from rfl)]
            rcases h3' with w | ⟨r, hr, w⟩
            · rw [if_pos w]; exact q1
            · rw [if_neg (by rw [w]; exact nI_nm (by omega)), w, x_hasRoll hV hB hr, qb, if_neg (by decide), ← w]; exact q1
          · rw [xe I1 (m_isChild r1.2.1 hB hc), r1.2.1.1, r1.2.1.2 0 (by omega), m_isInM (by omega) (Classical.propDecidable _), if_pos h3, qb, if_neg (by decide)]; exact q2
        · refine ⟨-2, I, I, L, ?_, ?_, h0⟩
          · rw [f11_teaches, e1, e2, ex, qb, if_neg (by decide), if_neg l0', if_neg l64, na, z, if_pos (show nI 0 = 0 from rfl), if_neg (fun w => h3 (by rw [w, lm1]; omega)), x_noRoll hV hB (fun w => h3 (by unfold inR at w; omega)), qb, if_pos rfl]
          · rw [xe I em, hM.1, m0', m_isInM (by omega) (Classical.propDecidable _), if_neg h3, qb, if_pos rfl]
      · have z1 : m % 2 = 1 := by omega
        refine ⟨-2, I, I, L, ?_, ?_, h0⟩
        · rw [f11_teaches, e1, e2, ex, qb, if_neg (by decide), if_neg l0', if_neg l64, na, z1, if_neg (by decide)]
        · rw [f12_teaches, em, qb, if_neg (by decide)]
          by_cases w : m ≤ 62
          · rw [show f12_isIn (nI m) 0 62 = some (nI 1) from m_inT (x := m) (a := 0) (b := 62) (by omega) (by omega) (by omega), qb, if_neg (by decide), nd, z1, if_pos (show nI 1 = 1 from rfl)]
          · rw [show f12_isIn (nI m) 0 62 = some (nI 0) from m_inF (a := 0) (b := 62) (by rw [qtoI (by omega)]; omega) (by omega) (by omega), qb, if_pos (show nI 0 = 0 from rfl)]
    · refine ⟨-2, I, I, L, ?_, ?_, h0⟩
      · rw [f11_teaches, e1, e2, ex, qb, if_neg (by decide)]
        by_cases w : p2 < 0
        · rw [if_pos w]
        · rw [if_neg w, if_pos (i_le.mpr (by
            have w' : ¬ p2.toInt < 0 := fun g => w (i_lt.mpr (by rw [l0]; exact g))
            rw [show (64 : Int32).toInt = 64 by decide]; omega))]
      · rw [f12_teaches, em, qb, if_neg (by decide), show f12_isIn p2 0 62 = some (nI 0) from m_inF (a := 0) (b := 62) (by omega) (by omega) (by omega), qb, if_pos (show nI 0 = 0 from rfl)]
  · refine ⟨-2, I, I, L, ?_, ?_, h0⟩
    · rw [f11_teaches, e1, e2, x_noChild hV hB h1, qb, if_pos rfl]
    · rw [f12_teaches, m_noChild hM hB h1, qb, if_pos rfl]
end TJ
