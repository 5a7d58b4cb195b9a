/-! the tape's tokens: the reference's next token -/
theorem ch_dis : ∀ c, c < 256 → (dgB c = true → ltB c = false ∧ bkB c = false) ∧ (ltB c = true → bkB c = false) ∧ (bkB c = true ↔ c = 32 ∨ c = 10) ∧ (bkB c = true → sgB c = false) := by decide +kernel
theorem l64_shr {x : Nat} (h : x < 2 ^ 63) : lN x >>> ((48 : Int32).toInt64 &&& 63) = lN (x / 281474976710656) := by
  have d : x / 281474976710656 ≤ x := Nat.div_le_self _ _
  apply Int64.toInt_inj.mp
  rw [Jvm.Kit.i64_shr _ _ (k := 48) (by decide), pk_lT h, pk_lT (by omega)]
  show (x : Int) / 281474976710656 = ((x / 281474976710656 : Nat) : Int)
  omega
theorem l64_shl {x : Nat} (h : x < 281474976710656) : lN x <<< ((8 : Int32).toInt64 &&& 63) = lN (x * 256) := by
  apply Int64.toInt_inj.mp
  have e := pk_lT (n := x) (by omega)
  have p8 : (2 : Int) ^ 8 = 256 := by decide
  rw [Jvm.Kit.i64_shl _ _ (k := 8) (by decide) (by rw [e, p8]; omega) (by rw [e, p8]; omega), e, p8, pk_lT (by omega)]
  omega
theorem l64_or (a b : Nat) : lN a ||| lN b = lN (a ||| b) := by
  apply Int64.toBitVec_inj.mp
  show BitVec.ofNat 64 a ||| BitVec.ofNat 64 b = BitVec.ofNat 64 (a ||| b)
  apply BitVec.eq_of_toNat_eq
  rw [BitVec.toNat_or, BitVec.toNat_ofNat, BitVec.toNat_ofNat, BitVec.toNat_ofNat, Nat.or_mod_two_pow]
theorem nI_64 {b : Nat} (h : b < 2147483648) : (nI b).toInt64 = lN b := by
  apply Int64.toInt_inj.mp
  rw [Int32.toInt_toInt64, qtoI h, pk_lT (by omega)]
theorem l64_put {x b : Nat} (h : x < 281474976710656) (hb : b < 256) : (lN x <<< ((8 : Int32).toInt64 &&& 63)) ||| (nI b).toInt64 = lN (x * 256 + b) := by
  rw [l64_shl h, nI_64 (by omega), l64_or]
  have := Nat.two_pow_add_eq_or_of_lt (i := 8) (show b < 2 ^ 8 by omega) x
  rw [show x * 256 = 2 ^ 8 * x by omega, ← this]
def NtF (J J' : TI) : Prop := (∀ a, a ≠ 331 → J' a = J a) ∧ ∀ k, k ≠ 7 → k ≠ 8 → k ≠ 9 → k ≠ 10 → J' 331 k = J 331 k
theorem NtF_t {J1 J2 J3 : TI} (h : NtF J1 J2) (g : NtF J2 J3) : NtF J1 J3 := ⟨fun a ha => (g.1 a ha).trans (h.1 a ha), fun k h1 h2 h3 h4 => (g.2 k h1 h2 h3 h4).trans (h.2 k h1 h2 h3 h4)⟩
theorem NtF_s {J : TI} {k : Nat} {v : Int32} (hk : k = 7 ∨ k = 8 ∨ k = 9 ∨ k = 10) : NtF J (sI J 331 k v) := ⟨fun a ha => sI_o _ _ ha, fun j h1 h2 h3 h4 => sI_k _ _ (by omega)⟩
theorem BM_nt {J J' : TI} {B : TN} {z : Nat} (h : BM0 J B z) (g : NtF J J') : BM0 J' B z := by
  obtain ⟨h1, h2, h3⟩ := h
  exact ⟨h1, by rw [g.2 4 (by omega) (by omega) (by omega) (by omega)]; exact h2, fun p hp => by rw [g.1 335 (by omega)]; exact h3 p hp⟩
section NT
variable {n : Nat} {L : TL} {O : TO} {B : TN} {z : Nat}
theorem m_fig (hO : OF O) : ∀ d p m J v, p + d = z → d < m → BM0 J B z → J 331 7 = nI p → J 331 10 = nI v → v ≤ 999999 → ∃ J', f12_nextToken_c85 n O m J L 331 = some (J', L) ∧ J' 331 7 = nI (reF B dgB d p) ∧ J' 331 10 = nI (nvF B (reF B dgB d p - p) p v) ∧ NtF J J' ∧ J' 331 8 = J 331 8 ∧ J' 331 9 = J 331 9 := by
  intro d
  induction d with
  | zero =>
    intro p m J v hp hm hB h7 h10 hv
    obtain ⟨m, rfl⟩ : ∃ m', m = m' + 1 := ⟨m - 1, by omega⟩
    have := hB.1
    refine ⟨J, ?_, h7, ?_, ⟨fun _ _ => rfl, fun _ _ _ _ _ => rfl⟩, rfl, rfl⟩
    · rw [f12_nextToken_c85, h7, m_byte0 hB (by omega) (by omega), qb, ch_n.2, qb, if_pos rfl]
    · show _ = nI (nvF B (p - p) p v)
      rw [Nat.sub_self]; exact h10
  | succ d ih =>
    intro p m J v hp hm hB h7 h10 hv
    obtain ⟨m, rfl⟩ : ∃ m', m = m' + 1 := ⟨m - 1, by omega⟩
    have z1 := hB.1
    have bb := (hB.2.2 p (by omega)).1
    have by1 := m_byte hO hB (show p < z by omega)
    cases hd : dgB (B p)
    · have er : reF B dgB (d + 1) p = p := by show (if dgB (B p) then _ else p) = p; rw [hd]; rfl
      rw [er, Nat.sub_self]
      refine ⟨J, ?_, h7, h10, ⟨fun _ _ => rfl, fun _ _ _ _ _ => rfl⟩, rfl, rfl⟩
      rw [f12_nextToken_c85, h7, by1, qb, (ch_m _ bb).2.1, hd, qb, if_pos (by decide)]
    · have er : reF B dgB (d + 1) p = reF B dgB d (p + 1) := by show (if dgB (B p) then _ else p) = _; rw [hd]; rfl
      have le := (reF_le (B := B) (q := dgB) d (p + 1)).1
      have hd' := hd
      unfold dgB at hd'
      rw [Bool.and_eq_true, decide_eq_true_eq, decide_eq_true_eq] at hd'
      have en : nvF B (reF B dgB d (p + 1) - p) p v = nvF B (reF B dgB d (p + 1) - (p + 1)) (p + 1) (if v ≤ 99999 then 10 * v + (B p - 48) else v) := by
        rw [show reF B dgB d (p + 1) - p = (reF B dgB d (p + 1) - (p + 1)) + 1 by omega]; rfl
      rw [er, en]
      have go : ∀ w, w = (if v ≤ 99999 then 10 * v + (B p - 48) else v) → ∃ J', f12_nextToken_c85 n O m (sI (sI J 331 10 (nI w)) 331 7 (nI (p + 1))) L 331 = some (J', L) ∧ J' 331 7 = nI (reF B dgB d (p + 1)) ∧ J' 331 10 = nI (nvF B (reF B dgB d (p + 1) - (p + 1)) (p + 1) w) ∧ NtF J J' ∧ J' 331 8 = J 331 8 ∧ J' 331 9 = J 331 9 := by
        intro w hw
        have fr : NtF J (sI (sI J 331 10 (nI w)) 331 7 (nI (p + 1))) := NtF_t (NtF_s (by omega)) (NtF_s (by omega))
        obtain ⟨J', q1, q2, q3, q4, q5, q6⟩ := ih (p + 1) m (sI (sI J 331 10 (nI w)) 331 7 (nI (p + 1))) w (by omega) (by omega) (BM_nt hB fr) (sI_s _ _ _ _) (by rw [sI_k _ _ (by omega), sI_s]) (by rw [hw]; split <;> omega)
        exact ⟨J', q1, q2, q3, NtF_t fr q4, by rw [q5, sI_k _ _ (by omega), sI_k _ _ (by omega)], by rw [q6, sI_k _ _ (by omega), sI_k _ _ (by omega)]⟩
      obtain ⟨J', q1, q2⟩ := go _ rfl
      refine ⟨J', ?_, q2⟩
      rw [← q1, f12_nextToken_c85, h7, by1, qb, (ch_m _ bb).2.1, hd, qb, if_neg (by decide), h10]
      by_cases w : v ≤ 99999
      · rw [if_pos (show nI v ≤ 99999 from (nI_leI (b := 99999) (by omega) (by omega)).mpr w), qb, if_pos w, show (10 : Int32) * nI v = nI (10 * v) from qmul 10 v, qadd, show nI (10 * v + B p) - 48 = nI (10 * v + B p - 48) from qsub (b := 48) (by omega), qbl, sI_k _ _ (by omega), h7, nI_1, qbl, show 10 * v + B p - 48 = 10 * v + (B p - 48) by omega]
      · rw [if_neg (show ¬ nI v ≤ 99999 from nle_i (b := 99999) (by omega) (by omega) (by omega)), if_neg w, qbl, sI_k _ _ (by omega), h7, nI_1, qbl]
theorem m_let (hO : OF O) : ∀ d p m J L x, p + d = z → d < m → BM0 J B z → J 331 7 = nI p → L 331 11 = lN x → x ≤ 1152921504606846976 → ∃ J' L', f12_nextToken_c168 n O m J L 331 = some (J', L') ∧ J' 331 7 = nI (reF B ltB d p) ∧ L' 331 11 = lN ((wlF B (reF B ltB d p - p) p).foldl pwS x) ∧ NtF J J' ∧ J' 331 8 = J 331 8 ∧ J' 331 9 = J 331 9 := by
  intro d
  induction d with
  | zero =>
    intro p m J L x hp hm hB h7 h11 hx
    obtain ⟨m, rfl⟩ : ∃ m', m = m' + 1 := ⟨m - 1, by omega⟩
    have := hB.1
    refine ⟨J, L, ?_, h7, ?_, ⟨fun _ _ => rfl, fun _ _ _ _ _ => rfl⟩, rfl, rfl⟩
    · rw [f12_nextToken_c168, h7, m_byte0 hB (by omega) (by omega), qb, ch_n.1, qb, if_pos rfl]
    · show _ = lN ((wlF B (p - p) p).foldl pwS x)
      rw [Nat.sub_self]; exact h11
  | succ d ih =>
    intro p m J L x hp hm hB h7 h11 hx
    obtain ⟨m, rfl⟩ : ∃ m', m = m' + 1 := ⟨m - 1, by omega⟩
    have z1 := hB.1
    have bb := (hB.2.2 p (by omega)).1
    have by1 := m_byte hO hB (show p < z by omega)
    cases hd : ltB (B p)
    · have er : reF B ltB (d + 1) p = p := by show (if ltB (B p) then _ else p) = p; rw [hd]; rfl
      rw [er, Nat.sub_self]
      refine ⟨J, L, ?_, h7, h11, ⟨fun _ _ => rfl, fun _ _ _ _ _ => rfl⟩, rfl, rfl⟩
      rw [f12_nextToken_c168, h7, by1, qb, (ch_m _ bb).1, hd, qb, if_pos (by decide)]
    · have er : reF B ltB (d + 1) p = reF B ltB d (p + 1) := by show (if ltB (B p) then _ else p) = _; rw [hd]; rfl
      have le := (reF_le (B := B) (q := ltB) d (p + 1)).1
      have en : (wlF B (reF B ltB d (p + 1) - p) p).foldl pwS x = (wlF B (reF B ltB d (p + 1) - (p + 1)) (p + 1)).foldl pwS (pwS x (B p)) := by
        rw [show reF B ltB d (p + 1) - p = (reF B ltB d (p + 1) - (p + 1)) + 1 by omega]; rfl
      rw [er, en]
      have fr : NtF J (sI J 331 7 (nI (p + 1))) := NtF_s (by omega)
      obtain ⟨J', L', q1, q2, q3, q4, q5, q6⟩ := ih (p + 1) m (sI J 331 7 (nI (p + 1))) (sL L 331 11 (lN (pwS x (B p)))) (pwS x (B p)) (by omega) (by omega) (BM_nt hB fr) (sI_s _ _ _ _) (sL_s _ _ _ _) (by unfold pwS; split <;> omega)
      refine ⟨J', L', ?_, q2, q3, NtF_t fr q4, by rw [q5, sI_k _ _ (by omega)], by rw [q6, sI_k _ _ (by omega)]⟩
      rw [← q1, f12_nextToken_c168, h7, by1, qb, (ch_m _ bb).1, hd, qb, if_neg (by decide), h11, l64_shr (by omega)]
      by_cases w : x / 281474976710656 = 0
      · rw [if_pos (show lg_cmp (lN (x / 281474976710656)) 0 = 0 from (lg_cmp_eq _ _).mpr (by rw [w]; rfl)), qb, qbl, nI_1, qbl, l64_put (by omega) bb]
        unfold pwS
        rw [if_pos w]
      · rw [if_neg (show ¬ lg_cmp (lN (x / 281474976710656)) 0 = 0 from fun g => w (by
          have := (lg_cmp_eq _ _).mp g
          have h2 : lN (x / 281474976710656) = lN 0 := this
          exact (pk_lEQ (by omega) (by omega)).mp h2)), qbl, nI_1, qbl]
        unfold pwS
        rw [if_neg w]; rfl
theorem m_skip (hO : OF O) : ∀ d p m J, p + d = z → d < m → BM0 J B z → J 331 7 = nI p → ∃ J' m', f12_nextToken_c0 n O m J L 331 = f12_nextToken_c0 n O (m' + 1) J' L 331 ∧ J' 331 7 = nI (reF B bkB d p) ∧ NtF J J' := by
  intro d
  induction d with
  | zero =>
    intro p m J hp hm hB h7
    obtain ⟨m, rfl⟩ : ∃ m', m = m' + 1 := ⟨m - 1, by omega⟩
    exact ⟨J, m, rfl, h7, ⟨fun _ _ => rfl, fun _ _ _ _ _ => rfl⟩⟩
  | succ d ih =>
    intro p m J hp hm hB h7
    obtain ⟨m, rfl⟩ : ∃ m', m = m' + 1 := ⟨m - 1, by omega⟩
    have z1 := hB.1
    have bb := (hB.2.2 p (by omega)).1
    have by1 := m_byte hO hB (show p < z by omega)
    cases hd : bkB (B p)
    · have er : reF B bkB (d + 1) p = p := by show (if bkB (B p) then _ else p) = p; rw [hd]; rfl
      rw [er]
      exact ⟨J, m, rfl, h7, ⟨fun _ _ => rfl, fun _ _ _ _ _ => rfl⟩⟩
    · have er : reF B bkB (d + 1) p = reF B bkB d (p + 1) := by show (if bkB (B p) then _ else p) = _; rw [hd]; rfl
      have fr : NtF J (sI J 331 7 (nI (p + 1))) := NtF_s (by omega)
      obtain ⟨J', m', q1, q2, q3⟩ := ih (p + 1) m (sI J 331 7 (nI (p + 1))) (by omega) (by omega) (BM_nt hB fr) (sI_s _ _ _ _)
      rw [er]
      refine ⟨J', m', ?_, q2, NtF_t fr q3⟩
      rw [← q1, f12_nextToken_c0, h7, by1, qb]
      rcases ((ch_dis _ bb).2.2.1).mp hd with e | e
      · rw [if_pos (show nI (B p) = 32 by rw [e]; rfl), nI_1, qbl]
      · rw [if_neg (show ¬ nI (B p) = 32 by rw [e]; decide), qb, if_pos (show nI (B p) = 10 by rw [e]; rfl), nI_1, qbl]
/-- the reference at token i -/
def RT (J : TI) (L : TL) (B : TN) (z i : Nat) : Prop := BM0 J B z ∧ J 331 7 = nI (psT B z (i + 1)) ∧ J 331 8 = nI (stT B z i) ∧ (∃ t x, J 331 9 = nI t ∧ t < 400 ∧ x < 2 ^ 63 ∧ (t = 2 → L 331 11 = lN x) ∧ TkR (kdT B z i) t x) ∧ (kdT B z i = 28 → J 331 10 = nI (nvT B z i) ∧ nvT B z i ≤ 999999)
theorem m_tok (hn : 100000 ≤ n) (hO : OF O) {J : TI} (hB : BM0 J B z) {p : Nat} (hp : p ≤ z) (h7 : J 331 7 = nI p) : ∃ J' L', f12_nextToken n J L O 331 = some (J', L') ∧ NtF J J' ∧ J' 331 7 = nI (tkE B z (skP B z p)) ∧ J' 331 8 = nI (skP B z p) ∧ (∃ t x, J' 331 9 = nI t ∧ t < 400 ∧ x < 2 ^ 63 ∧ (t = 2 → L' 331 11 = lN x) ∧ TkR (tkK B z (skP B z p)) t x) ∧ (tkK B z (skP B z p) = 28 → J' 331 10 = nI (tkV B z (skP B z p)) ∧ tkV B z (skP B z p) ≤ 999999) := by
  have z1 := hB.1
  obtain ⟨J1, m', q1, q2, q3⟩ := m_skip (n := n) (L := L) hO (z - p) p n J (by omega) (by omega) hB h7
  have hs := sk_le (B := B) hp
  have hst := reF_st (B := B) (q := bkB) (z - p) p
  have q2' : J1 331 7 = nI (skP B z p) := q2
  have hst' : skP B z p < p + (z - p) → bkB (B (skP B z p)) = false := hst
  generalize skP B z p = s at hs q2' hst'
  have hB1 := BM_nt hB q3
  rw [f12_nextToken, q1]
  by_cases hz : s < z
  · have bb := (hB.2.2 s hz).1
    have nb := hst' (by omega)
    have by1 := m_byte hO hB1 hz
    have n32 : ¬ nI (B s) = (32 : Int32) := fun g => by
      rw [show (32 : Int32) = nI 32 from rfl, nI_eq (by omega) (by omega)] at g
      rw [((ch_dis _ bb).2.2.1).mpr (Or.inl g)] at nb; exact absurd nb (by decide)
    have n10 : ¬ nI (B s) = (10 : Int32) := fun g => by
      rw [show (10 : Int32) = nI 10 from rfl, nI_eq (by omega) (by omega)] at g
      rw [((ch_dis _ bb).2.2.1).mpr (Or.inr g)] at nb; exact absurd nb (by decide)
    have f8 : NtF J1 (sI J1 331 8 (nI s)) := NtF_s (by omega)
    have hB8 := BM_nt hB1 f8
    have e87 : sI J1 331 8 (nI s) 331 7 = nI s := by rw [sI_k _ _ (by omega)]; exact q2'
    have ge0 : (0 : Int32) ≤ nI (B s) := (nI_leI (a := 0) (by omega) (by omega)).mpr (Nat.zero_le _)
    have pre : f12_nextToken_c0 n O (m' + 1) J1 L 331 = ((f12_isFigure (nI (B s))).bind fun r12 => (if r12 = 0 then (f12_isLetterByte (nI (B s))).bind fun r15 => (if r15 = 0 then (f12_isSign (nI (B s))).bind fun r18 => (if r18 = 0 then f12_nextToken_c247 n O (sI J1 331 8 (nI s)) L 331 (nI (B s)) (3 : Int32) 331 else f12_nextToken_c247 n O (sI J1 331 8 (nI s)) L 331 (nI (B s)) (nI (B s)) 331) else bl (sI (sI J1 331 8 (nI s)) 331 9 (2 : Int32)) fun I21 => bl (sL L 331 11 (0 : Int64)) fun L22 => f12_nextToken_c168 n O n I21 L22 331) else bl (sI (sI J1 331 8 (nI s)) 331 9 (1 : Int32)) fun I23 => bl (sI I23 331 10 (0 : Int32)) fun I24 => f12_nextToken_c85 n O n I24 L 331)) := by
      rw [f12_nextToken_c0, q2', by1, qb, if_neg n32, qb, if_neg n10, qbl, e87, m_byte hO hB8 hz, qb, if_pos ge0]
    rw [pre, (ch_m _ bb).2.1, qb]
    cases hd : dgB (B s)
    · rw [if_pos (by decide), (ch_m _ bb).1, qb]
      cases hl : ltB (B s)
      · rw [if_pos (by decide), (ch_m _ bb).2.2, qb]
        have eK : tkK B z s = if twB B z s then 256 + B s else if sgB (B s) then B s else 26 := by
          unfold tkK
          rw [if_neg (by omega), hl, if_neg (by decide), hd, if_neg (by decide)]
        have eE : tkE B z s = if twB B z s then s + 2 else s + 1 := by
          unfold tkE
          rw [if_neg (by omega), hl, if_neg (by decide), hd, if_neg (by decide)]
        have sg1 : ∃ t, (if (if sgB (B s) = true then (1 : Int32) else 0) = 0 then f12_nextToken_c247 n O (sI J1 331 8 (nI s)) L 331 (nI (B s)) (3 : Int32) 331 else f12_nextToken_c247 n O (sI J1 331 8 (nI s)) L 331 (nI (B s)) (nI (B s)) 331) = f12_nextToken_c247 n O (sI J1 331 8 (nI s)) L 331 (nI (B s)) (nI t) 331 ∧ ((sgB (B s) = true ∧ t = B s) ∨ (sgB (B s) = false ∧ t = 3)) := by
          cases hg : sgB (B s)
          · exact ⟨3, by rw [if_pos (by decide)]; rfl, Or.inr ⟨rfl, rfl⟩⟩
          · exact ⟨B s, by rw [if_neg (by decide)], Or.inl ⟨rfl, rfl⟩⟩
        obtain ⟨t, st1, st2⟩ := sg1
        rw [st1]
        have f2 : NtF J1 (sI (sI (sI J1 331 8 (nI s)) 331 9 (nI t)) 331 7 (nI (s + 1))) := NtF_t f8 (NtF_t (NtF_s (by omega)) (NtF_s (by omega)))
        have hB2 := BM_nt hB1 f2
        have p247 : f12_nextToken_c247 n O (sI J1 331 8 (nI s)) L 331 (nI (B s)) (nI t) 331 = (if nI (B s) = (60 : Int32) then f12_nextToken_c272 n O (sI (sI (sI J1 331 8 (nI s)) 331 9 (nI t)) 331 7 (nI (s + 1))) L 331 (nI (B s)) else (if nI (B s) = (62 : Int32) then f12_nextToken_c272 n O (sI (sI (sI J1 331 8 (nI s)) 331 9 (nI t)) 331 7 (nI (s + 1))) L 331 (nI (B s)) else some (sI (sI (sI J1 331 8 (nI s)) 331 9 (nI t)) 331 7 (nI (s + 1)), L))) := by
          rw [f12_nextToken_c247, qbl, sI_k _ _ (by omega), e87, nI_1, qbl]
        rw [p247]
        have one : ∀ (h0 : twB B z s = false), ∃ J' L', some (sI (sI (sI J1 331 8 (nI s)) 331 9 (nI t)) 331 7 (nI (s + 1)), L) = some (J', L') ∧ NtF J J' ∧ J' 331 7 = nI (tkE B z s) ∧ J' 331 8 = nI s ∧ (∃ t x, J' 331 9 = nI t ∧ t < 400 ∧ x < 2 ^ 63 ∧ (t = 2 → L' 331 11 = lN x) ∧ TkR (tkK B z s) t x) ∧ (tkK B z s = 28 → J' 331 10 = nI (tkV B z s) ∧ tkV B z s ≤ 999999) := by
          intro h0
          refine ⟨_, L, rfl, NtF_t q3 f2, ?_, ?_, ⟨t, 0, ?_, ?_, by omega, ?_, ?_⟩, ?_⟩
          · rw [eE, h0, if_neg (by decide), sI_s]
          · rw [sI_k _ _ (by omega), sI_k _ _ (by omega), sI_s]
          · rw [sI_k _ _ (by omega), sI_s]
          · rcases st2 with ⟨-, e⟩ | ⟨-, e⟩ <;> omega
          · intro t2
            rcases st2 with ⟨g, e⟩ | ⟨-, e⟩
            · have := sg_in g; omega
            · omega
          · rw [eK, h0, if_neg (by decide)]
            rcases st2 with ⟨g, e⟩ | ⟨g, e⟩
            · rw [g, if_pos rfl]
              exact Or.inr (Or.inr (Or.inr (Or.inr (Or.inr (Or.inr ⟨g, e⟩)))))
            · rw [g, if_neg (by decide)]
              exact Or.inr (Or.inr (Or.inr (Or.inl ⟨rfl, Or.inl e⟩)))
          · intro g
            rw [eK, h0, if_neg (by decide)] at g
            rcases st2 with ⟨g2, -⟩ | ⟨g2, -⟩
            · rw [g2, if_pos rfl] at g
              have := sg_in g2; omega
            · rw [g2, if_neg (by decide)] at g; omega
        have two : ∀ c, (c = 60 ∨ c = 62) → B s = c → ∃ J' L', f12_nextToken_c272 n O (sI (sI (sI J1 331 8 (nI s)) 331 9 (nI t)) 331 7 (nI (s + 1))) L 331 (nI (B s)) = some (J', L') ∧ NtF J J' ∧ J' 331 7 = nI (tkE B z s) ∧ J' 331 8 = nI s ∧ (∃ t x, J' 331 9 = nI t ∧ t < 400 ∧ x < 2 ^ 63 ∧ (t = 2 → L' 331 11 = lN x) ∧ TkR (tkK B z s) t x) ∧ (tkK B z s = 28 → J' 331 10 = nI (tkV B z s) ∧ tkV B z s ≤ 999999) := by
          intro c hc ec
          rw [f12_nextToken_c272, sI_s]
          by_cases hs1 : s + 1 < z
          · have b1 := (hB.2.2 (s + 1) hs1).1
            rw [m_byte hO hB2 hs1, qb]
            by_cases e61 : B (s + 1) = 61
            · have tw : twB B z s = true := by
                unfold twB
                rw [Bool.and_eq_true, Bool.and_eq_true, Bool.or_eq_true, beq_iff_eq, beq_iff_eq, beq_iff_eq, decide_eq_true_eq]
                exact ⟨by omega, hs1, e61⟩
              rw [if_pos (show nI (B (s + 1)) = 61 by rw [e61]; rfl)]
              have fin : ∀ u, ((B s = 60 ∧ u = 4) ∨ (B s = 62 ∧ u = 5)) → ∃ J' L', some (sI (sI (sI (sI (sI J1 331 8 (nI s)) 331 9 (nI t)) 331 7 (nI (s + 1))) 331 9 (nI u)) 331 7 (nI (s + 2)), L) = some (J', L') ∧ NtF J J' ∧ J' 331 7 = nI (tkE B z s) ∧ J' 331 8 = nI s ∧ (∃ t x, J' 331 9 = nI t ∧ t < 400 ∧ x < 2 ^ 63 ∧ (t = 2 → L' 331 11 = lN x) ∧ TkR (tkK B z s) t x) ∧ (tkK B z s = 28 → J' 331 10 = nI (tkV B z s) ∧ tkV B z s ≤ 999999) := by
                intro u hu
                refine ⟨_, L, rfl, NtF_t q3 (NtF_t f2 (NtF_t (NtF_s (by omega)) (NtF_s (by omega)))), ?_, ?_, ⟨u, 0, ?_, by omega, by omega, fun g => by omega, ?_⟩, ?_⟩
                · rw [eE, tw, if_pos rfl, sI_s]
                · rw [sI_k _ _ (by omega), sI_k _ _ (by omega), sI_k _ _ (by omega), sI_k _ _ (by omega), sI_s]
                · rw [sI_k _ _ (by omega), sI_s]
                · rw [eK, tw, if_pos rfl]
                  rcases hu with ⟨g1, g2⟩ | ⟨g1, g2⟩
                  · exact Or.inr (Or.inr (Or.inr (Or.inr (Or.inl ⟨by omega, g2⟩))))
                  · exact Or.inr (Or.inr (Or.inr (Or.inr (Or.inr (Or.inl ⟨by omega, g2⟩)))))
                · intro g
                  rw [eK, tw, if_pos rfl] at g; omega
              by_cases c60 : B s = 60
              · rw [if_pos (show nI (B s) = 60 by rw [c60]; rfl), qbl, sI_k _ _ (by omega), sI_s, nI_1, qbl]
                exact fin 4 (Or.inl ⟨c60, rfl⟩)
              · rw [if_neg (show ¬ nI (B s) = 60 from fun g => c60 (by rw [show (60 : Int32) = nI 60 from rfl, nI_eq (by omega) (by omega)] at g; exact g)), qbl, sI_k _ _ (by omega), sI_s, nI_1, qbl]
                exact fin 5 (Or.inr ⟨by omega, rfl⟩)
            · rw [if_neg (show ¬ nI (B (s + 1)) = 61 from fun g => e61 (by rw [show (61 : Int32) = nI 61 from rfl, nI_eq (by omega) (by omega)] at g; exact g))]
              refine one ?_
              cases tw : twB B z s
              · rfl
              · exact absurd (twB_t tw).2.2 e61
          · rw [m_byte0 hB2 (by omega) (by omega), qb, if_neg (by decide)]
            refine one ?_
            cases tw : twB B z s
            · rfl
            · exact absurd (twB_t tw).2.1 hs1
        by_cases c60 : B s = 60
        · rw [if_pos (show nI (B s) = 60 by rw [c60]; rfl)]; exact two 60 (Or.inl rfl) c60
        · rw [if_neg (show ¬ nI (B s) = 60 from fun g => c60 (by rw [show (60 : Int32) = nI 60 from rfl, nI_eq (by omega) (by omega)] at g; exact g))]
          by_cases c62 : B s = 62
          · rw [if_pos (show nI (B s) = 62 by rw [c62]; rfl)]; exact two 62 (Or.inr rfl) c62
          · rw [if_neg (show ¬ nI (B s) = 62 from fun g => c62 (by rw [show (62 : Int32) = nI 62 from rfl, nI_eq (by omega) (by omega)] at g; exact g))]
            refine one ?_
            cases tw : twB B z s
            · rfl
            · have := (twB_t tw).1; omega
      · rw [if_neg (by decide), qbl, qbl]
        have f2 : NtF J1 (sI (sI J1 331 8 (nI s)) 331 9 2) := NtF_t f8 (NtF_s (by omega))
        obtain ⟨J', L', r1, r2, r3, r4, r5, r6⟩ := m_let (n := n) hO (z - s) s n (sI (sI J1 331 8 (nI s)) 331 9 2) (sL L 331 11 0) 0 (by omega) (by omega) (BM_nt hB1 f2) (by rw [sI_k _ _ (by omega)]; exact e87) (sL_s _ _ _ _) (by omega)
        have tw := tk_word (B := B) (z := z) (fun p hp => (hB.2.2 p hp).1) hz hl
        obtain ⟨ow, -⟩ := we_ok (B := B) (z := z) (fun p hp => (hB.2.2 p hp).1) hz hl
        have pb := (pw_ge (wlF B (weP B z s - s) s) 0 (fun b hb => (ow.2 b hb).2) (by omega)).2
        refine ⟨J', L', r1, NtF_t q3 (NtF_t f2 r4), ?_, ?_, ⟨2, pwL (wlF B (weP B z s - s) s), ?_, by omega, ?_, fun _ => r3, tw⟩, ?_⟩
        · rw [r2]; unfold tkE; rw [if_neg (by omega), if_pos hl]; rfl
        · rw [r5, sI_k _ _ (by omega), sI_s]
        · rw [r6, sI_s]; rfl
        · have pb' : pwL (wlF B (weP B z s - s) s) ≤ 1152921504606846976 := pb
          omega
        · intro g
          unfold TkR at tw
          omega
    · rw [if_neg (by decide), qbl, qbl]
      have nl := ((ch_dis _ bb).1 hd).1
      have f2 : NtF J1 (sI (sI (sI J1 331 8 (nI s)) 331 9 1) 331 10 0) := NtF_t f8 (NtF_t (NtF_s (by omega)) (NtF_s (by omega)))
      obtain ⟨J', r1, r2, r3, r4, r5, r6⟩ := m_fig (n := n) (L := L) hO (z - s) s n (sI (sI (sI J1 331 8 (nI s)) 331 9 1) 331 10 0) 0 (by omega) (by omega) (BM_nt hB1 f2) (by rw [sI_k _ _ (by omega), sI_k _ _ (by omega)]; exact e87) (sI_s _ _ _ _) (by omega)
      have eK : tkK B z s = 28 := by unfold tkK; rw [if_neg (by omega), nl, if_neg (by decide), if_pos hd]
      have eV : tkV B z s = nvF B (neP B z s - s) s 0 := by unfold tkV; rw [if_neg (by omega), nl, if_neg (by decide), if_pos hd]
      have el := we_lt (q := dgB) hz hd
      refine ⟨J', L, r1, NtF_t q3 (NtF_t f2 r4), ?_, ?_, ⟨1, 0, ?_, by omega, by omega, fun g => by omega, ?_⟩, ?_⟩
      · rw [r2]; unfold tkE; rw [if_neg (by omega), nl, if_neg (by decide), if_pos hd]; rfl
      · rw [r5, sI_k _ _ (by omega), sI_k _ _ (by omega), sI_s]
      · rw [r6, sI_k _ _ (by omega), sI_s]; rfl
      · exact Or.inr (Or.inl ⟨eK, rfl⟩)
      · intro _
        refine ⟨by rw [r3, eV]; rfl, ?_⟩
        rw [eV]
        exact nvF_le _ s 0 (fun j h1 h2 => reF_q (z - s) s j h1 (by unfold neP at h2; omega)) (by omega)
  · have es : s = z := by omega
    have f8 : NtF J1 (sI J1 331 8 (nI s)) := NtF_s (by omega)
    have hB8 := BM_nt hB1 f8
    have e87 : sI J1 331 8 (nI s) 331 7 = nI s := by rw [sI_k _ _ (by omega)]; exact q2'
    refine ⟨sI (sI J1 331 8 (nI s)) 331 9 0, L, ?_, NtF_t q3 (NtF_t f8 (NtF_s (by omega))), ?_, ?_, ⟨0, 0, ?_, by omega, by omega, fun g => by omega, ?_⟩, ?_⟩
    · rw [f12_nextToken_c0, q2', m_byte0 hB1 (by omega) (by omega), qb, if_neg (by decide), qb, if_neg (by decide), qbl, e87, m_byte0 hB8 (by omega) (by omega), qb, if_neg (by decide), qbl]
    · rw [sI_k _ _ (by omega), e87]; unfold tkE; rw [if_pos (by omega)]
    · rw [sI_k _ _ (by omega), sI_s]
    · rw [sI_s]; rfl
    · exact Or.inl ⟨by unfold tkK; rw [if_pos (by omega)], rfl⟩
    · intro g
      unfold tkK at g
      rw [if_pos (by omega)] at g; omega
theorem m_tok0 (hn : 100000 ≤ n) (hO : OF O) {J : TI} (hB : BM0 J B z) (h7 : J 331 7 = 0) : ∃ J' L', f12_nextToken n J L O 331 = some (J', L') ∧ RT J' L' B z 0 ∧ NtF J J' := by
  obtain ⟨J', L', q1, q2, q3, q4, q5, q6⟩ := m_tok (L := L) hn hO hB (p := 0) (Nat.zero_le _) h7
  exact ⟨J', L', q1, ⟨BM_nt hB q2, q3, q4, q5, q6⟩, q2⟩
theorem m_tokS (hn : 100000 ≤ n) (hO : OF O) {J : TI} {i : Nat} (h : RT J L B z i) : ∃ J' L', f12_nextToken n J L O 331 = some (J', L') ∧ RT J' L' B z (i + 1) ∧ NtF J J' := by
  obtain ⟨hB, h7, -⟩ := h
  obtain ⟨J', L', q1, q2, q3, q4, q5, q6⟩ := m_tok (L := L) hn hO hB (ps_le B z (i + 1)) h7
  exact ⟨J', L', q1, ⟨BM_nt hB q2, q3, q4, q5, q6⟩, q2⟩
end NT
