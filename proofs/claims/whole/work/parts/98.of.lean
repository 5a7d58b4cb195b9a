/-! keys learnt; of, best, whose, ledger -/
theorem orb6 : ∀ k, k < 6 → ∀ b, b < 2 ^ k → nI b ||| (nI 1 <<< (nI k &&& nI 31)) = nI (b + 2 ^ k) := by decide +kernel
def pcF : Nat → Nat → Nat
  | 0, _ => 0
  | d + 1, b => b % 2 + pcF d (b / 2)
theorem bc6 : ∀ b, b < 64 → fJ6_bitCount_0f7a4 (nI b) = some (nI (pcF 6 b)) := by decide +kernel
theorem and6 : ∀ b, b < 64 → b = 0 ∨ (nI b &&& (nI b - 1) = nI (b &&& (b - 1)) ∧ (b &&& (b - 1)) < b ∧ pcF 6 (b &&& (b - 1)) + 1 = pcF 6 b) := by decide +kernel
theorem pcF_le : ∀ d b, pcF d b ≤ d := by
  intro d
  induction d with
  | zero => intro b; exact Nat.le_refl _
  | succ d ih =>
    intro b
    have := ih (b / 2)
    show b % 2 + pcF d (b / 2) ≤ d + 1
    omega
theorem m_bits6 {n : Nat} : ∀ b, b < 64 → ∀ m c, b < m → f12_bits_c4 n m (nI c) (nI b) = some (nI (c + pcF 6 b)) := by
  intro b
  induction b using Nat.strongRecOn with
  | _ b ih =>
    intro hb m c hm
    obtain ⟨m', rfl⟩ : ∃ m', m = m' + 1 := ⟨m - 1, by omega⟩
    rcases and6 b hb with rfl | ⟨h1, h2, h3⟩
    · rw [f12_bits_c4, if_pos (show nI 0 = 0 from rfl)]; rfl
    · rw [f12_bits_c4]
      by_cases z : b = 0
      · subst z
        rw [if_pos (show nI 0 = 0 from rfl)]; rfl
      · rw [if_neg (nI_ne0 (by omega) (by omega)), h1, nI_1, ih _ h2 (by omega) m' (c + 1) (by omega), ← h3, show c + 1 + pcF 6 (b &&& (b - 1)) = c + (pcF 6 (b &&& (b - 1)) + 1) by omega]
def lkB (N : TN) (lw : Lws) (c k : Nat) : Bool := decide (0 < Hd N c k) && decide (leN N lw c k (Hd N c k) ≤ Hd N c k)
def lkG (N : TN) (lw : Lws) (c k b : Nat) : Nat := if lkB N lw c k then b + 2 ^ k else b
def lkN (N : TN) (lw : Lws) (c : Nat) : Nat := fo (lkG N lw c) 5 1 0
theorem p2s (k : Nat) : 2 ^ (k + 1) = 2 ^ k * 2 := Nat.pow_succ 2 k
theorem lkG_lt {N : TN} {lw : Lws} {c k b : Nat} (h : b < 2 ^ k) : lkG N lw c k b < 2 ^ (k + 1) := by
  rw [p2s]; unfold lkG; split <;> omega
theorem lkN_lt {N : TN} {lw : Lws} {c : Nat} : lkN N lw c < 64 :=
  foI (lkG N lw c) (fun k b => b < 2 ^ k) 6 (fun k b _ h => lkG_lt h) 5 1 0 (by omega) (by decide)
theorem leN_le (N : TN) (lw : Lws) (c k h : Nat) : leN N lw c k h ≤ 99 := by
  unfold leN
  cases lw 1 with
  | none => show 3 ≤ 99; omega
  | some v => exact ct_le _ _
section OX
variable {n : Nat} {I J : TI} {L : TL} {O : TO} {N G : TN} {lw : Lws} {wa sz ky mo wr hr : Nat} {sx : Option Nat}
theorem x_learnt (hn : 100000 ≤ n) (hO : OF O) (hB : WB N) (hL : LX0 I sx lw) (hV : WV I O 3 4 5 6 7 8 N) {c : Nat} (hc : c < N 1) : ∃ I', f6_learntKeys n I O 295 3 sx (nI c) = some (nI (lkN N lw c), I') ∧ JN I I' := by
  have b2 := hB.2.1
  refine lpR (L := fun m k (s : TI × Nat) => f6_learntKeys_c6 n O m s.1 295 3 sx (nI c) (nI s.2) (nI k)) (fun k s => 1 ≤ k ∧ JN I s.1 ∧ s.2 = fo (lkG N lw c) (k - 1) 1 0 ∧ s.2 < 2 ^ k) (fun res => ∃ I', res = some (nI (lkN N lw c), I') ∧ JN I I') 6 ?_ ?_ 5 1 n (I, 0) (by omega) (by omega) ⟨Nat.le_refl _, JN_r I, rfl, by show 0 < 2 ^ 1; decide⟩
  · intro m k s hk ⟨k0, k1, k2, k3⟩
    left
    have hV' : WV s.1 O 3 4 5 6 7 8 N := WV_fr hV (fun a ha => k1 a (by omega) (by omega) (by omega))
    have hL' : LX0 s.1 sx lw := LX_fr hL (fun a h1 h2 => k1 a (by omega) (by omega) (by omega))
    have et := x_timesHeard hV' hB hc (k := k) hk
    have hb := hB.2.2.2.2.2.2.1 c k (by omega) hk
    have or := orb6 k hk s.2 k3
    have e1 : k + 1 - 1 = k - 1 + 1 := by omega
    have e2 : 1 + (k - 1) = k := by omega
    by_cases z : 0 < Hd N c k
    · obtain ⟨I2, q1, q2⟩ := x_learns hn hO hB hL' hV' w3 (c := c) (k := k) (h := Hd N c k) (by omega) hk hb
      have lb := leN_le N lw c k (Hd N c k)
      refine ⟨(I2, lkG N lw c k s.2), ⟨by omega, JN_t k1 q2, by rw [e1, fo_s, ← k2, e2], lkG_lt k3⟩, ?_⟩
      by_cases z2 : leN N lw c k (Hd N c k) ≤ Hd N c k
      · have hz : lkG N lw c k s.2 = s.2 + 2 ^ k := by unfold lkG lkB; rw [decide_eq_true z, decide_eq_true z2]; rfl
        show f6_learntKeys_c6 n O (m + 1) s.1 295 3 sx (nI c) (nI s.2) (nI k) = f6_learntKeys_c6 n O m I2 295 3 sx (nI c) (nI (lkG N lw c k s.2)) (nI (k + 1))
        rw [hz]
        simp (disch := omega) only [f6_learntKeys_c6, et, o_295_0 hO, q1, or, qL, qb, qbl, qadd, qmul, qsubm, qdm, qsub, qdiv, qcl, qlt, qle, qeq, nltT, nltF, nleT, nleF, neqT, neqF, or_false, false_or, or_true, true_or, or_self, and_true, true_and, and_false, false_and, and_self, not_true_eq_false, not_false_eq_true, ↓reduceIte]
      · have hz : lkG N lw c k s.2 = s.2 := by unfold lkG lkB; rw [decide_eq_true z, decide_eq_false z2]; rfl
        show f6_learntKeys_c6 n O (m + 1) s.1 295 3 sx (nI c) (nI s.2) (nI k) = f6_learntKeys_c6 n O m I2 295 3 sx (nI c) (nI (lkG N lw c k s.2)) (nI (k + 1))
        rw [hz]
        simp (disch := omega) only [f6_learntKeys_c6, et, o_295_0 hO, q1, qL, qb, qbl, qadd, qmul, qsubm, qdm, qsub, qdiv, qcl, qlt, qle, qeq, nltT, nltF, nleT, nleF, neqT, neqF, or_false, false_or, or_true, true_or, or_self, and_true, true_and, and_false, false_and, and_self, not_true_eq_false, not_false_eq_true, ↓reduceIte]
    · have hz : lkG N lw c k s.2 = s.2 := by unfold lkG lkB; rw [decide_eq_false z]; rfl
      refine ⟨(s.1, lkG N lw c k s.2), ⟨by omega, k1, by rw [e1, fo_s, ← k2, e2], lkG_lt k3⟩, ?_⟩
      show f6_learntKeys_c6 n O (m + 1) s.1 295 3 sx (nI c) (nI s.2) (nI k) = f6_learntKeys_c6 n O m s.1 295 3 sx (nI c) (nI (lkG N lw c k s.2)) (nI (k + 1))
      rw [hz]
      simp (disch := omega) only [f6_learntKeys_c6, et, qL, qb, qbl, qadd, qmul, qsubm, qdm, qsub, qdiv, qcl, qlt, qle, qeq, nltT, nltF, nleT, nleF, neqT, neqF, or_false, false_or, or_true, true_or, or_self, and_true, true_and, and_false, false_and, and_self, not_true_eq_false, not_false_eq_true, ↓reduceIte]
  · intro m s ⟨k0, k1, k2, k3⟩
    refine ⟨s.1, ?_, k1⟩
    have hz : lkN N lw c = s.2 := k2.symm
    rw [hz]
    simp (disch := omega) only [f6_learntKeys_c6, qL, qb, qbl, qadd, qmul, qsubm, qdm, qsub, qdiv, qcl, qlt, qle, qeq, nltT, nltF, nleT, nleF, neqT, neqF, or_false, false_or, or_true, true_or, or_self, and_true, true_and, and_false, false_and, and_self, not_true_eq_false, not_false_eq_true, ↓reduceIte]
theorem m_isLearnt (hn : 100000 ≤ n) (hO : OF O) (hB : WB N) (hM : MV J O N) (hL : LM0 J (N 3) lw) {c k : Nat} (hc : c < 4) (hk : k < 6) : ∃ J' L', f12_isLearnt n J L O 331 (nI c) (nI k) = some (if lkB N lw c k then 1 else 0, J', L') ∧ KN J J' := by
  have hb := hB.2.2.2.2.2.2.1 c k hc hk
  have eh := m_heardBy hM hc hk
  have m3 := hM.2 3 (by omega)
  unfold lkB
  by_cases z : 0 < Hd N c k
  · obtain ⟨J', L', q1, q2⟩ := m_learnsOf (L := L) hn hO hB hM hL hc hk
    have lb := leN_le N lw c k (Hd N c k)
    refine ⟨J', L', ?_, q2⟩
    by_cases z2 : leN N lw c k (Hd N c k) ≤ Hd N c k
    · rw [decide_eq_true z, decide_eq_true z2]
      simp (disch := omega) only [f12_isLearnt, eh, hM.1, m3, q1, Bool.and_true, qL, qb, qbl, qadd, qmul, qsubm, qdm, qsub, qdiv, qcl, qlt, qle, qeq, nltT, nltF, nleT, nleF, neqT, neqF, or_false, false_or, or_true, true_or, or_self, and_true, true_and, and_false, false_and, and_self, not_true_eq_false, not_false_eq_true, ↓reduceIte]
    · rw [decide_eq_true z, decide_eq_false z2]
      simp (disch := omega) only [f12_isLearnt, eh, hM.1, m3, q1, Bool.and_false, Bool.false_eq_true, qL, qb, qbl, qadd, qmul, qsubm, qdm, qsub, qdiv, qcl, qlt, qle, qeq, nltT, nltF, nleT, nleF, neqT, neqF, or_false, false_or, or_true, true_or, or_self, and_true, true_and, and_false, false_and, and_self, not_true_eq_false, not_false_eq_true, ↓reduceIte]
  · refine ⟨J, L, ?_, fun _ _ _ => rfl⟩
    rw [decide_eq_false z]
    simp (disch := omega) only [f12_isLearnt, eh, Bool.false_and, Bool.false_eq_true, qL, qb, qbl, qadd, qmul, qsubm, qdm, qsub, qdiv, qcl, qlt, qle, qeq, nltT, nltF, nleT, nleF, neqT, neqF, or_false, false_or, or_true, true_or, or_self, and_true, true_and, and_false, false_and, and_self, not_true_eq_false, not_false_eq_true, ↓reduceIte]
theorem m_learnt (hn : 100000 ≤ n) (hO : OF O) (hB : WB N) (hM : MV J O N) (hL : LM0 J (N 3) lw) {c : Nat} (hc : c < 4) : ∃ J' L', f12_learnt n J L O 331 (nI c) = some (nI (lkN N lw c), J', L') ∧ KN J J' := by
  refine lpR (L := fun m k (s : TI × TL × Nat) => f12_learnt_c4 n O m s.1 s.2.1 331 (nI c) (nI s.2.2) (nI k)) (fun k s => 1 ≤ k ∧ KN J s.1 ∧ s.2.2 = fo (lkG N lw c) (k - 1) 1 0 ∧ s.2.2 < 2 ^ k) (fun res => ∃ J' L', res = some (nI (lkN N lw c), J', L') ∧ KN J J') 6 ?_ ?_ 5 1 n (J, L, 0) (by omega) (by omega) ⟨Nat.le_refl _, fun _ _ _ => rfl, rfl, by show 0 < 2 ^ 1; decide⟩
  · intro m k s hk ⟨k0, k1, k2, k3⟩
    left
    have hM' : MV s.1 O N := MV_fr hM (k1 332 (by omega) (by omega))
    have hL' : LM0 s.1 (N 3) lw := LM_fr hL (k1 334 (by omega) (by omega))
    obtain ⟨J2, L2, q1, q2⟩ := m_isLearnt (L := s.2.1) hn hO hB hM' hL' hc hk
    have or := orb6 k hk s.2.2 k3
    have oz : nI s.2.2 ||| nI 0 = nI s.2.2 := Int32.or_zero
    have e1 : k + 1 - 1 = k - 1 + 1 := by omega
    have e2 : 1 + (k - 1) = k := by omega
    refine ⟨(J2, L2, lkG N lw c k s.2.2), ⟨by omega, KN_t k1 q2, by rw [e1, fo_s, ← k2, e2], lkG_lt k3⟩, ?_⟩
    show f12_learnt_c4 n O (m + 1) s.1 s.2.1 331 (nI c) (nI s.2.2) (nI k) = f12_learnt_c4 n O m J2 L2 331 (nI c) (nI (lkG N lw c k s.2.2)) (nI (k + 1))
    unfold lkG
    cases z : lkB N lw c k
    · rw [z] at q1
      simp (disch := omega) only [f12_learnt_c4, q1, oz, Bool.false_eq_true, qL, qb, qbl, qadd, qmul, qsubm, qdm, qsub, qdiv, qcl, qlt, qle, qeq, nltT, nltF, nleT, nleF, neqT, neqF, or_false, false_or, or_true, true_or, or_self, and_true, true_and, and_false, false_and, and_self, not_true_eq_false, not_false_eq_true, ↓reduceIte]
    · rw [z] at q1
      simp (disch := omega) only [f12_learnt_c4, q1, or, qL, qb, qbl, qadd, qmul, qsubm, qdm, qsub, qdiv, qcl, qlt, qle, qeq, nltT, nltF, nleT, nleF, neqT, neqF, or_false, false_or, or_true, true_or, or_self, and_true, true_and, and_false, false_and, and_self, not_true_eq_false, not_false_eq_true, ↓reduceIte]
  · intro m s ⟨k0, k1, k2, k3⟩
    refine ⟨s.1, s.2.1, ?_, k1⟩
    have hz : lkN N lw c = s.2.2 := k2.symm
    rw [hz]
    simp (disch := omega) only [f12_learnt_c4, qL, qb, qbl, qadd, qmul, qsubm, qdm, qsub, qdiv, qcl, qlt, qle, qeq, nltT, nltF, nleT, nleF, neqT, neqF, or_false, false_or, or_true, true_or, or_self, and_true, true_and, and_false, false_and, and_self, not_true_eq_false, not_false_eq_true, ↓reduceIte]
def ahN (N : TN) (c : Nat) : Nat := fo (fun k s => s + Hd N c k) 5 1 0
theorem neg_ne {j : Nat} (h : j < 1000) : ¬ nI j = -nI 1 := fun q => by
  have q' := i_eq.mp q
  rw [qtoI (by omega), show (-nI 1).toInt = -1 from lm1] at q'; omega
theorem x_allHeard (hn : 100000 ≤ n) (hV : WV I O 3 4 5 6 7 8 N) (hB : WB N) {c : Nat} (hc : c < N 1) : f10_allHeard n I O 3 (nI c) = some (nI (ahN N c)) := by
  have b2 := hB.2.1
  refine lpF (L := fun m k s => f10_allHeard_c4 n I O m 3 (nI c) (nI s) (nI k)) (fun k s => s + Hd N c k) (fun k s => s ≤ 99 * k) 6 nI ?_ ?_ ?_ 5 1 n 0 (by omega) (by omega) (Nat.zero_le _)
  · intro m k s hk hs
    have et := x_timesHeard hV hB hc (k := k) hk
    simp (disch := omega) only [f10_allHeard_c4, et, qL, qb, qbl, qadd, qmul, qsubm, qdm, qsub, qdiv, qcl, qlt, qle, qeq, nltT, nltF, nleT, nleF, neqT, neqF, or_false, false_or, or_true, true_or, or_self, and_true, true_and, and_false, false_and, and_self, not_true_eq_false, not_false_eq_true, ↓reduceIte]
  · intro k s hk hs
    have hb := hB.2.2.2.2.2.2.1 c k (by omega) hk
    show s + Hd N c k ≤ 99 * (k + 1)
    omega
  · intro m s hs
    simp (disch := omega) only [f10_allHeard_c4, qL, qb, qbl, qadd, qmul, qsubm, qdm, qsub, qdiv, qcl, qlt, qle, qeq, nltT, nltF, nleT, nleF, neqT, neqF, or_false, false_or, or_true, true_or, or_self, and_true, true_and, and_false, false_and, and_self, not_true_eq_false, not_false_eq_true, ↓reduceIte]
theorem x_mostHeard (hn : 100000 ≤ n) (hV : WV I O 3 4 5 6 7 8 N) (hB : WB N) {c : Nat} (hc : c < N 1) : f10_mostHeard n I O 3 (nI c) = some (fo (bsG (Hd N c)) 5 1 (-nI 1, 0)).1 := by
  have b2 := hB.2.1
  refine lpF (L := fun m k (s : Int32 × Nat) => f10_mostHeard_c7 n I O m 3 (nI c) s.1 (nI s.2) (nI k)) (bsG (Hd N c)) (fun k s => s.2 ≤ 99) 6 (fun s => s.1) ?_ ?_ ?_ 5 1 n (-nI 1, 0) (by omega) (by omega) (Nat.zero_le _)
  · intro m k s hk hs
    have et := x_timesHeard hV hB hc (k := k) hk
    have hb := hB.2.2.2.2.2.2.1 c k (by omega) hk
    unfold bsG
    by_cases z : s.2 < Hd N c k
    · rw [if_pos z]
      simp (disch := omega) only [f10_mostHeard_c7, et, qL, qb, qbl, qadd, qmul, qsubm, qdm, qsub, qdiv, qcl, qlt, qle, qeq, nltT, nltF, nleT, nleF, neqT, neqF, or_false, false_or, or_true, true_or, or_self, and_true, true_and, and_false, false_and, and_self, not_true_eq_false, not_false_eq_true, ↓reduceIte]
    · rw [if_neg z]
      simp (disch := omega) only [f10_mostHeard_c7, et, qL, qb, qbl, qadd, qmul, qsubm, qdm, qsub, qdiv, qcl, qlt, qle, qeq, nltT, nltF, nleT, nleF, neqT, neqF, or_false, false_or, or_true, true_or, or_self, and_true, true_and, and_false, false_and, and_self, not_true_eq_false, not_false_eq_true, ↓reduceIte]
  · intro k s hk hs
    have hb := hB.2.2.2.2.2.2.1 c k (by omega) hk
    show (bsG (Hd N c) k s).2 ≤ 99
    unfold bsG; split
    · exact hb
    · exact hs
  · intro m s hs
    simp (disch := omega) only [f10_mostHeard_c7, qL, qb, qbl, qadd, qmul, qsubm, qdm, qsub, qdiv, qcl, qlt, qle, qeq, nltT, nltF, nleT, nleF, neqT, neqF, or_false, false_or, or_true, true_or, or_self, and_true, true_and, and_false, false_and, and_self, not_true_eq_false, not_false_eq_true, ↓reduceIte]
theorem m_heardMost (hn : 100000 ≤ n) (hM : MV J O N) (hB : WB N) {c : Nat} (hc : c < 4) : f12_heardMost n J O 331 (nI c) = some (fo (bsG (Hd N c)) 5 1 (-nI 1, 0)).1 := by
  refine lpF (L := fun m k (s : Int32 × Nat) => f12_heardMost_c4 n J O m 331 (nI c) s.1 (nI k)) (bsG (Hd N c)) (bsI (Hd N c)) 6 (fun s => s.1) ?_ (fun k s hk hs => bsI_s hs) ?_ 5 1 n (-nI 1, 0) (by omega) (by omega) (Or.inl ⟨rfl, rfl⟩)
  · intro m k s hk hs
    have et := m_heardBy hM hc hk
    have hb := hB.2.2.2.2.2.2.1 c k hc hk
    unfold bsG
    rcases hs with ⟨q1, q2⟩ | ⟨j, hj, q1, q2⟩
    · by_cases z : s.2 < Hd N c k
      · rw [if_pos z]
        simp (disch := omega) only [f12_heardMost_c4, et, q1, qL, qb, qbl, qadd, qmul, qsubm, qdm, qsub, qdiv, qcl, qlt, qle, qeq, nltT, nltF, nleT, nleF, neqT, neqF, or_false, false_or, or_true, true_or, or_self, and_true, true_and, and_false, false_and, and_self, not_true_eq_false, not_false_eq_true, ↓reduceIte]
      · rw [if_neg z]
        simp (disch := omega) only [f12_heardMost_c4, et, q1, qL, qb, qbl, qadd, qmul, qsubm, qdm, qsub, qdiv, qcl, qlt, qle, qeq, nltT, nltF, nleT, nleF, neqT, neqF, or_false, false_or, or_true, true_or, or_self, and_true, true_and, and_false, false_and, and_self, not_true_eq_false, not_false_eq_true, ↓reduceIte]
    · have et2 := m_heardBy hM hc (k := j) (by omega)
      have hb2 := hB.2.2.2.2.2.2.1 c j hc (by omega)
      have ne := neg_ne (j := j) (by omega)
      by_cases z : s.2 < Hd N c k
      · rw [if_pos z]
        simp (disch := omega) only [f12_heardMost_c4, et, et2, q1, ne, qL, qb, qbl, qadd, qmul, qsubm, qdm, qsub, qdiv, qcl, qlt, qle, qeq, nltT, nltF, nleT, nleF, neqT, neqF, or_false, false_or, or_true, true_or, or_self, and_true, true_and, and_false, false_and, and_self, not_true_eq_false, not_false_eq_true, ↓reduceIte]
      · rw [if_neg z]
        simp (disch := omega) only [f12_heardMost_c4, et, et2, q1, ne, qL, qb, qbl, qadd, qmul, qsubm, qdm, qsub, qdiv, qcl, qlt, qle, qeq, nltT, nltF, nleT, nleF, neqT, neqF, or_false, false_or, or_true, true_or, or_self, and_true, true_and, and_false, false_and, and_self, not_true_eq_false, not_false_eq_true, ↓reduceIte]
  · intro m s hs
    simp (disch := omega) only [f12_heardMost_c4, qL, qb, qbl, qadd, qmul, qsubm, qdm, qsub, qdiv, qcl, qlt, qle, qeq, nltT, nltF, nleT, nleF, neqT, neqF, or_false, false_or, or_true, true_or, or_self, and_true, true_and, and_false, false_and, and_self, not_true_eq_false, not_false_eq_true, ↓reduceIte]
theorem m_of15 (hn : 100000 ≤ n) (hM : MV J O N) (hB : WB N) {c : Nat} (hc : c < 4) (x : Int32) : ∃ m, n = m + 6 ∧ f12_of_c15 n O n J L 331 (nI c) x (nI 0) (nI 1) = f12_of_c15 n O (m + 1) J L 331 (nI c) x (nI (ahN N c)) (nI 6) := by
  obtain ⟨m, hm⟩ : ∃ m, n = m + 6 := ⟨n - 6, by omega⟩
  refine ⟨m, hm, ?_⟩
  have st : ∀ m' k s, k < 6 → s ≤ 99 * k → f12_of_c15 n O (m' + 1) J L 331 (nI c) x (nI s) (nI k) = f12_of_c15 n O m' J L 331 (nI c) x (nI (s + Hd N c k)) (nI (k + 1)) := by
    intro m' k s hk hs
    have et := m_heardBy hM hc hk
    simp (disch := omega) only [f12_of_c15, et, qL, qb, qbl, qadd, qmul, qsubm, qdm, qsub, qdiv, qcl, qlt, qle, qeq, nltT, nltF, nleT, nleF, neqT, neqF, or_false, false_or, or_true, true_or, or_self, and_true, true_and, and_false, false_and, and_self, not_true_eq_false, not_false_eq_true, ↓reduceIte]
  have hb : ∀ k, k < 6 → Hd N c k ≤ 99 := fun k hk => hB.2.2.2.2.2.2.1 c k hc hk
  have h1 := hb 1 (by omega)
  have h2 := hb 2 (by omega)
  have h3 := hb 3 (by omega)
  have h4 := hb 4 (by omega)
  have e0 : f12_of_c15 n O n J L 331 (nI c) x (nI 0) (nI 1) = f12_of_c15 n O (m + 1 + 1 + 1 + 1 + 1 + 1) J L 331 (nI c) x (nI 0) (nI 1) := by
    rw [show m + 1 + 1 + 1 + 1 + 1 + 1 = n by omega]
  rw [e0, st _ 1 _ (by omega) (by omega), st _ 2 _ (by omega) (by omega), st _ 3 _ (by omega) (by omega), st _ 4 _ (by omega) (by omega), st _ 5 _ (by omega) (by omega)]
  rfl
theorem s_of (hn : 100000 ≤ n) (h : RE tX I O) (L : TL) (p1 p2 : Int32) : ∃ (v : Int32) (I1 I2 : TI) (L2 : TL), f11_of n I O 1 p1 p2 = some (v, I1) ∧ f12_of n I1 L O 331 p1 p2 = some (v, I2, L2) ∧ RE tX I2 O := by
  obtain ⟨N, G, e, f, tp, h⟩ := h
  have hO := h.1
  have hV := RW_WV hO h.2.2.2.2.2.2.1
  have hN := h.2.2.2.1
  have hB := NB_WB hN
  have hM := h.2.1
  have hF := RW_fd h.2.2.2.2.2.2.1
  have b0 : N 0 ≤ 5 := hB.1
  have b1 : N 1 ≤ 4 := hB.2.1
  by_cases h1 : inR p1 (N 1)
  · obtain ⟨c, hc, rfl⟩ := inR_of h1
    have ex := x_hasChild hV hB hc
    by_cases z0 : p2 = 0
    · have z0' : p2 = nI 0 := z0
      obtain ⟨lw, l1, l2⟩ := R_lw h
      obtain ⟨I1, e1, x1⟩ := x_learnt hn hO hB l1 hV hc
      have r1 := R0_x tXst h (JN_XF x1)
      have hM1 : MV I1 O N := r1.2.1
      obtain ⟨I2, L2, e2, x2⟩ := m_learnt (L := L) hn hO hB hM1 (LM_fr l2 (x1 334 (by omega) (by omega) (by omega))) (c := c) (by omega)
      obtain ⟨m, hm, e3⟩ := m_of15 (L := L) hn hM1 hB (c := c) (by omega) p2
      refine ⟨nI (lkN N lw c), I1, I2, L2, ?_, ?_, N, G, e, f, tp, R0_m tXst r1 (KN_MF x2)⟩
      · simp (disch := omega) only [f11_of, o_1_0 hO, o_1_1 hO, o_1_2 hO, o_1_3 hO, o_1_4 hO, o_1_5 hO, o_1_6 hO, o_1_7 hO, o_1_8 hO, o_1_9 hO, o_2_0 hO, o_2_1 hO, o_2_2 hO, o_2_3 hO, o_2_4 hO, o_2_5 hO, o_3_0 hO, o_3_1 hO, o_3_2 hO, o_6_0 hO, o_6_1 hO, o_6_2 hO, o_10_0 hO, o_331_0 hO, ex, z0', x_ruling hO hF hN, e1, qL, qb, qbl, qadd, qmul, qsubm, qdm, qsub, qdiv, qcl, qlt, qle, qeq, nltT, nltF, nleT, nleF, neqT, neqF, or_false, false_or, or_true, true_or, or_self, and_true, true_and, and_false, false_and, and_self, not_true_eq_false, not_false_eq_true, ↓reduceIte]
      · unfold f12_of
        rw [m_isChild hM1 hB hc, qb, if_neg (by decide)]
        show f12_of_c15 n O n I1 L 331 (nI c) p2 (nI 0) (nI 1) = _
        rw [e3]
        simp (disch := omega) only [f12_of_c15, z0', e2, qL, qb, qbl, qadd, qmul, qsubm, qdm, qsub, qdiv, qcl, qlt, qle, qeq, nltT, nltF, nleT, nleF, neqT, neqF, or_false, false_or, or_true, true_or, or_self, and_true, true_and, and_false, false_and, and_self, not_true_eq_false, not_false_eq_true, ↓reduceIte]
    have z0' : ¬ p2 = nI 0 := z0
    obtain ⟨m, hm, e3⟩ := m_of15 (L := L) hn hM hB (c := c) (by omega) p2
    have em : f12_of n I L O 331 (nI c) p2 = f12_of_c15 n O (m + 1) I L 331 (nI c) p2 (nI (ahN N c)) (nI 6) := by
      unfold f12_of
      rw [m_isChild hM hB hc, qb, if_neg (by decide)]
      exact e3
    by_cases z1 : p2 = 1
    · have z1' : p2 = nI 1 := z1
      refine ⟨nI (ahN N c), I, I, L, ?_, ?_, N, G, e, f, tp, h⟩
      · simp (disch := omega) only [f11_of, o_1_0 hO, o_1_1 hO, o_1_2 hO, o_1_3 hO, o_1_4 hO, o_1_5 hO, o_1_6 hO, o_1_7 hO, o_1_8 hO, o_1_9 hO, o_2_0 hO, o_2_1 hO, o_2_2 hO, o_2_3 hO, o_2_4 hO, o_2_5 hO, o_3_0 hO, o_3_1 hO, o_3_2 hO, o_6_0 hO, o_6_1 hO, o_6_2 hO, o_10_0 hO, o_331_0 hO, ex, z1', x_allHeard hn hV hB hc, qL, qb, qbl, qadd, qmul, qsubm, qdm, qsub, qdiv, qcl, qlt, qle, qeq, nltT, nltF, nleT, nleF, neqT, neqF, or_false, false_or, or_true, true_or, or_self, and_true, true_and, and_false, false_and, and_self, not_true_eq_false, not_false_eq_true, ↓reduceIte]
      · rw [em]
        simp (disch := omega) only [f12_of_c15, z1', qL, qb, qbl, qadd, qmul, qsubm, qdm, qsub, qdiv, qcl, qlt, qle, qeq, nltT, nltF, nleT, nleF, neqT, neqF, or_false, false_or, or_true, true_or, or_self, and_true, true_and, and_false, false_and, and_self, not_true_eq_false, not_false_eq_true, ↓reduceIte]
    have z1' : ¬ p2 = nI 1 := z1
    by_cases z2 : p2 = 2
    · have z2' : p2 = nI 2 := z2
      refine ⟨(fo (bsG (Hd N c)) 5 1 (-nI 1, 0)).1, I, I, L, ?_, ?_, N, G, e, f, tp, h⟩
      · simp (disch := omega) only [f11_of, o_1_0 hO, o_1_1 hO, o_1_2 hO, o_1_3 hO, o_1_4 hO, o_1_5 hO, o_1_6 hO, o_1_7 hO, o_1_8 hO, o_1_9 hO, o_2_0 hO, o_2_1 hO, o_2_2 hO, o_2_3 hO, o_2_4 hO, o_2_5 hO, o_3_0 hO, o_3_1 hO, o_3_2 hO, o_6_0 hO, o_6_1 hO, o_6_2 hO, o_10_0 hO, o_331_0 hO, ex, z2', x_mostHeard hn hV hB hc, qL, qb, qbl, qadd, qmul, qsubm, qdm, qsub, qdiv, qcl, qlt, qle, qeq, nltT, nltF, nleT, nleF, neqT, neqF, or_false, false_or, or_true, true_or, or_self, and_true, true_and, and_false, false_and, and_self, not_true_eq_false, not_false_eq_true, ↓reduceIte]
      · rw [em]
        simp (disch := omega) only [f12_of_c15, z2', m_heardMost hn hM hB (show c < 4 by omega), qL, qb, qbl, qadd, qmul, qsubm, qdm, qsub, qdiv, qcl, qlt, qle, qeq, nltT, nltF, nleT, nleF, neqT, neqF, or_false, false_or, or_true, true_or, or_self, and_true, true_and, and_false, false_and, and_self, not_true_eq_false, not_false_eq_true, ↓reduceIte]
    have z2' : ¬ p2 = nI 2 := z2
    refine ⟨-1, I, I, L, ?_, ?_, N, G, e, f, tp, h⟩
    · simp (disch := omega) only [f11_of, o_1_0 hO, o_1_1 hO, o_1_2 hO, o_1_3 hO, o_1_4 hO, o_1_5 hO, o_1_6 hO, o_1_7 hO, o_1_8 hO, o_1_9 hO, o_2_0 hO, o_2_1 hO, o_2_2 hO, o_2_3 hO, o_2_4 hO, o_2_5 hO, o_3_0 hO, o_3_1 hO, o_3_2 hO, o_6_0 hO, o_6_1 hO, o_6_2 hO, o_10_0 hO, o_331_0 hO, ex, z0', z1', z2', qL, qb, qbl, qadd, qmul, qsubm, qdm, qsub, qdiv, qcl, qlt, qle, qeq, nltT, nltF, nleT, nleF, neqT, neqF, or_false, false_or, or_true, true_or, or_self, and_true, true_and, and_false, false_and, and_self, not_true_eq_false, not_false_eq_true, ↓reduceIte]
    · rw [em]
      simp (disch := omega) only [f12_of_c15, z0', z1', z2', qL, qb, qbl, qadd, qmul, qsubm, qdm, qsub, qdiv, qcl, qlt, qle, qeq, nltT, nltF, nleT, nleF, neqT, neqF, or_false, false_or, or_true, true_or, or_self, and_true, true_and, and_false, false_and, and_self, not_true_eq_false, not_false_eq_true, ↓reduceIte]
  · refine ⟨-1, I, I, L, ?_, ?_, N, G, e, f, tp, h⟩
    · simp (disch := omega) only [f11_of, o_1_0 hO, o_1_1 hO, o_1_2 hO, o_1_3 hO, o_1_4 hO, o_1_5 hO, o_1_6 hO, o_1_7 hO, o_1_8 hO, o_1_9 hO, o_2_0 hO, o_2_1 hO, o_2_2 hO, o_2_3 hO, o_2_4 hO, o_2_5 hO, o_3_0 hO, o_3_1 hO, o_3_2 hO, o_6_0 hO, o_6_1 hO, o_6_2 hO, o_10_0 hO, o_331_0 hO, x_noChild hV hB h1, qL, qb, qbl, qadd, qmul, qsubm, qdm, qsub, qdiv, qcl, qlt, qle, qeq, nltT, nltF, nleT, nleF, neqT, neqF, or_false, false_or, or_true, true_or, or_self, and_true, true_and, and_false, false_and, and_self, not_true_eq_false, not_false_eq_true, ↓reduceIte]
    · simp (disch := omega) only [f12_of, m_noChild hM hB h1, qL, qb, qbl, qadd, qmul, qsubm, qdm, qsub, qdiv, qcl, qlt, qle, qeq, nltT, nltF, nleT, nleF, neqT, neqF, or_false, false_or, or_true, true_or, or_self, and_true, true_and, and_false, false_and, and_self, not_true_eq_false, not_false_eq_true, ↓reduceIte]
end OX
