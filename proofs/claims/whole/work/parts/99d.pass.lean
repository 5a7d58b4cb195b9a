/-! steps of the class, and of the reference, each on its own -/
def CS (I0 : TI) (I : TI) (N : TN) : Prop := ∃ e, PWm e I0 I N ∧ NB N
def MS (O : TO) (J0 J : TI) (N : TN) : Prop := MV J O N ∧ NB N ∧ JM J0 J
theorem R0_gen {TX : TI → Nat → Prop} {I I1 I2 : TI} {O : TO} {N N' G : TN} {e f tp : Nat} (hT : TXst TX) (h : R0 TX I O N G e f tp) (hX : CS I I1 N') (hM : MS O I1 I2 N') (h2 : N' 2 = N 2) : RE TX I2 O := by
  obtain ⟨e', ⟨x1, x2, x3⟩, hB⟩ := hX
  obtain ⟨m1, -, m2, m3⟩ := hM
  obtain ⟨c1, c2, c3, c4, c5, c6, c7, c8, c9, c10, c11, c12⟩ := h
  have fr : ∀ a, (a < 2 ∨ 136 ≤ a) → a ≠ 283 → a ≠ 284 → a ≠ 285 → a ≠ 331 → a ≠ 332 → a ≠ 337 → a ≠ 339 → I2 a = I a := fun a q1 q2 q3 q4 q5 q6 q7 q8 => by rw [m2 a q5 q6 q7 q8, x3 a q1 q2 q3 q4]
  have f331 : ∀ k, k ≠ 24 → I2 331 k = I 331 k := fun k hk => by rw [m3 k hk, x3 331 (by omega) (by omega) (by omega) (by omega)]
  have i333 := fr 333 (by omega) (by omega) (by omega) (by omega) (by omega) (by omega) (by omega) (by omega)
  have i278 := fr 278 (by omega) (by omega) (by omega) (by omega) (by omega) (by omega) (by omega) (by omega)
  have i279 := fr 279 (by omega) (by omega) (by omega) (by omega) (by omega) (by omega) (by omega) (by omega)
  have i335 := fr 335 (by omega) (by omega) (by omega) (by omega) (by omega) (by omega) (by omega) (by omega)
  have i324 := fr 324 (by omega) (by omega) (by omega) (by omega) (by omega) (by omega) (by omega) (by omega)
  have i334 := fr 334 (by omega) (by omega) (by omega) (by omega) (by omega) (by omega) (by omega) (by omega)
  have i1 := fr 1 (by omega) (by omega) (by omega) (by omega) (by omega) (by omega) (by omega) (by omega)
  refine ⟨N', G, e', f, tp, c1, m1, fun t ht => by rw [i333]; exact c3 t ht, hB, c5, by rw [h2]; exact c6, RW_fr x1 (fun a q1 q2 => m2 a (by omega) (by omega) (by omega) (by omega)), RW_fr c8 (fun a q1 q2 => fr a (by omega) (by omega) (by omega) (by omega) (by omega) (by omega) (by omega) (by omega)), ?_, ?_, by rw [f331 23 (by omega)]; exact c11, fun t ht => hT I I2 t (fun a q1 q2 => fr a (by omega) (by omega) (by omega) (by omega) (by omega) (by omega) (by omega) (by omega)) i334 (c12 t (by rw [h2] at ht; exact ht))⟩
  · unfold TP at *; rw [i278, i279, i335, f331 4 (by omega)]; exact c9
  · unfold FV at *; rw [i1, i324, f331 5 (by omega), f331 6 (by omega)]; exact c10
theorem CS_r {TX : TI → Nat → Prop} {I : TI} {O : TO} {N G : TN} {e f tp : Nat} (h : R0 TX I O N G e f tp) : CS I I N := ⟨e, ⟨h.2.2.2.2.2.2.1, h.2.2.2.1.2.2.2.2.1, fun _ _ _ _ _ => rfl⟩, h.2.2.2.1⟩
theorem MS_r {I1 : TI} {I : TI} {O : TO} {N N' : TN} (hM : MV I O N) (hN : NB N) (hX : CS I I1 N') : MS O I1 I1 N := by
  obtain ⟨e', ⟨x1, x2, x3⟩, hB⟩ := hX
  exact ⟨MV_fr hM (x3 332 (by omega) (by omega) (by omega) (by omega)), hN, JM_r I1⟩
/-- what stays while a world is played in -/
def PJ (N0 N : TN) : Prop := ∀ t, t < 231 → ¬ (7 ≤ t ∧ t < 114) → t ≠ 4 → N t = N0 t
theorem PJ_r (N : TN) : PJ N N := fun _ _ _ _ => rfl
theorem PJ_t {A B C : TN} (h : PJ A B) (k : PJ B C) : PJ A C := fun t h1 h2 h3 => (k t h1 h2 h3).trans (h t h1 h2 h3)
theorem PJ_k {N : TN} (h : N 4 ≤ 30) : PJ N (keepN N) := fun t h1 _ h3 => keepN_o (Or.inl h1) h3 h
theorem PJ_i {N N' : TN} (h : PI N N') : PJ N N' := fun t h1 h2 _ => h.1 t (by omega) (by omega)
theorem PJ_w {N : TN} {r c k : Nat} (h : N 9 ≤ 30) : PJ N (wtN N r c k) := fun t h1 h2 _ => wt_o h (by omega) (by omega)
theorem PJ_u {N : TN} {t v : Nat} (ht : 7 ≤ t ∧ t < 114) : PJ N (upN N t v) := fun t' h1 h2 _ => upN_o _ (by omega)
def pyN (lw : Lws) (r c : Nat) (N : TN) : TN := wtN (plN lw r c N).1 r c (plN lw r c N).2
theorem pyN_ok {lw : Lws} {r c : Nat} {N : TN} (h : NB N) (hr : r < N 0) (hc : c < N 1) : NB (pyN lw r c N) ∧ PJ N (pyN lw r c N) ∧ (plN lw r c N).2 ≤ 16 ∧ pyN lw r c N 7 = N 7 := by
  have hB := NB_WB h
  have b1 := hB.1
  have b2 := hB.2.1
  obtain ⟨p1, p2⟩ := PI_plN (lw := lw) h hr hc
  have b9 := pg_le p1.2
  refine ⟨wr_NB p1.2 (by omega) (by omega) p2, PJ_t (PJ_i p1) (PJ_w b9), p2, ?_⟩
  unfold pyN
  rw [wt_o b9 (by omega) (by omega)]
  exact p1.1 7 (by omega) (by omega)
section ST
variable {n : Nat} {I I0 J J0 : TI} {L : TL} {O : TO} {N : TN} {sx : Option Nat} {lw : Lws}
theorem xc_keep (hO : OF O) (h : CS I0 I N) : ∃ I', f9_keepStep I O 2 = some I' ∧ CS I0 I' (keepN N) := by
  obtain ⟨e, ⟨h1, h2, h3⟩, hN⟩ := h
  obtain ⟨I1, e', k1, k2, k3⟩ := keepX hO h1 h2
  have hN' := keepNB hN
  exact ⟨I1, k1, e', ⟨k2, hN'.2.2.2.2.1, fun a q1 q2 q3 q4 => by rw [k3 a q1]; exact h3 a q1 q2 q3 q4⟩, hN'⟩
theorem xc_play (hn : 100000 ≤ n) (hO : OF O) (hL : LX0 I0 sx lw) (h : CS I0 I N) {r c : Nat} (hr : r < N 0) (hc : c < N 1) : ∃ I', f4_playRoll n I O 286 3 sx (nI r) (nI c) = some (nI (plN lw r c N).2, I') ∧ CS I0 I' (pyN lw r c N) := by
  obtain ⟨e, hP, hN⟩ := h
  have hB := NB_WB hN
  have b1 := hB.1
  have b2 := hB.2.1
  have hLL : ∀ I N, PWm e I0 I N → LX0 I sx lw := fun I N h => LX_fr hL (fun a h1 h2 => h.2.2 a (by omega) (by omega) (by omega) (by omega))
  obtain ⟨I1, p1, p2⟩ := x_play hn hO (PWm_ok hO e I0) hLL hN hP hr hc
  obtain ⟨q1, q2⟩ := PI_plN (lw := lw) hN hr hc
  obtain ⟨I2, w1, w2, w3⟩ := x_write hO q1.2 p1.1 (r := r) (c := c) (k := (plN lw r c N).2) (by omega) (by omega) q2
  obtain ⟨g1, g2, g3, g4⟩ := pyN_ok (lw := lw) hN hr hc
  refine ⟨I2, by rw [p2, w1, qb], e, ⟨w2, g1.2.2.2.2.1, fun a k1 k2 k3 k4 => by rw [w3 a (by omega) (by omega)]; exact p1.2.2 a k1 k2 k3 k4⟩, g1⟩
theorem mc_keep (hn : 100000 ≤ n) (h : MS O J0 J N) : ∃ J', f12_keep n J O 331 = some J' ∧ MS O J0 J' (keepN N) ∧ J' 331 24 = J 331 24 := by
  obtain ⟨h1, h2, h3⟩ := h
  obtain ⟨J', j1, j2, j3⟩ := keepM hn h1 h2.2.2.2.2.1
  exact ⟨J', j3, ⟨j2, keepNB h2, JM_t h3 (JM_w j1)⟩, by rw [j1 331 (by omega)]⟩
theorem mc_play (hn : 100000 ≤ n) (hO : OF O) (hw : J0 331 23 = 1) (hL : LM0 J0 (N 3) lw) (h : MS O J0 J N) {r c : Nat} (hr : r < N 0) (hc : c < N 1) : ∃ J' L', f12_playNow n J L O 331 (nI r) (nI c) = some (J', L') ∧ MS O J0 J' (pyN lw r c N) ∧ J' 331 24 = J 331 24 + nI (plN lw r c N).2 := by
  obtain ⟨h1, hN, h3⟩ := h
  have hB := NB_WB hN
  have b1 := hB.1
  have b2 := hB.2.1
  obtain ⟨J1, L1, p1, p2, p3, p4⟩ := m_play (L := L) hn hO hN h1 (LM_fr hL (h3.1 334 (by omega) (by omega) (by omega) (by omega))) hr hc
  obtain ⟨q1, q2⟩ := PI_plN (lw := lw) hN hr hc
  obtain ⟨J2, w1, w2, w3⟩ := m_write hn q1.2 p1 (by rw [p2.2 23 (by omega), h3.2 23 (by omega)]; exact hw) (r := r) (c := c) (k := (plN lw r c N).2) (by omega) (by omega) q2
  obtain ⟨g1, g2, g3, g4⟩ := pyN_ok (lw := lw) hN hr hc
  exact ⟨J2, L1, by rw [p4, w1, qb], ⟨w2, g1, JM_t h3 (JM_t p2 (JM_w w3))⟩, by rw [w3 331 (by omega)]; exact p3⟩
/-- a Sunday -/
def psR (N : TN) : Nat := N 8 % N 0
def psC (N : TN) : Nat := anX (N 8) % N 1
def psM (N : TN) : TN := upN (upN N 8 (anX (N 8))) 8 (anX (anX (N 8)))
def psN (lw : Lws) (N : TN) : TN := if 0 < N 0 ∧ 0 < N 1 then upN (pyN lw (psR N) (psC N) (psM N)) 7 (N 7 + 1) else upN N 7 (N 7 + 1)
def psK (lw : Lws) (N : TN) : Nat := if 0 < N 0 ∧ 0 < N 1 then (plN lw (psR N) (psC N) (psM N)).2 else 0
theorem psM_ok (hN : NB N) : NB (psM N) ∧ PJ N (psM N) ∧ psM N 7 = N 7 ∧ psM N 0 = N 0 ∧ psM N 1 = N 1 := by
  have h1 := PI_8 (PI_8 (PI_r hN) (anX_lt (N 8))) (anX_lt (anX (N 8)))
  exact ⟨h1.2, PJ_i h1, h1.1 7 (by omega) (by omega), h1.1 0 (by omega) (by omega), h1.1 1 (by omega) (by omega)⟩
theorem psN_ok (hN : NB N) (h7 : N 7 < 9999) : NB (psN lw N) ∧ PJ N (psN lw N) ∧ psN lw N 7 = N 7 + 1 ∧ psK lw N ≤ 16 := by
  unfold psN psK
  by_cases q : 0 < N 0 ∧ 0 < N 1
  · rw [if_pos q, if_pos q]
    obtain ⟨m1, m2, m3, m4, m5⟩ := psM_ok hN
    obtain ⟨g1, g2, g3, g4⟩ := pyN_ok (lw := lw) (r := psR N) (c := psC N) m1 (by rw [m4]; exact Nat.mod_lt _ q.1) (by rw [m5]; exact Nat.mod_lt _ q.2)
    exact ⟨NB_up g1 ⟨by omega, by omega, by omega, by omega, by omega, by omega, by omega⟩ ⟨by omega, by omega, by omega, by omega, by omega, by omega, by omega, by omega, by omega, by omega, by omega⟩, PJ_t (PJ_t m2 g2) (PJ_u (by omega)), upN_s _ _ _, g3⟩
  · rw [if_neg q, if_neg q]
    exact ⟨NB_up hN ⟨by omega, by omega, by omega, by omega, by omega, by omega, by omega⟩ ⟨by omega, by omega, by omega, by omega, by omega, by omega, by omega, by omega, by omega, by omega, by omega⟩, PJ_u (by omega), upN_s _ _ _, Nat.zero_le _⟩
theorem CS_7 (h : CS I0 I N) (h7 : N 7 < 9999) : CS I0 (sI I 6 4 (nI (N 7 + 1))) (upN N 7 (N 7 + 1)) := by
  obtain ⟨e, ⟨⟨h1, h1b⟩, h2, h3⟩, hN⟩ := h
  exact ⟨e, ⟨⟨RWn_up (t := 7) h1 (Or.inl (by omega)), RWs_up (t := 7) h1b h2 (Or.inl (by omega)) (by omega)⟩, by rw [upN_o _ (by omega)]; exact h2, fun a q1 q2 q3 q4 => by rw [sI_o _ _ (by omega)]; exact h3 a q1 q2 q3 q4⟩, NB_up hN ⟨by omega, by omega, by omega, by omega, by omega, by omega, by omega⟩ ⟨by omega, by omega, by omega, by omega, by omega, by omega, by omega, by omega, by omega, by omega, by omega⟩⟩
theorem CS_8 (hO : OF O) (h : CS I0 I N) {v : Nat} (hv : v < 30697) : CS I0 (sI I 6 5 (nI v)) (upN N 8 v) := by
  obtain ⟨e, hP, hN⟩ := h
  exact ⟨e, (PWm_ok hO e I0).2.1 I N v hP, NB_up hN ⟨by omega, by omega, by omega, by omega, by omega, by omega, by omega⟩ ⟨by omega, by omega, by omega, by omega, by omega, by omega, by omega, by omega, by omega, by omega, by omega⟩⟩
theorem MS_u {t v : Nat} (h : MS O J0 J N) (hB : NB (upN N t v)) : MS O J0 (sI J 332 t (nI v)) (upN N t v) := ⟨MV_up h.1, hB, JM_t h.2.2 JM_s⟩
theorem xc_pass (hn : 100000 ≤ n) (hO : OF O) (hL : LX0 I0 sx lw) (h : CS I0 I N) (h7 : N 7 < 9999) : ∃ I', f4_passSunday n I O 286 3 sx = some (nI (psK lw N), I') ∧ CS I0 I' (psN lw N) := by
  have h0 := h
  obtain ⟨e, hP, hN⟩ := h
  have hB := NB_WB hN
  have b1 := hB.1
  have b2 := hB.2.1
  have hW := PWm_ok hO e I0
  have hV := hW.1 I N hP
  have v3 : I 3 3 = nI (N 0) := hV.2.1
  have v4 : I 3 4 = nI (N 1) := hV.2.2.1
  have v7 : I 6 4 = nI (N 7) := hV.2.2.2.2.2.2.2.1
  have o2 := o_3_2 hO
  unfold psN psK
  by_cases q0 : N 0 = 0
  · rw [if_neg (by omega), if_neg (by omega)]
    refine ⟨_, ?_, CS_7 h0 h7⟩
    simp (disch := omega) only [f4_passSunday, v3, o2, v7, qL, qb, qbl, qadd, qmul, qsubm, qdm, qsub, qdiv, qcl, qlt, qle, qeq, nltT, nltF, nleT, nleF, neqT, neqF, or_false, false_or, or_true, true_or, or_self, and_true, true_and, and_false, false_and, and_self, not_true_eq_false, not_false_eq_true, ↓reduceIte]
  by_cases q1 : N 1 = 0
  · rw [if_neg (by omega), if_neg (by omega)]
    refine ⟨_, ?_, CS_7 h0 h7⟩
    simp (disch := omega) only [f4_passSunday, v3, v4, o2, v7, qL, qb, qbl, qadd, qmul, qsubm, qdm, qsub, qdiv, qcl, qlt, qle, qeq, nltT, nltF, nleT, nleF, neqT, neqF, or_false, false_or, or_true, true_or, or_self, and_true, true_and, and_false, false_and, and_self, not_true_eq_false, not_false_eq_true, ↓reduceIte]
  rw [if_pos ⟨by omega, by omega⟩, if_pos ⟨by omega, by omega⟩]
  obtain ⟨m1, m2, m3, m4, m5⟩ := psM_ok hN
  have d1 := x_draw hW hB hP (k := N 0) (by omega) (by omega)
  have hC1 := CS_8 hO h0 (anX_lt (N 8))
  obtain ⟨e1, hP1, hN1⟩ := hC1
  have d2 := x_draw (PWm_ok hO e1 I0) (NB_WB hN1) hP1 (k := N 1) (by omega) (by omega)
  rw [upN_s] at d2
  have hC2 := CS_8 hO ⟨e1, hP1, hN1⟩ (anX_lt (anX (N 8)))
  have hrr : psR N < psM N 0 := by rw [m4]; exact Nat.mod_lt _ (by omega)
  have hcc : psC N < psM N 1 := by rw [m5]; exact Nat.mod_lt _ (by omega)
  obtain ⟨I3, p1, p2⟩ := xc_play (lw := lw) hn hO hL (N := psM N) hC2 hrr hcc
  obtain ⟨g1, g2, g3, g4⟩ := pyN_ok (lw := lw) (r := psR N) (c := psC N) m1 hrr hcc
  have e7 : pyN lw (psR N) (psC N) (psM N) 7 = N 7 := by rw [g4, m3]
  have hC3 := CS_7 p2 (by rw [e7]; exact h7)
  rw [e7] at hC3
  have v7' : I3 6 4 = nI (N 7) := by
    obtain ⟨e3, hP3, -⟩ := p2
    have := ((PWm_ok hO e3 I0).1 _ _ hP3).2.2.2.2.2.2.2.1
    rw [e7] at this; exact this
  have v4' : sI I 6 5 (nI (anX (N 8))) 3 4 = nI (N 1) := by rw [sI_o _ _ (by omega)]; exact v4
  refine ⟨_, ?_, hC3⟩
  unfold f4_passSunday
  rw [v3, if_neg (nI_nle (by omega) (by omega)), v4, if_neg (nI_nle (by omega) (by omega)), o2, d1, qb]
  dsimp only
  rw [v4', d2, qb]
  dsimp only
  rw [show N 8 % N 0 = psR N from rfl, show anX (N 8) % N 1 = psC N from rfl, p1, qb]
  dsimp only
  rw [v7', qbl, nI_1]
theorem mc_pass (hn : 100000 ≤ n) (hO : OF O) (hw : J0 331 23 = 1) (hL : LM0 J0 (N 3) lw) (h : MS O J0 J N) (h7 : N 7 < 9999) : ∃ J' L', f12_pass n J L O 331 = some (J', L') ∧ MS O J0 J' (psN lw N) ∧ J' 331 24 = J 331 24 + nI (psK lw N) := by
  have h0 := h
  obtain ⟨hM, hN, hJ⟩ := h
  have hB := NB_WB hN
  have b1 := hB.1
  have b2 := hB.2.1
  have v3 := hM.2 0 (by omega)
  have v4 := hM.2 1 (by omega)
  have v7 := hM.2 7 (by omega)
  have az : ∀ x : Int32, x + nI 0 = x := fun x => Int32.add_zero x
  unfold psN psK
  by_cases q0 : N 0 = 0
  · rw [if_neg (by omega), if_neg (by omega)]
    refine ⟨_, L, ?_, MS_u h0 (NB_up hN ⟨by omega, by omega, by omega, by omega, by omega, by omega, by omega⟩ ⟨by omega, by omega, by omega, by omega, by omega, by omega, by omega, by omega, by omega, by omega, by omega⟩), by rw [sI_o _ _ (by omega), az]⟩
    simp (disch := omega) only [f12_pass, hM.1, v3, v7, qL, qb, qbl, qadd, qmul, qsubm, qdm, qsub, qdiv, qcl, qlt, qle, qeq, nltT, nltF, nleT, nleF, neqT, neqF, or_false, false_or, or_true, true_or, or_self, and_true, true_and, and_false, false_and, and_self, not_true_eq_false, not_false_eq_true, ↓reduceIte]
  by_cases q1 : N 1 = 0
  · rw [if_neg (by omega), if_neg (by omega)]
    refine ⟨_, L, ?_, MS_u h0 (NB_up hN ⟨by omega, by omega, by omega, by omega, by omega, by omega, by omega⟩ ⟨by omega, by omega, by omega, by omega, by omega, by omega, by omega, by omega, by omega, by omega, by omega⟩), by rw [sI_o _ _ (by omega), az]⟩
    simp (disch := omega) only [f12_pass, hM.1, v3, v4, v7, qL, qb, qbl, qadd, qmul, qsubm, qdm, qsub, qdiv, qcl, qlt, qle, qeq, nltT, nltF, nleT, nleF, neqT, neqF, or_false, false_or, or_true, true_or, or_self, and_true, true_and, and_false, false_and, and_self, not_true_eq_false, not_false_eq_true, ↓reduceIte]
  rw [if_pos ⟨by omega, by omega⟩, if_pos ⟨by omega, by omega⟩]
  obtain ⟨m1, m2, m3, m4, m5⟩ := psM_ok hN
  have d1 := m_drawnBy hM hB (k := N 0) (by omega) (by omega)
  have hC1 := MS_u (t := 8) (v := anX (N 8)) h0 (by have := anX_lt (N 8); exact NB_up hN ⟨by omega, by omega, by omega, by omega, by omega, by omega, by omega⟩ ⟨by omega, by omega, by omega, by omega, by omega, by omega, by omega, by omega, by omega, by omega, by omega⟩)
  have d2 := m_drawnBy hC1.1 (NB_WB hC1.2.1) (k := N 1) (by omega) (by omega)
  rw [upN_s] at d2
  have hC2 := MS_u (t := 8) (v := anX (anX (N 8))) hC1 m1
  have hrr : psR N < psM N 0 := by rw [m4]; exact Nat.mod_lt _ (by omega)
  have hcc : psC N < psM N 1 := by rw [m5]; exact Nat.mod_lt _ (by omega)
  have e3 : psM N 3 = N 3 := m2 3 (by omega) (by omega) (by omega)
  obtain ⟨J3, L3, p1, p2, p3⟩ := mc_play (L := L) (lw := lw) (N := psM N) hn hO hw (by rw [e3]; exact hL) hC2 hrr hcc
  obtain ⟨g1, g2, g3, g4⟩ := pyN_ok (lw := lw) (r := psR N) (c := psC N) m1 hrr hcc
  have e7 : pyN lw (psR N) (psC N) (psM N) 7 = N 7 := by rw [g4, m3]
  have v7' : J3 332 7 = nI (N 7) := by have := p2.1.2 7 (by omega); rw [e7] at this; exact this
  have v4' : sI J 332 8 (nI (anX (N 8))) 332 1 = nI (N 1) := by rw [sI_k _ _ (by omega)]; exact v4
  refine ⟨_, L3, ?_, MS_u p2 (NB_up g1 ⟨by omega, by omega, by omega, by omega, by omega, by omega, by omega⟩ ⟨by omega, by omega, by omega, by omega, by omega, by omega, by omega, by omega, by omega, by omega, by omega⟩), ?_⟩
  · unfold f12_pass
    rw [hM.1, v3, if_neg (nI_nle (by omega) (by omega)), v4, if_neg (nI_nle (by omega) (by omega)), d1, qb]
    dsimp only
    rw [v4', d2, qb]
    dsimp only
    rw [show N 8 % N 0 = psR N from rfl, show anX (N 8) % N 1 = psC N from rfl, p1, qb]
    dsimp only
    rw [v7', qbl, nI_1]
  · rw [sI_o _ _ (by omega), p3, sI_o _ _ (by omega), sI_o _ _ (by omega)]
end ST
