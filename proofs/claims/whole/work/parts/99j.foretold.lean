/-! foretold -/
theorem R0_z {TX : TI → Nat → Prop} {I I' : TI} {O : TO} {N G : TN} {e f tp : Nat} (hT : TXst TX) (h : R0 TX I O N G e f tp) (hM : MV I' O N) (hI : ∀ a, a ≠ 331 → a ≠ 332 → a < 336 → I' a = I a) (hk : ∀ k, k = 4 ∨ k = 5 ∨ k = 6 ∨ k = 23 → I' 331 k = I 331 k) : R0 TX I' O N G e f tp := by
  have h1 : R0 TX (fun a => if a = 332 then I' 332 else I a) O N G e f tp := R0_mut hT h (fun a _ h2 => if_neg h2) (RW_fr h.2.2.2.2.2.2.1 (fun a q1 q2 => if_neg (by omega))) ⟨hM.1, fun t ht => hM.2 t ht⟩ h.2.2.2.1 rfl
  refine R0_m hT h1 ⟨fun a q1 q2 => ?_, fun k q => hk k q⟩
  by_cases z : a = 332
  · subst z; rfl
  · rw [hI a q1 z q2]; exact (if_neg z).symm
def PWe (O : TO) (I0 : TI) (I : TI) (N : TN) : Prop := WV I O 270 271 272 273 274 275 N ∧ (∃ g, g ≤ 30 ∧ I 273 3 = nI g) ∧ ∀ a, (a < 270 ∨ 277 ≤ a) → a ≠ 283 → a ≠ 284 → a ≠ 285 → I a = I0 a
theorem PWe_ok {O : TO} (I0 : TI) : PWok O 270 271 272 273 274 275 (PWe O I0) := by
  refine ⟨fun I N h => h.1, fun I N v h => ?_, fun I N c k v hc hk h => ?_, fun I N r p v hr hp h => ?_, fun I I' N hj h => ?_, by decide⟩
  · obtain ⟨⟨w0, w1, w2, w3, w4, w5, w6, w7, w8⟩, ⟨g, g1, g2⟩, hf⟩ := h
    refine ⟨⟨w0, ?_, ?_, fun r hr => ?_, fun r p hr hp => ?_, fun r p hr hp => ?_, fun c k hc hk => ?_, ?_, ?_⟩, ⟨g, g1, ?_⟩, fun a q1 q2 q3 q4 => ?_⟩
    · rw [sI_o _ _ (by omega), upN_o _ (by omega)]; exact w1
    · rw [sI_o _ _ (by omega), upN_o _ (by omega)]; exact w2
    · rw [sI_o _ _ (by omega), show Ln (upN N 8 v) r = Ln N r from upN_o _ (by omega)]; exact w3 r hr
    · rw [sI_o _ _ (by omega), show K (upN N 8 v) r p = K N r p from upN_o _ (by omega)]; exact w4 r p hr hp
    · rw [sI_o _ _ (by omega), show Wr (upN N 8 v) r p = Wr N r p from upN_o _ (by omega)]; exact w5 r p hr hp
    · rw [sI_o _ _ (by omega), show Hd (upN N 8 v) c k = Hd N c k from upN_o _ (by omega)]; exact w6 c k hc hk
    · rw [sI_k _ _ (by omega), upN_o _ (by omega)]; exact w7
    · rw [sI_s, upN_s]
    · rw [sI_k _ _ (by omega)]; exact g2
    · rw [sI_o _ _ (by omega)]; exact hf a q1 q2 q3 q4
  · obtain ⟨⟨w0, w1, w2, w3, w4, w5, w6, w7, w8⟩, ⟨g, g1, g2⟩, hf⟩ := h
    refine ⟨⟨w0, ?_, ?_, fun r hr => ?_, fun r p hr hp => ?_, fun r p hr hp => ?_, fun c' k' hc' hk' => ?_, ?_, ?_⟩, ⟨g, g1, ?_⟩, fun a q1 q2 q3 q4 => ?_⟩
    · rw [sI_o _ _ (by omega), upN_o _ (by omega)]; exact w1
    · rw [sI_o _ _ (by omega), upN_o _ (by omega)]; exact w2
    · rw [sI_o _ _ (by omega), show Ln (upN N (90 + 6 * c + k) v) r = Ln N r from upN_o _ (by omega)]; exact w3 r hr
    · rw [sI_o _ _ (by omega), show K (upN N (90 + 6 * c + k) v) r p = K N r p from upN_o _ (by omega)]; exact w4 r p hr hp
    · rw [sI_o _ _ (by omega), show Wr (upN N (90 + 6 * c + k) v) r p = Wr N r p from upN_o _ (by omega)]; exact w5 r p hr hp
    · by_cases z : c' = c ∧ k' = k
      · obtain ⟨rfl, rfl⟩ := z
        rw [sI_s, show Hd (upN N (90 + 6 * c' + k') v) c' k' = v from upN_s _ _ _]
      · rw [sI_k _ _ (by omega), show Hd (upN N (90 + 6 * c + k) v) c' k' = Hd N c' k' from upN_o _ (by omega)]; exact w6 c' k' hc' hk'
    · rw [sI_o _ _ (by omega), upN_o _ (by omega)]; exact w7
    · rw [sI_o _ _ (by omega), upN_o _ (by omega)]; exact w8
    · rw [sI_o _ _ (by omega)]; exact g2
    · rw [sI_o _ _ (by omega)]; exact hf a q1 q2 q3 q4
  · obtain ⟨⟨w0, w1, w2, w3, w4, w5, w6, w7, w8⟩, ⟨g, g1, g2⟩, hf⟩ := h
    refine ⟨⟨w0, ?_, ?_, fun r1 hr1 => ?_, fun r1 p1 hr1 hp1 => ?_, fun r' p' hr' hp' => ?_, fun c' k' hc' hk' => ?_, ?_, ?_⟩, ⟨g, g1, ?_⟩, fun a q1 q2 q3 q4 => ?_⟩
    · rw [sI_o _ _ (by omega), upN_o _ (by omega)]; exact w1
    · rw [sI_o _ _ (by omega), upN_o _ (by omega)]; exact w2
    · rw [sI_o _ _ (by omega), show Ln (upN N (10 + 16 * r + p) v) r1 = Ln N r1 from upN_o _ (by omega)]; exact w3 r1 hr1
    · rw [sI_o _ _ (by omega), show K (upN N (10 + 16 * r + p) v) r1 p1 = K N r1 p1 from upN_o _ (by omega)]; exact w4 r1 p1 hr1 hp1
    · by_cases z : r' = r ∧ p' = p
      · obtain ⟨rfl, rfl⟩ := z
        rw [sI_s, show Wr (upN N (10 + 16 * r' + p') v) r' p' = v from upN_s _ _ _]
      · rw [sI_k _ _ (by omega), show Wr (upN N (10 + 16 * r + p) v) r' p' = Wr N r' p' from upN_o _ (by omega)]; exact w5 r' p' hr' hp'
    · rw [sI_o _ _ (by omega), show Hd (upN N (10 + 16 * r + p) v) c' k' = Hd N c' k' from upN_o _ (by omega)]; exact w6 c' k' hc' hk'
    · rw [sI_o _ _ (by omega), upN_o _ (by omega)]; exact w7
    · rw [sI_o _ _ (by omega), upN_o _ (by omega)]; exact w8
    · rw [sI_o _ _ (by omega)]; exact g2
    · rw [sI_o _ _ (by omega)]; exact hf a q1 q2 q3 q4
  · obtain ⟨h1, ⟨g, g1, g2⟩, h3⟩ := h
    exact ⟨WV_g h1 (hj 270 (by omega) (by omega) (by omega)) (hj 271 (by omega) (by omega) (by omega)) (hj 272 (by omega) (by omega) (by omega)) (hj 273 (by omega) (by omega) (by omega)) (hj 274 (by omega) (by omega) (by omega)) (hj 275 (by omega) (by omega) (by omega)), ⟨g, g1, by rw [hj 273 (by omega) (by omega) (by omega)]; exact g2⟩, fun a q1 q2 q3 q4 => by rw [hj a q2 q3 q4]; exact h3 a q1 q2 q3 q4⟩
section FT
variable {n : Nat} {I I0 J J0 : TI} {L : TL} {O : TO} {N : TN} {sx : Option Nat} {lw : Lws}
theorem PWe_7 {v : Nat} (h : PWe O I0 I N) : PWe O I0 (sI I 273 4 (nI v)) (upN N 7 v) := by
  obtain ⟨⟨w0, w1, w2, w3, w4, w5, w6, w7, w8⟩, ⟨g, g1, g2⟩, hf⟩ := h
  refine ⟨⟨w0, ?_, ?_, fun r hr => ?_, fun r p hr hp => ?_, fun r p hr hp => ?_, fun c k hc hk => ?_, ?_, ?_⟩, ⟨g, g1, ?_⟩, fun a q1 q2 q3 q4 => ?_⟩
  · rw [sI_o _ _ (by omega), upN_o _ (by omega)]; exact w1
  · rw [sI_o _ _ (by omega), upN_o _ (by omega)]; exact w2
  · rw [sI_o _ _ (by omega), show Ln (upN N 7 v) r = Ln N r from upN_o _ (by omega)]; exact w3 r hr
  · rw [sI_o _ _ (by omega), show K (upN N 7 v) r p = K N r p from upN_o _ (by omega)]; exact w4 r p hr hp
  · rw [sI_o _ _ (by omega), show Wr (upN N 7 v) r p = Wr N r p from upN_o _ (by omega)]; exact w5 r p hr hp
  · rw [sI_o _ _ (by omega), show Hd (upN N 7 v) c k = Hd N c k from upN_o _ (by omega)]; exact w6 c k hc hk
  · rw [sI_s, upN_s]
  · rw [sI_k _ _ (by omega), upN_o _ (by omega)]; exact w8
  · rw [sI_k _ _ (by omega)]; exact g2
  · rw [sI_o _ _ (by omega)]; exact hf a q1 q2 q3 q4
theorem PWe_f {I' : TI} {g : Nat} (h : PWe O I0 I N) (hg : g ≤ 30) (h3 : I' 273 3 = nI g) (hk : ∀ k, k ≠ 3 → I' 273 k = I 273 k) (hf : ∀ a, a ≠ 273 → a ≠ 276 → I' a = I a) : PWe O I0 I' N := by
  obtain ⟨⟨w0, w1, w2, w3, w4, w5, w6, w7, w8⟩, -, hff⟩ := h
  exact ⟨⟨w0, by rw [hf 270 (by omega) (by omega)]; exact w1, by rw [hf 270 (by omega) (by omega)]; exact w2, fun r hr => by rw [hf 271 (by omega) (by omega)]; exact w3 r hr, fun r p hr hp => by rw [hf 272 (by omega) (by omega)]; exact w4 r p hr hp, fun r p hr hp => by rw [hf 274 (by omega) (by omega)]; exact w5 r p hr hp, fun c k hc hk => by rw [hf 275 (by omega) (by omega)]; exact w6 c k hc hk, by rw [hk 4 (by omega)]; exact w7, by rw [hk 5 (by omega)]; exact w8⟩, ⟨g, hg, h3⟩, fun a q1 q2 q3 q4 => by rw [hf a (by omega) (by omega)]; exact hff a q1 q2 q3 q4⟩
theorem e_write (hO : OF O) (h : PWe O I0 I N) (a b c : Int32) : ∃ I', f3_write I O 273 a b c = some I' ∧ PWe O I0 I' N := by
  obtain ⟨g, g1, g2⟩ := h.2.1
  have oo := o_273_2 hO
  by_cases z : g < 30
  · refine ⟨_, ?_, PWe_f h (g := g + 1) (I' := sI (sI I 276 g ((((((I 273 4) * 5) + a) * 4) + b) * 17 + c)) 273 3 (nI (g + 1))) (by omega) (by rw [sI_s]) (fun k hk => by rw [sI_k _ _ hk, sI_o _ _ (by omega)]) (fun a' q1 q2 => by rw [sI_o _ _ q1, sI_o _ _ q2])⟩
    have e3 : sI I 276 g ((((((I 273 4) * 5) + a) * 4) + b) * 17 + c) 273 3 = nI g := by rw [sI_o _ _ (by omega)]; exact g2
    unfold f3_write
    rw [g2, if_pos (show nI g < 30 from (nI_ltI (b := 30) (by omega) (by omega)).mpr z)]
    unfold f3_write_c30
    rw [g2, if_neg (nI_in (by omega) (by omega)), oo, qcl (by omega), qbl, e3, qbl, nI_1]
  · have hg : g = 30 := by omega
    subst hg
    refine ⟨_, ?_, PWe_f h (g := 30) (I' := sI (sI (sI (cpI I 276 276 1 0 29) 273 3 29) 276 29 ((((((I 273 4) * 5) + a) * 4) + b) * 17 + c)) 273 3 (nI (29 + 1))) (by omega) (by rw [sI_s]) (fun k hk => by rw [sI_k _ _ hk, sI_o _ _ (by omega), sI_k _ _ hk, cp_o _ (by omega)]) (fun a' q1 q2 => by rw [sI_o _ _ q1, sI_o _ _ q2, sI_o _ _ q1, cp_o _ q2])⟩
    have e3 : sI (cpI I 276 276 1 0 29) 273 3 29 273 3 = nI 29 := by rw [sI_s]; rfl
    have e4 : sI (cpI I 276 276 1 0 29) 273 3 29 273 4 = I 273 4 := by rw [sI_k _ _ (by omega), cp_o _ (by omega)]
    have e5 : sI (sI (cpI I 276 276 1 0 29) 273 3 29) 276 29 ((((((I 273 4) * 5) + a) * 4) + b) * 17 + c) 273 3 = nI 29 := by rw [sI_o _ _ (by omega)]; exact e3
    unfold f3_write
    rw [g2, if_neg (show ¬ nI 30 < 30 by decide), oo, qbl, qbl]
    unfold f3_write_c30
    rw [e3, if_neg (nI_in (by omega) (by omega)), oo, qcl (by omega), e4, qbl, e5, qbl, nI_1]
def fpN (lw : Lws) (N : TN) : TN := if 0 < N 0 ∧ 0 < N 1 then upN (plN lw (psR N) (psC N) (psM N)).1 7 (N 7 + 1) else upN N 7 (N 7 + 1)
def FX (N0 N : TN) : Prop := ∀ t, ¬ (7 ≤ t ∧ t < 114) → N t = N0 t
theorem FX_t {A B C : TN} (h : FX A B) (k : FX B C) : FX A C := fun t q => (k t q).trans (h t q)
theorem FX_i {A B : TN} (h : PI A B) : FX A B := fun t q => h.1 t (by omega) (by omega)
theorem FX_u {t v : Nat} (ht : 7 ≤ t ∧ t < 114) : FX N (upN N t v) := fun t' q => upN_o _ (by omega)
theorem fpN_ok (hN : NB N) (h7 : N 7 < 9999) : NB (fpN lw N) ∧ FX N (fpN lw N) := by
  unfold fpN
  by_cases q : 0 < N 0 ∧ 0 < N 1
  · rw [if_pos q]
    obtain ⟨m1, m2, m3, m4, m5⟩ := psM_ok hN
    have h1 := PI_8 (PI_8 (PI_r hN) (anX_lt (N 8))) (anX_lt (anX (N 8)))
    obtain ⟨q1, q2⟩ := PI_plN (lw := lw) (r := psR N) (c := psC N) m1 (by rw [m4]; exact Nat.mod_lt _ q.1) (by rw [m5]; exact Nat.mod_lt _ q.2)
    have g1 := q1.2
    exact ⟨NB_up g1 ⟨by omega, by omega, by omega, by omega, by omega, by omega, by omega⟩ ⟨by omega, by omega, by omega, by omega, by omega, by omega, by omega, by omega, by omega, by omega, by omega⟩, FX_t (FX_i (A := N) h1) (FX_t (FX_i q1) (FX_u (by omega)))⟩
  · rw [if_neg q]
    exact ⟨NB_up hN ⟨by omega, by omega, by omega, by omega, by omega, by omega, by omega⟩ ⟨by omega, by omega, by omega, by omega, by omega, by omega, by omega, by omega, by omega, by omega, by omega⟩, FX_u (by omega)⟩
theorem ec_pass (hn : 100000 ≤ n) (hO : OF O) (hL : LX0 I0 sx lw) (hN : NB N) (hP : PWe O I0 I N) (h7 : N 7 < 9999) : ∃ I' v, f4_passSunday n I O 286 270 sx = some (v, I') ∧ PWe O I0 I' (fpN lw N) := by
  have hB := NB_WB hN
  have b1 := hB.1
  have b2 := hB.2.1
  have hW := PWe_ok (O := O) I0
  have hV := hP.1
  have v3 : I 270 3 = nI (N 0) := hV.2.1
  have v4 : I 270 4 = nI (N 1) := hV.2.2.1
  have v7 : I 273 4 = nI (N 7) := hV.2.2.2.2.2.2.2.1
  have o2 := o_270_2 hO
  unfold fpN
  by_cases q0 : N 0 = 0
  · rw [if_neg (by omega)]
    refine ⟨_, 0, ?_, PWe_7 hP⟩
    simp (disch := omega) only [f4_passSunday, v3, o2, v7, qL, qb, qbl, qadd, qmul, qsubm, qdm, qsub, qdiv, qcl, qlt, qle, qeq, nltT, nltF, nleT, nleF, neqT, neqF, or_false, false_or, or_true, true_or, or_self, and_true, true_and, and_false, false_and, and_self, not_true_eq_false, not_false_eq_true, ↓reduceIte]
  by_cases q1 : N 1 = 0
  · rw [if_neg (by omega)]
    refine ⟨_, 0, ?_, PWe_7 hP⟩
    simp (disch := omega) only [f4_passSunday, v3, v4, o2, v7, qL, qb, qbl, qadd, qmul, qsubm, qdm, qsub, qdiv, qcl, qlt, qle, qeq, nltT, nltF, nleT, nleF, neqT, neqF, or_false, false_or, or_true, true_or, or_self, and_true, true_and, and_false, false_and, and_self, not_true_eq_false, not_false_eq_true, ↓reduceIte]
  rw [if_pos ⟨by omega, by omega⟩]
  obtain ⟨m1, m2, m3, m4, m5⟩ := psM_ok hN
  have d1 := x_draw hW hB hP (k := N 0) (by omega) (by omega)
  have hP1 := hW.2.1 I N (anX (N 8)) hP
  have hN1 : NB (upN N 8 (anX (N 8))) := (PI_8 (PI_r hN) (anX_lt (N 8))).2
  have d2 := x_draw hW (NB_WB hN1) hP1 (k := N 1) (by omega) (by omega)
  rw [upN_s] at d2
  have hP2 := hW.2.1 _ _ (anX (anX (N 8))) hP1
  have hrr : psR N < psM N 0 := by rw [m4]; exact Nat.mod_lt _ (by omega)
  have hcc : psC N < psM N 1 := by rw [m5]; exact Nat.mod_lt _ (by omega)
  have hLL : ∀ I N, PWe O I0 I N → LX0 I sx lw := fun I N h => LX_fr hL (fun a h1 h2 => h.2.2 a (by omega) (by omega) (by omega) (by omega))
  obtain ⟨I3, p1, p2⟩ := x_play hn hO hW hLL (N := psM N) m1 hP2 hrr hcc
  obtain ⟨I4, c1, c2⟩ := e_write hO p1 (nI (psR N)) (nI (psC N)) (nI (plN lw (psR N) (psC N) (psM N)).2)
  obtain ⟨g1, -⟩ := PI_plN (lw := lw) (r := psR N) (c := psC N) m1 hrr hcc
  have e7 : (plN lw (psR N) (psC N) (psM N)).1 7 = N 7 := by rw [g1.1 7 (by omega) (by omega), m3]
  have v7' : I4 273 4 = nI (N 7) := by
    have := c2.1.2.2.2.2.2.2.2.1
    rw [e7] at this; exact this
  have v4' : sI I 273 5 (nI (anX (N 8))) 270 4 = nI (N 1) := by rw [sI_o _ _ (by omega)]; exact v4
  refine ⟨_, nI (plN lw (psR N) (psC N) (psM N)).2, ?_, PWe_7 c2⟩
  rw [c1, qb] at p2
  unfold f4_passSunday
  rw [v3, if_neg (nI_nle (by omega) (by omega)), v4, if_neg (nI_nle (by omega) (by omega)), o2, d1, qb]
  dsimp only
  rw [v4', d2, qb]
  dsimp only
  rw [show N 8 % N 0 = psR N from rfl, show anX (N 8) % N 1 = psC N from rfl, p2, qb]
  dsimp only
  rw [v7', qbl, nI_1]
theorem mc_pass0 (hn : 100000 ≤ n) (hO : OF O) (hw : J0 331 23 = 0) (hL : LM0 J0 (N 3) lw) (h : MS O J0 J N) (h7 : N 7 < 9999) : ∃ J' L', f12_pass n J L O 331 = some (J', L') ∧ MS O J0 J' (fpN lw N) := by
  have h0 := h
  obtain ⟨hM, hN, hJ⟩ := h
  have hB := NB_WB hN
  have b1 := hB.1
  have b2 := hB.2.1
  have v3 := hM.2 0 (by omega)
  have v4 := hM.2 1 (by omega)
  have v7 := hM.2 7 (by omega)
  have ok := (fpN_ok (lw := lw) hN h7).1
  unfold fpN at ok ⊢
  by_cases q0 : N 0 = 0
  · rw [if_neg (by omega)] at ok ⊢
    refine ⟨_, L, ?_, MS_u h0 ok⟩
    simp (disch := omega) only [f12_pass, hM.1, v3, v7, qL, qb, qbl, qadd, qmul, qsubm, qdm, qsub, qdiv, qcl, qlt, qle, qeq, nltT, nltF, nleT, nleF, neqT, neqF, or_false, false_or, or_true, true_or, or_self, and_true, true_and, and_false, false_and, and_self, not_true_eq_false, not_false_eq_true, ↓reduceIte]
  by_cases q1 : N 1 = 0
  · rw [if_neg (by omega)] at ok ⊢
    refine ⟨_, L, ?_, MS_u h0 ok⟩
    simp (disch := omega) only [f12_pass, hM.1, v3, v4, v7, qL, qb, qbl, qadd, qmul, qsubm, qdm, qsub, qdiv, qcl, qlt, qle, qeq, nltT, nltF, nleT, nleF, neqT, neqF, or_false, false_or, or_true, true_or, or_self, and_true, true_and, and_false, false_and, and_self, not_true_eq_false, not_false_eq_true, ↓reduceIte]
  rw [if_pos ⟨by omega, by omega⟩] at ok ⊢
  obtain ⟨m1, m2, m3, m4, m5⟩ := psM_ok hN
  have d1 := m_drawnBy hM hB (k := N 0) (by omega) (by omega)
  have hC1 := MS_u (t := 8) (v := anX (N 8)) h0 (PI_8 (PI_r hN) (anX_lt (N 8))).2
  have d2 := m_drawnBy hC1.1 (NB_WB hC1.2.1) (k := N 1) (by omega) (by omega)
  rw [upN_s] at d2
  have hC2 := MS_u (t := 8) (v := anX (anX (N 8))) hC1 m1
  have hrr : psR N < psM N 0 := by rw [m4]; exact Nat.mod_lt _ (by omega)
  have hcc : psC N < psM N 1 := by rw [m5]; exact Nat.mod_lt _ (by omega)
  have e3 : psM N 3 = N 3 := m2 3 (by omega) (by omega) (by omega)
  obtain ⟨J3, L3, p1, p2, p3, p4⟩ := m_play (L := L) (lw := lw) (N := psM N) hn hO m1 hC2.1 (by rw [e3]; exact LM_fr hL (hC2.2.2.1 334 (by omega) (by omega) (by omega) (by omega))) hrr hcc
  have w0 : J3 331 23 = 0 := by rw [p2.2 23 (by omega), hC2.2.2.2 23 (by omega)]; exact hw
  have ew : f12_write n J3 O 331 (nI (psR N)) (nI (psC N)) (nI (plN lw (psR N) (psC N) (psM N)).2) = some J3 := by
    unfold f12_write
    rw [w0, if_pos rfl]
  rw [ew, qb] at p4
  obtain ⟨g1, -⟩ := PI_plN (lw := lw) (r := psR N) (c := psC N) m1 hrr hcc
  have e7 : (plN lw (psR N) (psC N) (psM N)).1 7 = N 7 := by rw [g1.1 7 (by omega) (by omega), m3]
  have v7' : J3 332 7 = nI (N 7) := by have := p1.2 7 (by omega); rw [e7] at this; exact this
  have v4' : sI J 332 8 (nI (anX (N 8))) 332 1 = nI (N 1) := by rw [sI_k _ _ (by omega)]; exact v4
  refine ⟨_, L3, ?_, MS_u ⟨p1, g1.2, JM_t hC2.2.2 p2⟩ ok⟩
  unfold f12_pass
  rw [hM.1, v3, if_neg (nI_nle (by omega) (by omega)), v4, if_neg (nI_nle (by omega) (by omega)), d1, qb]
  dsimp only
  rw [v4', d2, qb]
  dsimp only
  rw [show N 8 % N 0 = psR N from rfl, show anX (N 8) % N 1 = psC N from rfl, p4, qb]
  dsimp only
  rw [v7', qbl, nI_1]
def fp1 (lw : Lws) (_ : Nat) (N : TN) : TN := if N 7 < 9999 then fpN lw N else N
theorem fp1_t {k : Nat} (h : N 7 < 9999) : fp1 lw k N = fpN lw N := if_pos h
theorem fp1_f {k : Nat} (h : ¬ N 7 < 9999) : fp1 lw k N = N := if_neg h
theorem fp1_ok {k : Nat} (hN : NB N) : NB (fp1 lw k N) ∧ FX N (fp1 lw k N) := by
  unfold fp1
  split
  · next h => exact fpN_ok hN h
  · exact ⟨hN, fun _ _ => rfl⟩
theorem fp_ok (hN : NB N) : ∀ d, NB (fo (fp1 lw) d 0 N) ∧ FX N (fo (fp1 lw) d 0 N) := by
  intro d
  induction d with
  | zero => exact ⟨hN, fun _ _ => rfl⟩
  | succ d ih =>
    rw [fo_s]
    have := fp1_ok (lw := lw) (k := 0 + d) ih.1
    exact ⟨this.1, FX_t ih.2 this.2⟩
theorem fp_end {k : Nat} (h : ¬ fo (fp1 lw) k 0 N 7 < 9999) : ∀ d, fo (fp1 lw) (k + d) 0 N = fo (fp1 lw) k 0 N := by
  intro d
  induction d with
  | zero => rfl
  | succ d ih =>
    rw [show k + (d + 1) = k + d + 1 from rfl, fo_s, ih, fp1_f h]
theorem x_fore (hn : 100000 ≤ n) (hO : OF O) (hN : NB N) (hF : FD I0 N) (hL : LX0 I0 (rlX N) lw) (hP : PWe O I0 I N) {x c k : Nat} (hx : x ≤ 60) (hc : c < N 1) (h1 : 1 ≤ k) (hk : k < 6) : ∃ I', f11_foretold_c46 n O n I 1 (nI x) (nI c) (nI k) (nI 0) = some (nI (Hd (fo (fp1 lw) x 0 N) c k), I') ∧ ∀ a, (a < 270 ∨ 277 ≤ a) → a ≠ 283 → a ≠ 284 → a ≠ 285 → I' a = I0 a := by
  have o12 := o_1_2 hO
  have o17 := o_1_7 hO
  have o27 := o_270_2 hO
  refine lpR (L := fun m j (s : TI) => f11_foretold_c46 n O m s 1 (nI x) (nI c) (nI k) (nI j)) (fun j s => j ≤ x ∧ PWe O I0 s (fo (fp1 lw) j 0 N)) (fun res => ∃ I', res = some (nI (Hd (fo (fp1 lw) x 0 N) c k), I') ∧ ∀ a, (a < 270 ∨ 277 ≤ a) → a ≠ 283 → a ≠ 284 → a ≠ 285 → I' a = I0 a) x ?_ ?_ x 0 n I (by omega) (by omega) ⟨Nat.zero_le _, hP⟩
  · intro m j s hj ⟨k0, k1⟩
    obtain ⟨ok1, ok2⟩ := fp_ok (lw := lw) hN j
    have hB := NB_WB ok1
    have v7 : s 273 4 = nI (fo (fp1 lw) j 0 N 7) := k1.1.2.2.2.2.2.2.2.1
    have b7 := hB.2.2.2.2.2.2.2.2.1
    have nj : ¬ nI x ≤ nI j := nle_i (by omega) (by omega) hj
    by_cases z : fo (fp1 lw) j 0 N 7 < 9999
    · left
      have hr : f11_ruling s O 1 = some (rlX N) := x_ruling hO (FD_fr hF (fun a ha => k1.2.2 a (by omega) (by omega) (by omega) (by omega))) hN
      obtain ⟨I2, v, p1, p2⟩ := ec_pass (lw := lw) hn hO hL ok1 k1 z
      refine ⟨I2, ⟨by omega, ?_⟩, ?_⟩
      · rw [fo_s, fp1_t z]; exact p2
      · show f11_foretold_c46 n O (m + 1) s 1 (nI x) (nI c) (nI k) (nI j) = f11_foretold_c46 n O m I2 1 (nI x) (nI c) (nI k) (nI (j + 1))
        rw [f11_foretold_c46, if_neg nj, o12, o27, v7, if_neg (show ¬ (9999 : Int32) ≤ nI _ from nle_i (a := 9999) (by omega) (by omega) z), hr, qb, o17, p1, qb, nI_1]
    · right
      have hh := x_heardBy k1.1 hB (c := c) (k := k) (by rw [ok2 1 (by omega)]; exact hc) h1 hk
      have ee : fo (fp1 lw) x 0 N = fo (fp1 lw) j 0 N := by
        have := fp_end z (x - j)
        rw [show j + (x - j) = x by omega] at this; exact this
      refine ⟨s, ?_, k1.2.2⟩
      rw [ee]
      show f11_foretold_c46 n O (m + 1) s 1 (nI x) (nI c) (nI k) (nI j) = _
      rw [f11_foretold_c46, if_neg nj, o12, o27, v7, if_pos (show (9999 : Int32) ≤ nI _ from (nI_leI (a := 9999) (by omega) (by omega)).mpr (by omega)), hh, qb]
  · intro m s ⟨k0, k1⟩
    obtain ⟨ok1, ok2⟩ := fp_ok (lw := lw) hN x
    have hh := x_heardBy k1.1 (NB_WB ok1) (c := c) (k := k) (by rw [ok2 1 (by omega)]; exact hc) h1 hk
    refine ⟨s, ?_, k1.2.2⟩
    show f11_foretold_c46 n O (m + 1) s 1 (nI x) (nI c) (nI k) (nI x) = _
    rw [f11_foretold_c46, if_pos (Int32.le_refl _), o12, hh, qb]
theorem m_fore109 (hO : OF O) {N' : TN} (hX : FX N N') {v : Int32} : ∀ d y m J, y + d = 114 → 7 ≤ y → d < m → (∀ t, t < 4371 → J 332 t = nI (if 7 ≤ t ∧ t < y then N t else N' t)) → (∀ t, 7 ≤ t → t < 114 → J 340 t = nI (N t)) → ∃ J', f12_foretold_c109 n O m J L 331 v (nI y) = some (v, J', L) ∧ MV J' O N ∧ J' 331 = sI J 331 23 1 331 ∧ ∀ a, a ≠ 331 → a ≠ 332 → J' a = J a := by
  intro d
  induction d with
  | zero =>
    intro y m J hy h7 hm hM h4
    obtain ⟨m, rfl⟩ : ∃ m', m = m' + 1 := ⟨m - 1, by omega⟩
    have : y = 114 := by omega
    subst this
    refine ⟨sI J 331 23 1, ?_, ⟨o_331_0 hO, fun t ht => ?_⟩, rfl, fun a q1 q2 => sI_o _ _ q1⟩
    · rw [f12_foretold_c109, if_pos (show (114 : Int32) ≤ nI 114 by decide), qbl]
    · rw [sI_o _ _ (by omega), hM t ht]
      split
      · rfl
      · rw [hX t (by omega)]
  | succ d ih =>
    intro y m J hy h7 hm hM h4
    obtain ⟨m, rfl⟩ : ∃ m', m = m' + 1 := ⟨m - 1, by omega⟩
    have e4 := h4 y h7 (by omega)
    obtain ⟨J', a1, a2, a3, a4⟩ := ih (y + 1) m (sI J 332 y (nI (N y))) (by omega) (by omega) (by omega) (fun t ht => by
      by_cases z : t = y
      · subst z; rw [sI_s, if_pos (by omega)]
      · rw [sI_k _ _ z, hM t ht]
        by_cases q : 7 ≤ t ∧ t < y
        · rw [if_pos q, if_pos (by omega)]
        · rw [if_neg q, if_neg (by omega)]) (fun t q1 q2 => by rw [sI_o _ _ (by omega)]; exact h4 t q1 q2)
    refine ⟨J', ?_, a2, ?_, fun a q1 q2 => by rw [a4 a q1 q2, sI_o _ _ q2]⟩
    · rw [← a1, f12_foretold_c109, if_neg (show ¬ (114 : Int32) ≤ nI y from nle_i (a := 114) (by omega) (by omega) (by omega)), if_neg (nI_in (N := 114) (by omega) (by omega)), if_neg (nI_in (by omega) (by omega)), o_331_0 hO, o_331_25 hO, qcl (by omega), e4, qbl, nI_1]
    · rw [a3]
      funext j
      by_cases z : j = 23
      · subst z; rw [sI_s, sI_s]
      · rw [sI_k _ _ z, sI_k _ _ z, sI_o _ _ (by omega)]
theorem m_fore68 (hn : 100000 ≤ n) (hO : OF O) (hN : NB N) (hw : J0 331 23 = 0) (hL : LM0 J0 (N 3) lw) (h : MS O J0 J N) (h4 : ∀ t, 7 ≤ t → t < 114 → J0 340 t = nI (N t)) {x c k : Nat} (hx : x ≤ 60) (hc : c < 4) (hk : k < 6) : ∃ J' L', f12_foretold_c68 n O n J L 331 (nI x) (nI c) (nI k) (nI 0) = some (nI (Hd (fo (fp1 lw) x 0 N) c k), J', L') ∧ MV J' O N ∧ J' 331 23 = 1 ∧ (∀ j, j ≠ 23 → j ≠ 24 → J' 331 j = J0 331 j) ∧ ∀ a, a ≠ 331 → a ≠ 332 → a ≠ 337 → a ≠ 339 → J' a = J0 a := by
  refine lpR (L := fun m j (s : TI × TL) => f12_foretold_c68 n O m s.1 s.2 331 (nI x) (nI c) (nI k) (nI j)) (fun j s => j ≤ x ∧ MS O J0 s.1 (fo (fp1 lw) j 0 N)) (fun res => ∃ J' L', res = some (nI (Hd (fo (fp1 lw) x 0 N) c k), J', L') ∧ MV J' O N ∧ J' 331 23 = 1 ∧ (∀ j, j ≠ 23 → j ≠ 24 → J' 331 j = J0 331 j) ∧ ∀ a, a ≠ 331 → a ≠ 332 → a ≠ 337 → a ≠ 339 → J' a = J0 a) x ?_ ?_ x 0 n (J, L) (by omega) (by omega) ⟨Nat.zero_le _, h⟩
  · intro m j s hj ⟨k0, k1⟩
    left
    obtain ⟨ok1, ok2⟩ := fp_ok (lw := lw) hN j
    have v7 := k1.1.2 7 (by omega)
    have b7 := (NB_WB ok1).2.2.2.2.2.2.2.2.1
    have nj : ¬ nI x ≤ nI j := nle_i (by omega) (by omega) hj
    by_cases z : fo (fp1 lw) j 0 N 7 < 9999
    · obtain ⟨J2, L2, p1, p2⟩ := mc_pass0 (L := s.2) (lw := lw) hn hO hw (by rw [ok2 3 (by omega)]; exact hL) k1 z
      refine ⟨(J2, L2), ⟨by omega, ?_⟩, ?_⟩
      · rw [fo_s, fp1_t z]; exact p2
      · show f12_foretold_c68 n O (m + 1) s.1 s.2 331 (nI x) (nI c) (nI k) (nI j) = f12_foretold_c68 n O m J2 L2 331 (nI x) (nI c) (nI k) (nI (j + 1))
        rw [f12_foretold_c68, if_neg nj, o_331_0 hO, v7, if_neg (show ¬ (9999 : Int32) ≤ nI _ from nle_i (a := 9999) (by omega) (by omega) z), p1, qb, nI_1]
    · refine ⟨s, ⟨by omega, ?_⟩, ?_⟩
      · rw [fo_s, fp1_f z]; exact k1
      · show f12_foretold_c68 n O (m + 1) s.1 s.2 331 (nI x) (nI c) (nI k) (nI j) = f12_foretold_c68 n O m s.1 s.2 331 (nI x) (nI c) (nI k) (nI (j + 1))
        rw [f12_foretold_c68, if_neg nj, o_331_0 hO, v7, if_pos (show (9999 : Int32) ≤ nI _ from (nI_leI (a := 9999) (by omega) (by omega)).mpr (by omega)), nI_1]
  · intro m s ⟨k0, k1⟩
    obtain ⟨ok1, ok2⟩ := fp_ok (lw := lw) hN x
    have hh := m_heardBy k1.1 hc hk
    obtain ⟨J', a1, a2, a3, a4⟩ := m_fore109 (n := n) (L := s.2) hO ok2 (v := nI (Hd (fo (fp1 lw) x 0 N) c k)) 107 7 n s.1 (by omega) (by omega) (by omega) (fun t ht => by rw [if_neg (by omega)]; exact k1.1.2 t ht) (fun t q1 q2 => by rw [k1.2.2.1 340 (by omega) (by omega) (by omega) (by omega)]; exact h4 t q1 q2)
    refine ⟨J', s.2, ?_, a2, by rw [a3, sI_s], fun j q1 q2 => by rw [a3, sI_k _ _ q1]; exact k1.2.2.2 j q2, fun a q1 q2 q3 q4 => by rw [a4 a q1 q2]; exact k1.2.2.1 a q1 q2 q3 q4⟩
    show f12_foretold_c68 n O (m + 1) s.1 s.2 331 (nI x) (nI c) (nI k) (nI x) = _
    rw [f12_foretold_c68, if_pos (Int32.le_refl _), hh, qb]
    exact a1
theorem m_fore33 (hO : OF O) (hM : MV J O N) {x c k : Int32} : ∀ d y m J1, y + d = 114 → 7 ≤ y → d < m → (∀ a, a ≠ 340 → J1 a = J a) → (∀ t, 7 ≤ t → t < y → J1 340 t = nI (N t)) → ∃ J', f12_foretold_c33 n O m J1 L 331 x c k (nI y) = f12_foretold_c68 n O n (sI J' 331 23 0) L 331 x c k (nI 0) ∧ (∀ a, a ≠ 340 → J' a = J a) ∧ ∀ t, 7 ≤ t → t < 114 → J' 340 t = nI (N t) := by
  intro d
  induction d with
  | zero =>
    intro y m J1 hy h7 hm h0 h4
    obtain ⟨m, rfl⟩ : ∃ m', m = m' + 1 := ⟨m - 1, by omega⟩
    have : y = 114 := by omega
    subst this
    refine ⟨J1, ?_, h0, h4⟩
    rw [f12_foretold_c33, if_pos (show (114 : Int32) ≤ nI 114 by decide), qbl]; rfl
  | succ d ih =>
    intro y m J1 hy h7 hm h0 h4
    obtain ⟨m, rfl⟩ : ∃ m', m = m' + 1 := ⟨m - 1, by omega⟩
    have e1 : J1 332 y = nI (N y) := by rw [h0 332 (by omega)]; exact hM.2 y (by omega)
    obtain ⟨J', a1, a2, a3⟩ := ih (y + 1) m (sI J1 340 y (nI (N y))) (by omega) (by omega) (by omega) (fun a ha => by rw [sI_o _ _ ha]; exact h0 a ha) (fun t q1 q2 => by
      by_cases z : t = y
      · subst z; rw [sI_s]
      · rw [sI_k _ _ z]; exact h4 t q1 (by omega))
    refine ⟨J', ?_, a2, a3⟩
    rw [← a1, f12_foretold_c33, if_neg (show ¬ (114 : Int32) ≤ nI y from nle_i (a := 114) (by omega) (by omega) (by omega)), if_neg (nI_in (by omega) (by omega)), if_neg (nI_in (N := 114) (by omega) (by omega)), o_331_0 hO, o_331_25 hO, qcl (by omega), e1, qbl, nI_1]
end FT
