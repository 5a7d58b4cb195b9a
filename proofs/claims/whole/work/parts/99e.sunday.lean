/-! play, sunday, years -/
theorem rlX_e {N N' : TN} (h : N' 3 = N 3) : rlX N' = rlX N := by unfold rlX; rw [h]
theorem CS_rul {I0 I : TI} {O : TO} {N : TN} (hO : OF O) (h : CS I0 I N) : f11_ruling I O 1 = some (rlX N) := by
  obtain ⟨e, hP, hN⟩ := h
  exact x_ruling hO (RW_fd hP.1) hN
theorem MS_24 {O : TO} {J0 J : TI} {N : TN} {v : Int32} (h : MS O J0 J N) : MS O J0 (sI J 331 24 v) N :=
  ⟨MV_fr h.1 (sI_o _ _ (by omega)), h.2.1, JM_t h.2.2 ⟨fun a h1 _ _ _ => sI_o _ _ h1, fun k hk => sI_k _ _ hk⟩⟩
theorem PJ_3 {N N' : TN} (h : PJ N N') : N' 3 = N 3 := h 3 (by omega) (by omega) (by omega)
theorem PJ_0 {N N' : TN} (h : PJ N N') : N' 0 = N 0 := h 0 (by omega) (by omega) (by omega)
theorem PJ_1 {N N' : TN} (h : PJ N N') : N' 1 = N 1 := h 1 (by omega) (by omega) (by omega)
theorem PJ_2 {N N' : TN} (h : PJ N N') : N' 2 = N 2 := h 2 (by omega) (by omega) (by omega)
section SP
variable {n : Nat} {I I0 J J0 : TI} {L : TL} {O : TO} {N : TN} {lw : Lws}
/-- play by hand, each side on its own -/
def qpN (lw : Lws) (r c : Nat) (N : TN) : TN := pyN lw r c (keepN N)
def qpK (lw : Lws) (r c : Nat) (N : TN) : Nat := (plN lw r c (keepN N)).2
theorem xc_hand (hn : 100000 ≤ n) (hO : OF O) (h : CS I0 I N) (hL : LX0 I0 (rlX N) lw) {r c : Nat} (hr : r < N 0) (hc : c < N 1) : ∃ I', f11_play n I O 1 (nI r) (nI c) = some (nI (qpK lw r c N), I') ∧ CS I0 I' (qpN lw r c N) := by
  have h0 := h
  obtain ⟨e, hP, hN⟩ := h
  have hB := NB_WB hN
  have b4 : N 4 ≤ 30 := hN.2.2.2.2.1
  have hV := (PWm_ok hO e I0).1 I N hP
  obtain ⟨I1, k1, k2⟩ := xc_keep hO h0
  have e3 : keepN N 3 = N 3 := PJ_3 (PJ_k b4)
  obtain ⟨I2, p1, p2⟩ := xc_play (lw := lw) hn hO (sx := rlX N) hL k2 (r := r) (c := c) (by rw [keepN_0 b4]; exact hr) (by rw [keepN_1 b4]; exact hc)
  have er := CS_rul hO k2
  rw [rlX_e e3] at er
  refine ⟨I2, ?_, p2⟩
  unfold f11_play
  rw [o_1_0 hO, o_2_0 hO, x_hasRoll hV hB hr, qb, if_neg (by decide), x_hasChild hV hB hc, qb, if_neg (by decide), k1, qb, er, qb, o_1_7 hO, p1, qb]
  rfl
theorem mc_hand (hn : 100000 ≤ n) (hO : OF O) (hw : J0 331 23 = 1) (hL : LM0 J0 (N 3) lw) (h : MS O J0 J N) {r c : Nat} (hr : r < N 0) (hc : c < N 1) : ∃ J' L', f12_play n J L O 331 (nI r) (nI c) = some (nI (qpK lw r c N), J', L') ∧ MS O J0 J' (qpN lw r c N) := by
  have hB := NB_WB h.2.1
  have b4 : N 4 ≤ 30 := h.2.1.2.2.2.2.1
  obtain ⟨J1, k1, k2, k3⟩ := mc_keep hn h
  have e3 : keepN N 3 = N 3 := PJ_3 (PJ_k b4)
  obtain ⟨J2, L2, p1, p2, p3⟩ := mc_play (L := L) (lw := lw) hn hO hw (by rw [e3]; exact hL) (MS_24 (v := 0) k2) (r := r) (c := c) (by rw [keepN_0 b4]; exact hr) (by rw [keepN_1 b4]; exact hc)
  rw [sI_s, show (0 : Int32) + nI (plN lw r c (keepN N)).2 = nI (qpK lw r c N) from Int32.zero_add _] at p3
  refine ⟨J2, L2, ?_, p2⟩
  unfold f12_play
  rw [m_isRoll h.1 hB hr, qb, if_neg (by decide), m_isChild h.1 hB hc, qb, if_neg (by decide), k1, qb, qbl, p1, qb]
  show some (J2 331 24, J2, L2) = _
  rw [p3]
theorem qpN_ok (hN : NB N) {r c : Nat} (hr : r < N 0) (hc : c < N 1) : NB (qpN lw r c N) ∧ PJ N (qpN lw r c N) ∧ qpK lw r c N ≤ 16 := by
  have b4 : N 4 ≤ 30 := hN.2.2.2.2.1
  obtain ⟨g1, g2, g3, g4⟩ := pyN_ok (lw := lw) (r := r) (c := c) (keepNB hN) (by rw [keepN_0 b4]; exact hr) (by rw [keepN_1 b4]; exact hc)
  exact ⟨g1, PJ_t (PJ_k b4) g2, g3⟩
theorem s_play (hn : 100000 ≤ n) (h : RE tX I O) (L : TL) (p1 p2 : Int32) : ∃ (v : Int32) (I1 I2 : TI) (L2 : TL), f11_play n I O 1 p1 p2 = some (v, I1) ∧ f12_play n I1 L O 331 p1 p2 = some (v, I2, L2) ∧ RE tX I2 O := by
  obtain ⟨N, G, e, f, tp, h⟩ := h
  have hO := h.1
  have hV := RW_WV hO h.2.2.2.2.2.2.1
  have hN := h.2.2.2.1
  have hB := NB_WB hN
  have hM := h.2.1
  have hF := RW_fd h.2.2.2.2.2.2.1
  have b0 : N 0 ≤ 5 := hB.1
  have b1 : N 1 ≤ 4 := hB.2.1
  by_cases h1 : inR p1 (N 0)
  · obtain ⟨r, hr, rfl⟩ := inR_of h1
    by_cases h2 : inR p2 (N 1)
    · obtain ⟨c, hc, rfl⟩ := inR_of h2
      obtain ⟨lw, l1, l2⟩ := R_lw h
      obtain ⟨I1, x1, x2⟩ := xc_hand hn hO (CS_r h) l1 hr hc
      have hms := MS_r hM hN x2
      have fr : ∀ a, 300 ≤ a → a ≠ 332 ∨ True → I1 a = I a := fun a ha _ => by
        obtain ⟨e', hP', -⟩ := x2
        exact hP'.2.2 a (by omega) (by omega) (by omega) (by omega)
      obtain ⟨I2, L2, y1, y2⟩ := mc_hand (L := L) hn hO (by rw [fr 331 (by omega) (Or.inr trivial)]; exact h.2.2.2.2.2.2.2.2.2.2.1) (LM_fr l2 (fr 334 (by omega) (Or.inr trivial))) hms hr hc
      obtain ⟨g1, g2, g3⟩ := qpN_ok (lw := lw) hN hr hc
      exact ⟨_, I1, I2, L2, x1, y1, R0_gen tXst h x2 y2 (PJ_2 g2)⟩
    · refine ⟨-1, I, I, L, ?_, ?_, N, G, e, f, tp, h⟩
      · simp (disch := omega) only [f11_play, o_1_0 hO, o_1_1 hO, o_1_2 hO, o_1_3 hO, o_1_4 hO, o_1_5 hO, o_1_6 hO, o_1_7 hO, o_1_8 hO, o_1_9 hO, o_2_0 hO, o_2_1 hO, o_2_2 hO, o_2_3 hO, o_2_4 hO, o_2_5 hO, o_3_0 hO, o_3_1 hO, o_3_2 hO, o_6_0 hO, o_6_1 hO, o_6_2 hO, o_10_0 hO, o_331_0 hO, x_hasRoll hV hB hr, x_noChild hV hB h2, qL, qb, qbl, qadd, qmul, qsubm, qdm, qsub, qdiv, qcl, qlt, qle, qeq, nltT, nltF, nleT, nleF, neqT, neqF, or_false, false_or, or_true, true_or, or_self, and_true, true_and, and_false, false_and, and_self, not_true_eq_false, not_false_eq_true, ↓reduceIte]
      · simp (disch := omega) only [f12_play, m_isRoll hM hB hr, m_noChild hM hB h2, qL, qb, qbl, qadd, qmul, qsubm, qdm, qsub, qdiv, qcl, qlt, qle, qeq, nltT, nltF, nleT, nleF, neqT, neqF, or_false, false_or, or_true, true_or, or_self, and_true, true_and, and_false, false_and, and_self, not_true_eq_false, not_false_eq_true, ↓reduceIte]
  · refine ⟨-1, I, I, L, ?_, ?_, N, G, e, f, tp, h⟩
    · simp (disch := omega) only [f11_play, o_1_0 hO, o_1_1 hO, o_1_2 hO, o_1_3 hO, o_1_4 hO, o_1_5 hO, o_1_6 hO, o_1_7 hO, o_1_8 hO, o_1_9 hO, o_2_0 hO, o_2_1 hO, o_2_2 hO, o_2_3 hO, o_2_4 hO, o_2_5 hO, o_3_0 hO, o_3_1 hO, o_3_2 hO, o_6_0 hO, o_6_1 hO, o_6_2 hO, o_10_0 hO, o_331_0 hO, x_noRoll hV hB h1, qL, qb, qbl, qadd, qmul, qsubm, qdm, qsub, qdiv, qcl, qlt, qle, qeq, nltT, nltF, nleT, nleF, neqT, neqF, or_false, false_or, or_true, true_or, or_self, and_true, true_and, and_false, false_and, and_self, not_true_eq_false, not_false_eq_true, ↓reduceIte]
    · simp (disch := omega) only [f12_play, m_noRoll hM hB h1, qL, qb, qbl, qadd, qmul, qsubm, qdm, qsub, qdiv, qcl, qlt, qle, qeq, nltT, nltF, nleT, nleF, neqT, neqF, or_false, false_or, or_true, true_or, or_self, and_true, true_and, and_false, false_and, and_self, not_true_eq_false, not_false_eq_true, ↓reduceIte]
/-- Sundays one behind the other -/
def sdG (lw : Lws) (_ : Nat) (s : TN × Nat) : TN × Nat := (psN lw (keepN s.1), s.2 + psK lw (keepN s.1))
def sdN (lw : Lws) (k : Nat) (N : TN) : TN × Nat := fo (sdG lw) k 0 (N, 0)
theorem sdN_s (lw : Lws) (k : Nat) (N : TN) : sdN lw (k + 1) N = (psN lw (keepN (sdN lw k N).1), (sdN lw k N).2 + psK lw (keepN (sdN lw k N).1)) := by
  unfold sdN
  rw [fo_s]; rfl
theorem sd1 (hN : NB N) (h7 : N 7 < 9999) : NB (psN lw (keepN N)) ∧ PJ N (psN lw (keepN N)) ∧ psN lw (keepN N) 7 = N 7 + 1 ∧ psK lw (keepN N) ≤ 16 ∧ keepN N 7 = N 7 := by
  have b4 : N 4 ≤ 30 := hN.2.2.2.2.1
  have e7 : keepN N 7 = N 7 := keepN_o (Or.inl (by omega)) (by omega) b4
  obtain ⟨g1, g2, g3, g4⟩ := psN_ok (lw := lw) (keepNB hN) (by rw [e7]; exact h7)
  exact ⟨g1, PJ_t (PJ_k b4) g2, by rw [g3, e7], g4, e7⟩
theorem sdN_ok (hN : NB N) : ∀ k, N 7 + k ≤ 9999 → NB (sdN lw k N).1 ∧ PJ N (sdN lw k N).1 ∧ (sdN lw k N).1 7 = N 7 + k ∧ (sdN lw k N).2 ≤ 16 * k := by
  intro k
  induction k with
  | zero => intro _; exact ⟨hN, PJ_r N, rfl, Nat.le_refl _⟩
  | succ k ih =>
    intro hk
    obtain ⟨h1, h2, h3, h4⟩ := ih (by omega)
    obtain ⟨g1, g2, g3, g4, g5⟩ := sd1 (lw := lw) h1 (by omega)
    rw [sdN_s]
    exact ⟨g1, PJ_t h2 g2, by show psN lw _ 7 = _; rw [g3, h3]; omega, by show _ + _ ≤ _; omega⟩
theorem xc_sd (hn : 100000 ≤ n) (hO : OF O) (h : CS I0 I N) (h7 : N 7 < 9999) (hL : LX0 I0 (rlX N) lw) : ∃ I1 I2, f9_keepStep I O 2 = some I1 ∧ f11_ruling I1 O 1 = some (rlX N) ∧ f4_passSunday n I1 O 286 3 (rlX N) = some (nI (psK lw (keepN N)), I2) ∧ CS I0 I2 (psN lw (keepN N)) := by
  have hN : NB N := by obtain ⟨e, hP, hN⟩ := h; exact hN
  have b4 : N 4 ≤ 30 := hN.2.2.2.2.1
  obtain ⟨I1, k1, k2⟩ := xc_keep hO h
  have e3 : keepN N 3 = N 3 := PJ_3 (PJ_k b4)
  have e7 : keepN N 7 = N 7 := keepN_o (Or.inl (by omega)) (by omega) b4
  have er := CS_rul hO k2
  rw [rlX_e e3] at er
  obtain ⟨I2, p1, p2⟩ := xc_pass (lw := lw) hn hO hL k2 (by rw [e7]; exact h7)
  exact ⟨I1, I2, k1, er, p1, p2⟩
theorem CS_7v {I0 I : TI} {O : TO} {N : TN} (hO : OF O) (h : CS I0 I N) : I 6 4 = nI (N 7) := by
  obtain ⟨e, hP, hN⟩ := h
  exact ((PWm_ok hO e I0).1 _ _ hP).2.2.2.2.2.2.2.1
theorem xc_sundays (hn : 100000 ≤ n) (hO : OF O) (h : CS I0 I N) (hL : LX0 I0 (rlX N) lw) {k : Nat} (hk : k ≤ 60) (h7 : N 7 + k ≤ 9999) : ∃ I', f11_sunday_c38 n O n I 1 (nI k) (nI 0) (nI 0) = some (nI (sdN lw k N).2, I') ∧ CS I0 I' (sdN lw k N).1 := by
  have hN : NB N := by obtain ⟨e, hP, hN⟩ := h; exact hN
  refine lpR (L := fun m j (s : TI) => f11_sunday_c38 n O m s 1 (nI k) (nI (sdN lw j N).2) (nI j)) (fun j s => CS I0 s (sdN lw j N).1) (fun res => ∃ I', res = some (nI (sdN lw k N).2, I') ∧ CS I0 I' (sdN lw k N).1) k ?_ ?_ k 0 n I (by omega) (by omega) h
  · intro m j s hj hs
    left
    obtain ⟨g1, g2, g3, g4⟩ := sdN_ok (lw := lw) hN j (by omega)
    obtain ⟨I1, I2, a1, a2, a3, a4⟩ := xc_sd (lw := lw) hn hO hs (by omega) (by rw [rlX_e (PJ_3 g2)]; exact hL)
    refine ⟨I2, by rw [sdN_s]; exact a4, ?_⟩
    have hlt : ¬ nI k ≤ nI j := fun q => by rw [nI_leI (by omega) (by omega)] at q; omega
    show f11_sunday_c38 n O (m + 1) s 1 (nI k) (nI (sdN lw j N).2) (nI j) = f11_sunday_c38 n O m I2 1 (nI k) (nI (sdN lw (j + 1) N).2) (nI (j + 1))
    rw [sdN_s, f11_sunday_c38, if_neg hlt, o_1_0 hO, o_2_0 hO, a1, qb, a2, qb, o_1_7 hO, a3, qb]
    dsimp only
    rw [qadd, nI_1]
  · intro m s hs
    refine ⟨s, ?_, hs⟩
    rw [f11_sunday_c38, if_pos (by rw [nI_leI (by omega) (by omega)]; omega)]
theorem xc_passes (hn : 100000 ≤ n) (hO : OF O) (h : CS I0 I N) (hL : LX0 I0 (rlX N) lw) {k : Nat} (hk : k ≤ 60) : ∃ I', f11_passSundays n I O 1 (nI k) = some (nI (min k (9999 - N 7)), I') ∧ CS I0 I' (sdN lw (min k (9999 - N 7)) N).1 := by
  have hN : NB N := by obtain ⟨e, hP, hN⟩ := h; exact hN
  have s7 : N 7 ≤ 9999 := (NB_WB hN).2.2.2.2.2.2.2.2.1
  refine lpR (L := fun m j (s : TI) => f11_passSundays_c2 n O m s 1 (nI k) (nI j)) (fun j s => CS I0 s (sdN lw j N).1) (fun res => ∃ I', res = some (nI (min k (9999 - N 7)), I') ∧ CS I0 I' (sdN lw (min k (9999 - N 7)) N).1) (min k (9999 - N 7)) ?_ ?_ (min k (9999 - N 7)) 0 n I (by omega) (by omega) h
  · intro m j s hj hs
    left
    obtain ⟨g1, g2, g3, g4⟩ := sdN_ok (lw := lw) hN j (by omega)
    obtain ⟨I1, I2, a1, a2, a3, a4⟩ := xc_sd (lw := lw) hn hO hs (by omega) (by rw [rlX_e (PJ_3 g2)]; exact hL)
    refine ⟨I2, by rw [sdN_s]; exact a4, ?_⟩
    have v7 := CS_7v hO hs
    have hlt : ¬ nI k ≤ nI j := fun q => by rw [nI_leI (by omega) (by omega)] at q; omega
    have h99 : ¬ (9999 : Int32) ≤ nI ((sdN lw j N).1 7) := fun q => by
      have q' := (nI_leI (a := 9999) (by omega) (by omega)).mp q
      omega
    show f11_passSundays_c2 n O (m + 1) s 1 (nI k) (nI j) = f11_passSundays_c2 n O m I2 1 (nI k) (nI (j + 1))
    rw [f11_passSundays_c2, if_neg hlt, o_1_0 hO, o_2_0 hO, o_3_2 hO, v7, if_neg h99, a1, qb, a2, qb, o_1_7 hO, a3, qb]
    dsimp only
    rw [nI_1]
  · intro m s hs
    refine ⟨s, ?_, hs⟩
    obtain ⟨g1, g2, g3, g4⟩ := sdN_ok (lw := lw) hN (min k (9999 - N 7)) (by omega)
    have v7 := CS_7v hO hs
    by_cases q : k ≤ 9999 - N 7
    · rw [f11_passSundays_c2, if_pos (by rw [nI_leI (by omega) (by omega)]; omega)]
    · have hlt : ¬ nI k ≤ nI (min k (9999 - N 7)) := fun q => by rw [nI_leI (by omega) (by omega)] at q; omega
      have h99 : (9999 : Int32) ≤ nI ((sdN lw (min k (9999 - N 7)) N).1 7) := (nI_leI (a := 9999) (by omega) (by omega)).mpr (by omega)
      rw [f11_passSundays_c2, if_neg hlt, o_1_0 hO, o_2_0 hO, o_3_2 hO, v7, if_pos h99]
theorem mc_passed (hn : 100000 ≤ n) (hO : OF O) (hw : J0 331 23 = 1) (hL : LM0 J0 (N 3) lw) (h : MS O J0 J N) {k : Nat} (hk : k ≤ 60) : ∃ J' L', f12_arePassed n J L O 331 (nI k) = some (if k ≤ 9999 - N 7 then 1 else 0, J', L') ∧ MS O J0 J' (sdN lw (min k (9999 - N 7)) N).1 ∧ J' 331 24 = nI (sdN lw (min k (9999 - N 7)) N).2 := by
  have hN := h.2.1
  have s7 : N 7 ≤ 9999 := (NB_WB hN).2.2.2.2.2.2.2.2.1
  show ∃ J' L', f12_arePassed_c7 n O n (sI J 331 24 0) L 331 (nI k) (nI 0) = _ ∧ _
  refine lpR (L := fun m j (s : TI × TL) => f12_arePassed_c7 n O m s.1 s.2 331 (nI k) (nI j)) (fun j s => MS O J0 s.1 (sdN lw j N).1 ∧ s.1 331 24 = nI (sdN lw j N).2) (fun res => ∃ J' L', res = some (if k ≤ 9999 - N 7 then 1 else 0, J', L') ∧ MS O J0 J' (sdN lw (min k (9999 - N 7)) N).1 ∧ J' 331 24 = nI (sdN lw (min k (9999 - N 7)) N).2) (min k (9999 - N 7)) ?_ ?_ (min k (9999 - N 7)) 0 n (sI J 331 24 0, L) (by omega) (by omega) ⟨MS_24 h, show sI J 331 24 0 331 24 = nI 0 from sI_s _ _ _ _⟩
  · intro m j s hj ⟨hs, hc⟩
    left
    obtain ⟨g1, g2, g3, g4⟩ := sdN_ok (lw := lw) hN j (by omega)
    obtain ⟨c1, c2, c3, c4, c5⟩ := sd1 (lw := lw) g1 (by omega)
    have b4 : (sdN lw j N).1 4 ≤ 30 := g1.2.2.2.2.1
    obtain ⟨J1, k1, k2, k3⟩ := mc_keep hn hs
    have e3 : keepN (sdN lw j N).1 3 = N 3 := (PJ_3 (PJ_k b4)).trans (PJ_3 g2)
    obtain ⟨J2, L2, p1, p2, p3⟩ := mc_pass (L := s.2) (lw := lw) hn hO hw (by rw [e3]; exact hL) k2 (by rw [c5]; omega)
    refine ⟨(J2, L2), ⟨by rw [sdN_s]; exact p2, ?_⟩, ?_⟩
    · show J2 331 24 = _
      rw [p3, k3, hc, sdN_s, qadd]
    · have v7 := hs.1.2 7 (by omega)
      have hlt : ¬ nI k ≤ nI j := fun q => by rw [nI_leI (by omega) (by omega)] at q; omega
      have h99 : ¬ nI ((sdN lw j N).1 7) = (9999 : Int32) := fun q => by
        have q' := (nI_eq (b := 9999) (by omega) (by omega)).mp q
        omega
      show f12_arePassed_c7 n O (m + 1) s.1 s.2 331 (nI k) (nI j) = f12_arePassed_c7 n O m J2 L2 331 (nI k) (nI (j + 1))
      rw [f12_arePassed_c7, if_neg hlt, hs.1.1, v7, if_neg h99, k1, qb, p1, qb]
      dsimp only
      rw [nI_1]
  · intro m s ⟨hs, hc⟩
    refine ⟨s.1, s.2, ?_, hs, hc⟩
    obtain ⟨g1, g2, g3, g4⟩ := sdN_ok (lw := lw) hN (min k (9999 - N 7)) (by omega)
    have v7 := hs.1.2 7 (by omega)
    by_cases q : k ≤ 9999 - N 7
    · rw [f12_arePassed_c7, if_pos (by rw [nI_leI (by omega) (by omega)]; omega), if_pos q]
    · have hlt : ¬ nI k ≤ nI (min k (9999 - N 7)) := fun q => by rw [nI_leI (by omega) (by omega)] at q; omega
      have h99 : nI ((sdN lw (min k (9999 - N 7)) N).1 7) = (9999 : Int32) := by
        rw [g3, show N 7 + min k (9999 - N 7) = 9999 by omega]; rfl
      rw [f12_arePassed_c7, if_neg hlt, hs.1.1, v7, if_pos h99, if_neg q]
theorem CS_f {I0 I : TI} {N : TN} (h : CS I0 I N) {a : Nat} (ha : 286 ≤ a) : I a = I0 a := by
  obtain ⟨e, hP, -⟩ := h
  exact hP.2.2 a (by omega) (by omega) (by omega) (by omega)
theorem s_sunday (hn : 100000 ≤ n) (h : RE tX I O) (L : TL) (p1 : Int32) : ∃ (v : Int32) (I1 I2 : TI) (L2 : TL), f11_sunday n I O 1 p1 = some (v, I1) ∧ f12_sunday n I1 L O 331 p1 = some (v, I2, L2) ∧ RE tX I2 O := by
  obtain ⟨N, G, e, f, tp, h⟩ := h
  have hO := h.1
  have hV := RW_WV hO h.2.2.2.2.2.2.1
  have hN := h.2.2.2.1
  have hB := NB_WB hN
  have hM := h.2.1
  have hF := RW_fd h.2.2.2.2.2.2.1
  have b0 : N 0 ≤ 5 := hB.1
  have b1 : N 1 ≤ 4 := hB.2.1
  have v7 : I 6 4 = nI (N 7) := hV.2.2.2.2.2.2.2.1
  have s7 : N 7 ≤ 9999 := hB.2.2.2.2.2.2.2.2.1
  have m7 := hM.2 7 (by omega)
  by_cases h1 : ((1 : Nat) : Int) ≤ p1.toInt ∧ p1.toInt ≤ ((60 : Nat) : Int)
  · obtain ⟨k, hk1, hk, rfl⟩ := inB h1
    by_cases h9 : N 7 + k ≤ 9999
    · obtain ⟨lw, l1, l2⟩ := R_lw h
      obtain ⟨I1, x1, x2⟩ := xc_sundays hn hO (CS_r h) l1 hk h9
      have hms := MS_r hM hN x2
      obtain ⟨I2, L2, y1, y2, y3⟩ := mc_passed (L := L) (k := k) hn hO (by rw [CS_f x2 (by omega)]; exact h.2.2.2.2.2.2.2.2.2.2.1) (LM_fr l2 (CS_f x2 (by omega))) hms hk
      rw [show min k (9999 - N 7) = k by omega] at y2 y3
      rw [if_pos (by omega)] at y1
      obtain ⟨g1, g2, g3, g4⟩ := sdN_ok (lw := lw) hN k h9
      have m7' := hms.1.2 7 (by omega)
      refine ⟨nI (sdN lw k N).2, I1, I2, L2, ?_, ?_, R0_gen tXst h x2 y2 (PJ_2 g2)⟩
      · rw [← x1]
        simp (disch := omega) only [f11_sunday, o_1_0 hO, o_1_1 hO, o_1_2 hO, o_1_3 hO, o_1_4 hO, o_1_5 hO, o_1_6 hO, o_1_7 hO, o_1_8 hO, o_1_9 hO, o_2_0 hO, o_2_1 hO, o_2_2 hO, o_2_3 hO, o_2_4 hO, o_2_5 hO, o_3_0 hO, o_3_1 hO, o_3_2 hO, o_6_0 hO, o_6_1 hO, o_6_2 hO, o_10_0 hO, o_331_0 hO, v7, qL, qb, qbl, qadd, qmul, qsubm, qdm, qsub, qdiv, qcl, qlt, qle, qeq, nltT, nltF, nleT, nleF, neqT, neqF, or_false, false_or, or_true, true_or, or_self, and_true, true_and, and_false, false_and, and_self, not_true_eq_false, not_false_eq_true, ↓reduceIte]
      · have e1 := m_inT hk1 hk (by omega)
        simp (disch := omega) only [f12_sunday, e1, hM.1, m7', y1, y3, qL, qb, qbl, qadd, qmul, qsubm, qdm, qsub, qdiv, qcl, qlt, qle, qeq, nltT, nltF, nleT, nleF, neqT, neqF, or_false, false_or, or_true, true_or, or_self, and_true, true_and, and_false, false_and, and_self, not_true_eq_false, not_false_eq_true, ↓reduceIte]
    · have e1 := m_inT hk1 hk (by omega)
      refine ⟨-1, I, I, L, ?_, ?_, N, G, e, f, tp, h⟩
      · simp (disch := omega) only [f11_sunday, o_1_0 hO, o_1_1 hO, o_1_2 hO, o_1_3 hO, o_1_4 hO, o_1_5 hO, o_1_6 hO, o_1_7 hO, o_1_8 hO, o_1_9 hO, o_2_0 hO, o_2_1 hO, o_2_2 hO, o_2_3 hO, o_2_4 hO, o_2_5 hO, o_3_0 hO, o_3_1 hO, o_3_2 hO, o_6_0 hO, o_6_1 hO, o_6_2 hO, o_10_0 hO, o_331_0 hO, v7, qL, qb, qbl, qadd, qmul, qsubm, qdm, qsub, qdiv, qcl, qlt, qle, qeq, nltT, nltF, nleT, nleF, neqT, neqF, or_false, false_or, or_true, true_or, or_self, and_true, true_and, and_false, false_and, and_self, not_true_eq_false, not_false_eq_true, ↓reduceIte]
      · simp (disch := omega) only [f12_sunday, e1, hM.1, m7, qL, qb, qbl, qadd, qmul, qsubm, qdm, qsub, qdiv, qcl, qlt, qle, qeq, nltT, nltF, nleT, nleF, neqT, neqF, or_false, false_or, or_true, true_or, or_self, and_true, true_and, and_false, false_and, and_self, not_true_eq_false, not_false_eq_true, ↓reduceIte]
  · have e1 := outB (by omega) (by omega) h1
    have e2 := m_inF h1 (by omega) (by omega)
    refine ⟨-1, I, I, L, ?_, ?_, N, G, e, f, tp, h⟩
    · rcases e1 with e1 | ⟨e1, e3⟩
      · simp (disch := omega) only [f11_sunday, e1, qL, qb, qbl, qadd, qmul, qsubm, qdm, qsub, qdiv, qcl, qlt, qle, qeq, nltT, nltF, nleT, nleF, neqT, neqF, or_false, false_or, or_true, true_or, or_self, and_true, true_and, and_false, false_and, and_self, not_true_eq_false, not_false_eq_true, ↓reduceIte]
      · simp (disch := omega) only [f11_sunday, e1, e3, qL, qb, qbl, qadd, qmul, qsubm, qdm, qsub, qdiv, qcl, qlt, qle, qeq, nltT, nltF, nleT, nleF, neqT, neqF, or_false, false_or, or_true, true_or, or_self, and_true, true_and, and_false, false_and, and_self, not_true_eq_false, not_false_eq_true, ↓reduceIte]
    · simp (disch := omega) only [f12_sunday, e2, qL, qb, qbl, qadd, qmul, qsubm, qdm, qsub, qdiv, qcl, qlt, qle, qeq, nltT, nltF, nleT, nleF, neqT, neqF, or_false, false_or, or_true, true_or, or_self, and_true, true_and, and_false, false_and, and_self, not_true_eq_false, not_false_eq_true, ↓reduceIte]
end SP
