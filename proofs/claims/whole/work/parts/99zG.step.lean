/-! the reference reads a law: its steps -/
def Cx (n : Nat) (O : TO) (B : TN) (z T T0 s : Nat) (J0 : TI) : Prop := 100000 ≤ n ∧ OF O ∧ T0 ≤ 3195 ∧ T ≤ 300 ∧ stT B z T = z ∧ J0 331 12 = nI T0 ∧ J0 331 14 = nI s ∧ s < 3
def MSt (B : TN) (z T T0 : Nat) (J0 J : TI) (L : TL) (i : Nat) (Q : List Nat) (o : Nat) (cd : List (Nat × Nat)) (w : Nat) : Prop := RT J L B z i ∧ i ≤ T ∧ PiA J Q ∧ J 331 17 = nI o ∧ J 331 18 = nI w ∧ CdA J T0 cd ∧ cd.length + Q.length ≤ i ∧ SFr T0 J0 J
def Go (n : Nat) (O : TO) (J : TI) (L : TL) (i : Nat) (J' : TI) (L' : TL) (j : Nat) : Prop := i ≤ j ∧ ∀ m, f12_summed_c15 n O (m + (j - i)) J L 331 = f12_summed_c15 n O m J' L' 331
def Flt (n : Nat) (O : TO) (B : TN) (z T0 : Nat) (J0 J : TI) (L : TL) (i f j : Nat) : Prop := i ≤ j ∧ ∀ m, j - i < m → ∃ J' L', f12_summed_c15 n O m J L 331 = some (nI f, J', L') ∧ J' 331 8 = nI (stT B z j) ∧ SFr T0 J0 J'
theorem Go_t {n : Nat} {O : TO} {J1 J2 J3 : TI} {L1 L2 L3 : TL} {i j k : Nat} (h : Go n O J1 L1 i J2 L2 j) (g : Go n O J2 L2 j J3 L3 k) : Go n O J1 L1 i J3 L3 k := by
  obtain ⟨h1, h2⟩ := h
  obtain ⟨g1, g2⟩ := g
  refine ⟨by omega, fun m => ?_⟩
  have := h2 (m + (k - j))
  rw [show m + (k - j) + (j - i) = m + (k - i) by omega] at this
  rw [this, g2 m]
theorem Go_r {n : Nat} {O : TO} (J : TI) (L : TL) (i : Nat) : Go n O J L i J L i := ⟨Nat.le_refl _, fun m => by rw [Nat.sub_self]; rfl⟩
theorem Go_f {n : Nat} {O : TO} {B : TN} {z T0 f k : Nat} {J0 J1 J2 : TI} {L1 L2 : TL} {i j : Nat} (h : Go n O J1 L1 i J2 L2 j) (g : Flt n O B z T0 J0 J2 L2 j f k) : Flt n O B z T0 J0 J1 L1 i f k := by
  obtain ⟨h1, h2⟩ := h
  obtain ⟨g1, g2⟩ := g
  refine ⟨by omega, fun m hm => ?_⟩
  obtain ⟨J', L', q1, q2, q3⟩ := g2 (m - (j - i)) (by omega)
  have := h2 (m - (j - i))
  rw [show m - (j - i) + (j - i) = m by omega] at this
  exact ⟨J', L', by rw [this, q1], q2, q3⟩
theorem bd_eta {α β γ : Type} (x : Option (α × β × γ)) : (x.bind fun r => some (r.1, r.2.1, r.2.2)) = x := by
  cases x with
  | none => rfl
  | some r => rfl
section ST
variable {n : Nat} {O : TO} {B : TN} {z T T0 s : Nat} {J0 J : TI} {L : TL} {i o w : Nat} {Q : List Nat} {cd : List (Nat × Nat)}
/-- a beginning step -/
theorem go_b (h : MSt B z T T0 J0 J L i Q o cd 0) {J' : TI} {L' : TL} (e : f12_beginOne n J L O 331 = some (0, J', L')) : Go n O J L i J' L' (i + 1) := by
  refine ⟨by omega, fun m => ?_⟩
  rw [show m + (i + 1 - i) = m + 1 by omega, f12_summed_c15, h.2.2.2.2.1, if_pos (show nI 0 = 0 from rfl), e, qb]
  rfl
theorem go_bf (h : MSt B z T T0 J0 J L i Q o cd 0) {f : Nat} (hf : 1 ≤ f) (hf2 : f < 100) (e : f12_beginOne n J L O 331 = some (nI f, J, L)) : Flt n O B z T0 J0 J L i f i := by
  refine ⟨Nat.le_refl _, fun m hm => ⟨J, L, ?_, h.1.2.2.1, h.2.2.2.2.2.2.2⟩⟩
  obtain ⟨m, rfl⟩ : ∃ m', m = m' + 1 := ⟨m - 1, by omega⟩
  rw [f12_summed_c15, h.2.2.2.2.1, if_pos (show nI 0 = 0 from rfl), e, qb]
  show (if nI f = 0 then _ else _) = _
  rw [if_neg (nI_ne0 (by omega) (by omega))]
theorem go_w (h : MSt B z T T0 J0 J L i Q o cd 1) {J' : TI} {L' : TL} (e : f12_behindOne n J L O 331 = some (1, J', L')) : Go n O J L i J' L' (i + 1) := by
  refine ⟨by omega, fun m => ?_⟩
  rw [show m + (i + 1 - i) = m + 1 by omega, f12_summed_c15, h.2.2.2.2.1, if_neg (show ¬ nI 1 = 0 by decide), e, qb]
  rfl
/-- next token, the rest stays -/
theorem ms_next (hx : Cx n O B z T T0 s J0) {J1 : TI} (hR : RT J1 L B z i) (hi : i < T) (hP : PiA J1 Q) (h17 : J1 331 17 = nI o) (h18 : J1 331 18 = nI w) (hC : CdA J1 T0 cd) (hl : cd.length + Q.length ≤ i + 1) (hS : SFr T0 J0 J1) : ∃ J' L', f12_nextToken n J1 L O 331 = some (J', L') ∧ MSt B z T T0 J0 J' L' (i + 1) Q o cd w := by
  obtain ⟨hn, hO, -⟩ := hx
  obtain ⟨J', L', q1, q2, q3⟩ := m_tokS hn hO hR
  exact ⟨J', L', q1, q2, by omega, Pi_fr hP (q3.1 336 (by omega)) (q3.2 16 (by omega) (by omega) (by omega) (by omega)), by rw [q3.2 17 (by omega) (by omega) (by omega) (by omega)]; exact h17, by rw [q3.2 18 (by omega) (by omega) (by omega) (by omega)]; exact h18, Cd_fr hC (q3.1 334 (by omega)) (q3.2 13 (by omega) (by omega) (by omega) (by omega)), hl, SF_n hS q3⟩
theorem SF_12 (hx : Cx n O B z T T0 s J0) (hS : SFr T0 J0 J) : J 331 12 = nI T0 ∧ J 331 14 = nI s := by
  obtain ⟨-, -, -, -, -, h12, h14, -⟩ := hx
  exact ⟨by rw [hS.2.1 12 (by omega) (by omega) (by omega) (by omega) (by omega) (by omega) (by omega) (by omega)]; exact h12, by rw [hS.2.1 14 (by omega) (by omega) (by omega) (by omega) (by omega) (by omega) (by omega) (by omega)]; exact h14⟩
theorem SF_s {k : Nat} {v : Int32} (hk : k = 13 ∨ k = 16 ∨ k = 17 ∨ k = 18) (h : SFr T0 J0 J) : SFr T0 J0 (sI J 331 k v) := ⟨fun a h1 h2 h3 => by rw [sI_o _ _ h1]; exact h.1 a h1 h2 h3, fun j h1 h2 h3 h4 h5 h6 h7 h8 => by rw [sI_k _ _ (by omega)]; exact h.2.1 j h1 h2 h3 h4 h5 h6 h7 h8, fun x hx => by rw [sI_o _ _ (by omega)]; exact h.2.2 x hx⟩
theorem SF_p {k : Nat} {v : Int32} (h : SFr T0 J0 J) : SFr T0 J0 (sI J 336 k v) := ⟨fun a h1 h2 h3 => by rw [sI_o _ _ h3]; exact h.1 a h1 h2 h3, fun j h1 h2 h3 h4 h5 h6 h7 h8 => by rw [sI_o _ _ (by omega)]; exact h.2.1 j h1 h2 h3 h4 h5 h6 h7 h8, fun x hx => by rw [sI_o _ _ (by omega)]; exact h.2.2 x hx⟩
theorem RT_fr {J1 : TI} (h : RT J L B z i) (h1 : ∀ k, k = 4 ∨ k = 7 ∨ k = 8 ∨ k = 9 ∨ k = 10 → J1 331 k = J 331 k) (h2 : J1 335 = J 335) : RT J1 L B z i := by
  obtain ⟨⟨a1, a2, a3⟩, b, c, ⟨t, x, d1, d2⟩, e⟩ := h
  exact ⟨⟨a1, by rw [h1 4 (by omega)]; exact a2, fun p hp => by rw [h2]; exact a3 p hp⟩, by rw [h1 7 (by omega)]; exact b, by rw [h1 8 (by omega)]; exact c, ⟨t, x, by rw [h1 9 (by omega)]; exact d1, d2⟩, fun g => by rw [h1 10 (by omega)]; exact e g⟩
theorem RT_ef {J1 : TI} (h : RT J L B z i) (g : EF T0 J J1) : RT J1 L B z i := RT_fr h (fun k hk => g.2.1 k (by omega) (by omega) (by omega)) (g.1 335 (by omega) (by omega))
theorem m_openedF (h : MSt B z T T0 J0 J L i Q o cd 0) (ho : o = 8) (x : Int32) : f12_opened n J L O 331 x = some (3, J, L) := by
  rw [f12_opened, h.2.2.2.1, ho, if_pos (show nI 8 = 8 from rfl)]
theorem m_opened (hx : Cx n O B z T T0 s J0) (h : MSt B z T T0 J0 J L i Q o cd 0) (ho : o < 8) (hk : kdT B z i ≠ 27) (hq : Q.length ≤ 150) {x : Nat} (hx2 : x < 64) : ∃ J' L', f12_opened n J L O 331 (nI x) = some (0, J', L') ∧ MSt B z T T0 J0 J' L' (i + 1) (x :: Q) (o + 1) cd 0 := by
  obtain ⟨hR, hi, hP, h17, h18, hC, hl, hS⟩ := h
  have hiT := kd_T hx.2.2.2.2.1 hi hk
  let J1 := sI J 331 17 (nI (o + 1))
  have p1 : PiA J1 Q := Pi_fr hP (sI_o _ _ (by omega)) (sI_k _ _ (by omega))
  have p2 := Pi_push p1 hx2
  obtain ⟨J', L', q1, q2⟩ := ms_next (s := s) (w := 0) (o := o + 1) (cd := cd) (Q := x :: Q) hx (J1 := sI (sI J1 336 Q.length (nI x)) 331 16 (nI (Q.length + 1))) (RT_fr hR (fun k hk => by rw [sI_k _ _ (by omega), sI_o _ _ (by omega)]; exact sI_k _ _ (by omega)) (by rw [sI_o _ _ (by omega), sI_o _ _ (by omega)]; exact sI_o _ _ (by omega))) hiT p2 (by rw [sI_k _ _ (by omega), sI_o _ _ (by omega)]; exact sI_s _ _ _ _) (by rw [sI_k _ _ (by omega), sI_o _ _ (by omega)]; show sI _ _ _ _ _ _ = _; rw [sI_k _ _ (by omega)]; exact h18) (Cd_fr hC (by rw [sI_o _ _ (by omega), sI_o _ _ (by omega)]; exact sI_o _ _ (by omega)) (by rw [sI_k _ _ (by omega), sI_o _ _ (by omega)]; exact sI_k _ _ (by omega))) (by show cd.length + (Q.length + 1) ≤ i + 1; omega) (SF_s (by omega) (SF_p (SF_s (by omega) hS)))
  refine ⟨J', L', ?_, q2⟩
  rw [f12_opened, h17, if_neg (show ¬ nI o = 8 from fun g => by rw [show (8 : Int32) = nI 8 from rfl, nI_eq (by omega) (by omega)] at g; omega), nI_1, qbl]
  show (if J1 331 16 < 0 ∨ 160 ≤ (J1 331 16).toNatClampNeg then none else bl (sI J1 (rO O 331 15) (J1 331 16).toNatClampNeg (nI x)) fun I5 => bl (sI I5 331 16 ((I5 331 16) + 1)) fun I6 => (f12_nextToken n I6 L O 331).bind fun r7 => some ((0 : Int32), r7.1, r7.2)) = _
  rw [p1.1, if_neg (nI_in (by omega) (by omega)), o_331_15 hx.2.1, qcl (by omega), qbl, sI_o _ _ (show 331 ≠ 336 by omega), p1.1, nI_1, qbl, q1, qb]
theorem cn_u : ∀ (us : List Nat), (∀ x, x ∈ us → x = 2 ∨ x = 4 ∨ x = 5) → cnO us = us.length ∧ ∀ x, x ∈ us → 7 ≤ rkN x := by
  intro us
  induction us with
  | nil => intro _; exact ⟨rfl, fun x hx => absurd hx List.not_mem_nil⟩
  | cons x us ih =>
    intro h
    have i := ih (fun y hy => h y (List.mem_cons_of_mem _ hy))
    have r7 : rkN x = 7 := by rcases h x List.mem_cons_self with g | g | g <;> rw [g] <;> rfl
    refine ⟨?_, fun y hy => ?_⟩
    · show (if rkN x = 7 ∨ x = 20 then 1 else 0) + cnO us = us.length + 1
      rw [if_pos (Or.inl r7), i.1]; omega
    · rcases List.mem_cons.mp hy with g | g
      · rw [g]; omega
      · exact i.2 y g
/-- a number or a name -/
theorem m_c81 (hx : Cx n O B z T T0 s J0) {us ctx : List Nat} (h : MSt B z T T0 J0 J L i (us ++ ctx) o cd 0) (hk : kdT B z i ≠ 27) (hu : ∀ x, x ∈ us → x = 2 ∨ x = 4 ∨ x = 5) (hc : tpR ctx < 7) (ho : us.length ≤ o) (ho8 : o ≤ 8) (hq : us.length + ctx.length ≤ 150) (a b : Nat) : ∃ J' L', f12_beginOne_c81 n O J L 331 (nI a) (nI b) 331 = some (0, J', L') ∧ MSt B z T T0 J0 J' L' (i + 1) ctx (o - us.length) (cd ++ [(b, a)] ++ us.map (fun x => (x, 0))) 1 := by
  obtain ⟨hR, hi, hP, h17, h18, hC, hl, hS⟩ := h
  have hx0 := hx
  obtain ⟨hn, hO, hT, hT2, hT3, -⟩ := hx0
  have hiT := kd_T hT3 hi hk
  have ll : (us ++ ctx).length = us.length + ctx.length := List.length_append
  rw [ll] at hl
  have s12 := (SF_12 hx hS).1
  obtain ⟨cu1, cu2⟩ := cn_u us hu
  obtain ⟨J1, e1, e2, e3, e4, e5⟩ := m_emit hO hT s12 hC (by omega) b a
  have lm : (cd ++ [(b, a)]).length = cd.length + 1 := by rw [List.length_append]; rfl
  obtain ⟨J2, L2, q1, q2⟩ := ms_next (s := s) (w := 0) (o := o) (cd := cd ++ [(b, a)]) (Q := us ++ ctx) hx (J1 := J1) (RT_ef hR e3) hiT (Pi_fr hP (e3.1 336 (by omega) (by omega)) e4) (by rw [e5]; exact h17) (by rw [e3.2.1 18 (by omega) (by omega) (by omega)]; exact h18) e2 (by rw [lm, ll]; omega) (SF_e hS e3)
  obtain ⟨r1, r2, r3, r4, r5, r6, r7, r8⟩ := q2
  let J3 := sI J2 331 18 1
  have s3 : SFr T0 J0 J3 := SF_s (by omega) r8
  obtain ⟨J4, t1, t2, t3, t4, t5⟩ := m_settle (n := n) hO hT (lv := 7) (by omega) (by omega) hc us n J3 (cd ++ [(b, a)]) o (by omega) (SF_12 hx s3).1 (Pi_fr r3 (sI_o _ _ (by omega)) (sI_k _ _ (by omega))) (Cd_fr r6 (sI_o _ _ (by omega)) (sI_k _ _ (by omega))) (by show sI _ _ _ _ _ _ = _; rw [sI_k _ _ (by omega)]; exact r4) (by omega) (by omega) cu2 (by omega) (by rw [lm]; omega)
  have rt3 : RT J3 L2 B z (i + 1) := RT_fr r1 (fun k hk => sI_k _ _ (by omega)) (sI_o _ _ (by omega))
  refine ⟨J4, L2, ?_, RT_ef rt3 t5, r2, t2, by rw [t4, cu1], by rw [t5.2.1 18 (by omega) (by omega) (by omega)]; exact sI_s _ _ _ _, t3, ?_, SF_e s3 t5⟩
  · rw [f12_beginOne_c81, e1, qb, q1, qb]
    show bl (sI J2 331 18 (1 : Int32)) _ = _
    rw [qbl, f12_settle, show f12_settle_c0 n O n (sI J2 331 18 1) 331 7 = _ from t1, qb]
  · rw [List.length_append, lm, List.length_map]; omega
theorem m_begin (hx : Cx n O B z T T0 s J0) (h : MSt B z T T0 J0 J L i Q o cd 0) (hq : Q.length ≤ 159) : f12_beginOne n J L O 331 = if kdT B z i = 28 then (if nvT B z i ≤ 9999 then f12_beginOne_c81 n O J L 331 (nI (nvT B z i)) (nI 0) 331 else some (2, J, L)) else if 7 ≤ kdT B z i ∧ kdT B z i ≤ 13 then (if okN s (nmX (kdT B z i - 7)) then f12_beginOne_c81 n O J L 331 (nI (nmX (kdT B z i - 7))) (nI 1) 331 else some (5, J, L)) else if kdT B z i = 40 then f12_opened n J L O 331 (nI 40) else if kdT B z i = 45 then f12_opened n J L O 331 (nI 5) else if kdT B z i = 14 then f12_opened n J L O 331 (nI 4) else if kdT B z i = 15 then f12_opened n J L O 331 (nI 2) else if kdT B z i = 16 then f12_opened n J L O 331 (nI 41) else if kdT B z i = 22 then (if askQ Q then f12_opened n J L O 331 (nI 20) else some (1, J, L)) else some (1, J, L) := by
  obtain ⟨hR, hi, hP, -, -, -, -, hS⟩ := h
  have hx0 := hx
  obtain ⟨hn, hO, -, -, -, -, -, hs⟩ := hx0
  have s14 := (SF_12 hx hS).2
  have nm := tk_name hR
  have t1 := tk_1 hR
  have t40 := tk_sg hR 40 rfl
  have t45 := tk_sg hR 45 rfl
  obtain ⟨d14, d15, d16, -, -, -, -, -, d22, -⟩ := w_d
  have a1 := m_ask hn hO hP hq
  rw [f12_beginOne]
  by_cases k28 : kdT B z i = 28
  · have e1 := t1.mpr k28
    obtain ⟨v1, v2⟩ := hR.2.2.2.2 k28
    rw [if_pos e1, if_pos k28, v1]
    by_cases v : nvT B z i ≤ 9999
    · rw [if_pos (show nI (nvT B z i) ≤ 9999 from (nI_leI (b := 9999) (by omega) (by omega)).mpr v), if_pos v, f12_beginOne_c20, nm, qb, if_neg (show ¬ (7 ≤ kdT B z i ∧ kdT B z i ≤ 13) by omega), if_pos (show (-1 : Int32) < 0 by decide), f12_beginOne_c39, if_pos e1, f12_beginOne_c51, if_pos e1, f12_beginOne_c65, if_pos e1, v1]; rfl
    · rw [if_neg (show ¬ nI (nvT B z i) ≤ 9999 from nle_i (b := 9999) (by omega) (by omega) (by omega)), if_neg v]
  · have e1 : ¬ J 331 9 = 1 := fun g => k28 (t1.mp g)
    rw [if_neg e1, if_neg k28, f12_beginOne_c20, nm, qb]
    by_cases kn : 7 ≤ kdT B z i ∧ kdT B z i ≤ 13
    · have c7 : kdT B z i - 7 < 7 := by omega
      have nb : nmX (kdT B z i - 7) < 7 := by
        unfold nmX
        split
        · omega
        · split <;> omega
      rw [if_pos kn, if_pos kn, if_neg (fun g => by have := (nI_ltI (b := 0) (by omega) (by omega)).mp g; omega), tk_of s14 hs c7, qb]
      cases okN s (nmX (kdT B z i - 7))
      · rw [if_pos (by decide), if_neg (by decide)]
      · rw [if_neg (by decide), if_pos rfl, f12_beginOne_c39, if_neg e1, if_neg (fun g => by have := (nI_ltI (b := 0) (by omega) (by omega)).mp g; omega), f12_beginOne_c51, if_neg e1, f12_beginOne_c65, if_neg e1]; rfl
    · rw [if_neg kn, if_neg kn, if_pos (by decide), f12_beginOne_c39, if_neg e1, if_pos (by decide), bd_eta, bd_eta]
      by_cases k40 : kdT B z i = 40
      · rw [if_pos (show J 331 9 = 40 from t40.mpr k40), if_pos k40]; rfl
      rw [if_neg (show ¬ J 331 9 = 40 from fun g => k40 (t40.mp g)), if_neg k40]
      by_cases k45 : kdT B z i = 45
      · rw [if_pos (show J 331 9 = 45 from t45.mpr k45), if_pos k45]; rfl
      rw [if_neg (show ¬ J 331 9 = 45 from fun g => k45 (t45.mp g)), if_neg k45, d14, qb, tk_w hR (by omega), qb]
      by_cases k14 : kdT B z i = 14
      · rw [if_pos k14, if_neg (by decide), if_pos k14, bd_eta]; rfl
      rw [if_neg k14, if_pos rfl, if_neg k14, d15, qb, tk_w hR (by omega), qb]
      by_cases k15 : kdT B z i = 15
      · rw [if_pos k15, if_neg (by decide), if_pos k15, bd_eta]; rfl
      rw [if_neg k15, if_pos rfl, if_neg k15, d16, qb, tk_w hR (by omega), qb]
      by_cases k16 : kdT B z i = 16
      · rw [if_pos k16, if_neg (by decide), if_pos k16, bd_eta]; rfl
      rw [if_neg k16, if_pos rfl, if_neg k16, d22, qb, tk_w hR (by omega), qb]
      by_cases k22 : kdT B z i = 22
      · rw [if_pos k22, if_neg (by decide), if_pos k22, a1, qb]
        cases askQ Q
        · rw [if_pos (by decide), if_neg (by decide)]
        · rw [if_neg (by decide), if_pos rfl, bd_eta]; rfl
      · rw [if_neg k22, if_pos rfl, if_neg k22]
end ST
