/-! the reference reads a law: behind one -/
def opC (Q : List Nat) : Nat := match opN Q with
  | none => 0
  | some (c, _) => c
def cmI (k : Nat) : Int32 := if k = 60 then nI 10 else if k = 316 then nI 11 else if k = 62 then nI 12 else if k = 318 then nI 13 else if k = 61 then nI 14 else if k = 35 then nI 15 else -1
def btI (Q : List Nat) (k : Nat) : Int32 := if k = 43 then nI 6 else if k = 45 then nI 7 else if k = 42 then nI 8 else if k = 47 then nI 9 else if opC Q = 41 then (if cmQ Q then (if k = 21 then nI 21 else if k = 20 then nI 22 else -1) else cmI k) else -1
def ptI (Q : List Nat) (k : Nat) : Int32 := if opC Q = 40 then (if k = 41 then nI 0 else -1) else if opC Q = 41 then (if k = 17 ∧ cmQ Q = true then nI 42 else -1) else if opC Q = 42 then (if k = 18 then nI 43 else -1) else if opC Q = 43 then (if k = 19 then nI 0 else -1) else -1
def opI (Q : List Nat) : Int32 := if opC Q = 0 then -1 else nI (opC Q)
section BH
variable {n : Nat} {O : TO} {B : TN} {z T T0 s : Nat} {J0 J : TI} {L : TL} {i o w : Nat} {Q : List Nat} {cd : List (Nat × Nat)}
theorem m_opI (hn : 100000 ≤ n) (hO : OF O) (hP : PiA J Q) (hl : Q.length ≤ 159) : f12_openNow n J O 331 = some (opI Q) ∧ opC Q < 64 := by
  rw [m_openN hn hO hP hl]
  unfold opI opC
  cases h : opN Q with
  | none => exact ⟨rfl, by show 0 < 64; omega⟩
  | some q =>
    obtain ⟨c, k⟩ := q
    have b := opN_lt Q c k h
    have c64 := (opN_at Q c k h hP.2).2
    refine ⟨?_, c64⟩
    show some (nI c) = some (if c = 0 then -1 else nI c)
    rw [if_neg (by omega)]
theorem m_cmpOf (hR : RT J L B z i) : f12_compareOf J 331 = some (cmI (kdT B z i)) := by
  have t60 := tk_sg hR 60 rfl
  have t62 := tk_sg hR 62 rfl
  have t61 := tk_sg hR 61 rfl
  have t35 := tk_sg hR 35 rfl
  have t4 := tk_4 hR
  have t5 := tk_5 hR
  rw [f12_compareOf]
  unfold cmI
  by_cases a : kdT B z i = 60
  · rw [if_pos (show J 331 9 = 60 from t60.mpr a), if_pos a]; rfl
  rw [if_neg (show ¬ J 331 9 = 60 from fun g => a (t60.mp g)), if_neg a]
  by_cases b : kdT B z i = 316
  · rw [if_pos (t4.mpr b), if_pos b]; rfl
  rw [if_neg (fun g => b (t4.mp g)), if_neg b]
  by_cases c : kdT B z i = 62
  · rw [if_pos (show J 331 9 = 62 from t62.mpr c), if_pos c]; rfl
  rw [if_neg (show ¬ J 331 9 = 62 from fun g => c (t62.mp g)), if_neg c]
  by_cases d : kdT B z i = 318
  · rw [if_pos (t5.mpr d), if_pos d]; rfl
  rw [if_neg (fun g => d (t5.mp g)), if_neg d]
  by_cases e : kdT B z i = 61
  · rw [if_pos (show J 331 9 = 61 from t61.mpr e), if_pos e]; rfl
  rw [if_neg (show ¬ J 331 9 = 61 from fun g => e (t61.mp g)), if_neg e]
  by_cases f : kdT B z i = 35
  · rw [if_pos (show J 331 9 = 35 from t35.mpr f), if_pos f]; rfl
  rw [if_neg (show ¬ J 331 9 = 35 from fun g => f (t35.mp g)), if_neg f]
theorem opI_eq {c : Nat} (h : opC Q < 64) (hc : 1 ≤ c) (hc2 : c < 64) : opI Q = nI c ↔ opC Q = c := by
  unfold opI
  by_cases w : opC Q = 0
  · rw [if_pos w]
    exact ⟨fun g => absurd g.symm (nI_nm (by omega)), fun g => by omega⟩
  · rw [if_neg w, nI_eq (by omega) (by omega)]
theorem m_betw (hx : Cx n O B z T T0 s J0) (h : MSt B z T T0 J0 J L i Q o cd w) (hl : Q.length ≤ 159) : f12_betweenOf n J L O 331 = some (btI Q (kdT B z i)) := by
  obtain ⟨hR, hi, hP, -⟩ := h
  have hx0 := hx
  obtain ⟨hn, hO, -⟩ := hx0
  have t43 := tk_sg hR 43 rfl
  have t45 := tk_sg hR 45 rfl
  have t42 := tk_sg hR 42 rfl
  have t47 := tk_sg hR 47 rfl
  obtain ⟨o1, o2⟩ := m_opI hn hO hP hl
  obtain ⟨-, -, -, -, -, -, d20, d21, -⟩ := w_d
  rw [f12_betweenOf]
  unfold btI
  by_cases a : kdT B z i = 43
  · rw [if_pos (show J 331 9 = 43 from t43.mpr a), if_pos a]; rfl
  rw [if_neg (show ¬ J 331 9 = 43 from fun g => a (t43.mp g)), if_neg a]
  by_cases b : kdT B z i = 45
  · rw [if_pos (show J 331 9 = 45 from t45.mpr b), if_pos b]; rfl
  rw [if_neg (show ¬ J 331 9 = 45 from fun g => b (t45.mp g)), if_neg b]
  by_cases c : kdT B z i = 42
  · rw [if_pos (show J 331 9 = 42 from t42.mpr c), if_pos c]; rfl
  rw [if_neg (show ¬ J 331 9 = 42 from fun g => c (t42.mp g)), if_neg c]
  by_cases d : kdT B z i = 47
  · rw [if_pos (show J 331 9 = 47 from t47.mpr d), if_pos d]; rfl
  rw [if_neg (show ¬ J 331 9 = 47 from fun g => d (t47.mp g)), if_neg d, o1, qb]
  have e41 := opI_eq (Q := Q) (c := 41) o2 (by omega) (by omega)
  by_cases e : opC Q = 41
  · rw [if_pos (show opI Q = 41 from e41.mpr e), if_pos e, m_cmpd hn hO hP hl, qb]
    cases cmQ Q
    · rw [if_pos (by decide), m_cmpOf hR, qb, if_neg (by decide)]
    · rw [if_neg (by decide), d21, qb, tk_w hR (by omega), qb, if_pos rfl]
      by_cases f : kdT B z i = 21
      · rw [if_pos f, if_neg (by decide), if_pos f]; rfl
      · rw [if_neg f, if_pos rfl, if_neg f, d20, qb, tk_w hR (by omega), qb]
        by_cases g : kdT B z i = 20
        · rw [if_pos g, if_neg (by decide), if_pos g]; rfl
        · rw [if_neg g, if_pos rfl, if_neg g]
  · rw [if_neg (show ¬ opI Q = 41 from fun g => e (e41.mp g)), if_neg e]
theorem m_part (hx : Cx n O B z T T0 s J0) (h : MSt B z T T0 J0 J L i Q o cd w) (hl : Q.length ≤ 159) : f12_partOf n J L O 331 (opI Q) = some (ptI Q (kdT B z i)) := by
  obtain ⟨hR, hi, hP, -⟩ := h
  have hx0 := hx
  obtain ⟨hn, hO, -⟩ := hx0
  have t41 := tk_sg hR 41 rfl
  obtain ⟨o1, o2⟩ := m_opI hn hO hP hl
  obtain ⟨-, -, -, d17, d18, d19, -⟩ := w_d
  have e40 := opI_eq (Q := Q) (c := 40) o2 (by omega) (by omega)
  have e41 := opI_eq (Q := Q) (c := 41) o2 (by omega) (by omega)
  have e42 := opI_eq (Q := Q) (c := 42) o2 (by omega) (by omega)
  have e43 := opI_eq (Q := Q) (c := 43) o2 (by omega) (by omega)
  rw [f12_partOf]
  unfold ptI
  by_cases a : opC Q = 40
  · rw [if_pos (show opI Q = 40 from e40.mpr a), if_pos a]
    by_cases b : kdT B z i = 41
    · rw [if_pos (show J 331 9 = 41 from t41.mpr b), if_pos b]; rfl
    · rw [if_neg (show ¬ J 331 9 = 41 from fun g => b (t41.mp g)), if_neg b]
  rw [if_neg (show ¬ opI Q = 40 from fun g => a (e40.mp g)), if_neg a]
  by_cases b : opC Q = 41
  · rw [if_pos (show opI Q = 41 from e41.mpr b), if_pos b, d17, qb, tk_w hR (by omega), qb]
    by_cases c : kdT B z i = 17
    · rw [if_pos c, if_neg (by decide), m_cmpd hn hO hP hl, qb]
      cases hq : cmQ Q
      · rw [if_pos (by decide), if_neg (fun g => absurd g.2 (by decide))]
      · rw [if_neg (by decide), if_pos ⟨c, rfl⟩]; rfl
    · rw [if_neg c, if_pos rfl, if_neg (fun g => c g.1)]
  rw [if_neg (show ¬ opI Q = 41 from fun g => b (e41.mp g)), if_neg b]
  by_cases c : opC Q = 42
  · rw [if_pos (show opI Q = 42 from e42.mpr c), if_pos c, d18, qb, tk_w hR (by omega), qb]
    by_cases d : kdT B z i = 18
    · rw [if_pos d, if_neg (by decide), if_pos d]; rfl
    · rw [if_neg d, if_pos rfl, if_neg d]
  rw [if_neg (show ¬ opI Q = 42 from fun g => c (e42.mp g)), if_neg c]
  by_cases d : opC Q = 43
  · rw [if_pos (show opI Q = 43 from e43.mpr d), if_pos d, d19, qb, tk_w hR (by omega), qb]
    by_cases e : kdT B z i = 19
    · rw [if_pos e, if_neg (by decide), if_pos e]; rfl
    · rw [if_neg e, if_pos rfl, if_neg e]
  rw [if_neg (show ¬ opI Q = 43 from fun g => d (e43.mp g)), if_neg d]
/-- settling a pile P on ctx -/
theorem ms_set (hx : Cx n O B z T T0 s J0) {P ctx : List Nat} (h : MSt B z T T0 J0 J L i (P ++ ctx) o cd w) {lv : Nat} (h1 : 1 ≤ lv) (h7 : lv ≤ 7) (hc : tpR ctx < lv) (hp : ∀ x, x ∈ P → lv ≤ rkN x) (ho : cnO P ≤ o) (ho2 : o ≤ 1000) (hl : P.length + ctx.length ≤ 159) : ∃ J', f12_settle n J O 331 (nI lv) = some J' ∧ MSt B z T T0 J0 J' L i ctx (o - cnO P) (cd ++ P.map (fun x => (x, 0))) w := by
  obtain ⟨hR, hi, hP, h17, h18, hC, hln, hS⟩ := h
  have hx0 := hx
  obtain ⟨hn, hO, hT, hT2, -⟩ := hx0
  have ll : (P ++ ctx).length = P.length + ctx.length := List.length_append
  rw [ll] at hln
  obtain ⟨J', t1, t2, t3, t4, t5⟩ := m_settle (n := n) hO hT h1 h7 hc P n J cd o (by omega) (SF_12 hx hS).1 hP hC h17 ho ho2 hp hl (by omega)
  exact ⟨J', t1, RT_ef hR t5, hi, t2, t4, by rw [t5.2.1 18 (by omega) (by omega) (by omega)]; exact h18, t3, by rw [List.length_append, List.length_map]; omega, SF_e hS t5⟩
theorem m_bop (hx : Cx n O B z T T0 s J0) {P ctx : List Nat} (h : MSt B z T T0 J0 J L i (P ++ ctx) o cd 1) {op lv : Nat} (hop : op < 40) (hb : btI (P ++ ctx) (kdT B z i) = nI op) (hlv : lv = if rkN op = 4 then 5 else rkN op) (hk : kdT B z i ≠ 27) (hc : tpR ctx < lv) (hp : ∀ x, x ∈ P → lv ≤ rkN x) (ho : cnO P ≤ o) (ho2 : o ≤ 1000) (hl : P.length + ctx.length ≤ 150) : ∃ J' L', Go n O J L i J' L' (i + 1) ∧ MSt B z T T0 J0 J' L' (i + 1) (op :: ctx) (o - cnO P) (cd ++ P.map (fun x => (x, 0))) 0 := by
  have ll : (P ++ ctx).length = P.length + ctx.length := List.length_append
  have hb1 := m_betw hx h (by omega)
  have hx0 := hx
  obtain ⟨hn, hO, hT, hT2, hT3, -⟩ := hx0
  have rb := rk_le op
  have r1 : 1 ≤ rkN op := by
    unfold rkN
    rw [if_neg (by omega)]
    repeat' split
    all_goals omega
  have l1 : 1 ≤ lv := by rw [hlv]; split <;> omega
  have l7 : lv ≤ 7 := by rw [hlv]; split <;> omega
  obtain ⟨J1, s1, s2⟩ := ms_set hx h l1 l7 hc hp ho ho2 (by omega)
  obtain ⟨hR, hi, hP, h17, h18, hC, hln, hS⟩ := s2
  have hiT := kd_T hT3 hi hk
  have p2 := Pi_push hP (x := op) (by omega)
  obtain ⟨J', L', q1, q2⟩ := ms_next (s := s) (w := 0) (o := o - cnO P) (cd := cd ++ P.map (fun x => (x, 0))) (Q := op :: ctx) hx (J1 := sI (sI (sI J1 336 ctx.length (nI op)) 331 16 (nI (ctx.length + 1))) 331 18 0) (RT_fr hR (fun k hk => by rw [sI_k _ _ (by omega), sI_k _ _ (by omega), sI_o _ _ (by omega)]) (by rw [sI_o _ _ (by omega), sI_o _ _ (by omega), sI_o _ _ (by omega)])) hiT (Pi_fr p2 (sI_o _ _ (by omega)) (sI_k _ _ (by omega))) (by rw [sI_k _ _ (by omega), sI_k _ _ (by omega), sI_o _ _ (by omega)]; exact h17) (sI_s _ _ _ _) (Cd_fr hC (by rw [sI_o _ _ (by omega), sI_o _ _ (by omega), sI_o _ _ (by omega)]) (by rw [sI_k _ _ (by omega), sI_k _ _ (by omega), sI_o _ _ (by omega)])) (by
    show _ + (ctx.length + 1) ≤ i + 1
    omega) (SF_s (by omega) (SF_s (by omega) (SF_p hS)))
  refine ⟨J', L', go_w h ?_, q2⟩
  have c26 : f12_behindOne_c26 n O J L 331 (nI op) (nI lv) 331 = some (1, J', L') := by
    rw [f12_behindOne_c26, s1, qb, hP.1, if_neg (nI_in (by omega) (by omega)), o_331_15 hO, qcl (by omega), qbl, sI_o _ _ (show 331 ≠ 336 by omega), hP.1, nI_1, qbl, qbl, q1, qb]
  rw [f12_behindOne, hb1, qb, hb, if_neg (fun g => by have := (nI_ltI (b := 0) (by omega) (by omega)).mp g; omega), rk_ok op (by omega), qb, qb]
  by_cases r4 : rkN op = 4
  · rw [if_pos (show nI (rkN op) = 4 by rw [r4]; rfl)]
    rw [hlv, if_pos r4] at c26
    exact c26
  · rw [if_neg (show ¬ nI (rkN op) = 4 from fun g => r4 (by rw [show (4 : Int32) = nI 4 from rfl, nI_eq (by omega) (by omega)] at g; exact g))]
    rw [hlv, if_neg r4] at c26
    exact c26
theorem opC_app : ∀ (P : List Nat) c rest, (∀ x, x ∈ P → x < 40) → 40 ≤ c → opC (P ++ c :: rest) = c ∧ opN (P ++ c :: rest) = some (c, rest.length) := by
  intro P
  induction P with
  | nil =>
    intro c rest _ hc
    have : opN (c :: rest) = some (c, rest.length) := by show (if 40 ≤ c then _ else _) = _; rw [if_pos hc]
    refine ⟨?_, this⟩
    unfold opC
    show (match opN (c :: rest) with | none => 0 | some (c, _) => c) = c
    rw [this]
  | cons x P ih =>
    intro c rest hp hc
    have x40 := hp x List.mem_cons_self
    have i := ih c rest (fun y hy => hp y (List.mem_cons_of_mem _ hy)) hc
    have e : opN (x :: (P ++ c :: rest)) = opN (P ++ c :: rest) := by show (if 40 ≤ x then _ else _) = _; rw [if_neg (by omega)]
    refine ⟨?_, by rw [← i.2]; exact e⟩
    unfold opC
    show (match opN (x :: (P ++ c :: rest)) with | none => 0 | some (c, _) => c) = c
    rw [e, i.2]
theorem rk_1 {x : Nat} (h : x < 40) : 1 ≤ rkN x := by
  unfold rkN
  rw [if_neg (by omega)]
  repeat' split
  all_goals omega
/-- the next part of what is begun -/
theorem m_bpart (hx : Cx n O B z T T0 s J0) {P rest : List Nat} {c c' : Nat} (h : MSt B z T T0 J0 J L i (P ++ c :: rest) o cd 1) (hc : 40 ≤ c) (hc64 : c' < 64) (hc1 : 1 ≤ c') (hb : btI (P ++ c :: rest) (kdT B z i) = -1) (hpt : ptI (P ++ c :: rest) (kdT B z i) = nI c') (hc40 : 40 ≤ c') (hk : kdT B z i ≠ 27) (hp : ∀ x, x ∈ P → x < 40) (ho : cnO P ≤ o) (ho2 : o ≤ 1000) (hl : P.length + rest.length ≤ 150) : ∃ J' L', Go n O J L i J' L' (i + 1) ∧ MSt B z T T0 J0 J' L' (i + 1) (c' :: rest) (o - cnO P) (cd ++ P.map (fun x => (x, 0))) 0 := by
  have ll : (P ++ c :: rest).length = P.length + (rest.length + 1) := List.length_append
  have hb1 := m_betw hx h (by omega)
  have hp1 := m_part hx h (by omega)
  have hx0 := hx
  obtain ⟨hn, hO, hT, hT2, hT3, -⟩ := hx0
  obtain ⟨o1, -⟩ := m_opI hn hO h.2.2.1 (by omega)
  obtain ⟨J1, s1, s2⟩ := ms_set hx h (lv := 1) (by omega) (by omega) (by show rkN c < 1; unfold rkN; rw [if_pos hc]; omega) (fun x hx => rk_1 (hp x hx)) ho ho2 (by show P.length + (rest.length + 1) ≤ 159; omega)
  obtain ⟨hR, hi, hP, h17, h18, hC, hln, hS⟩ := s2
  have hiT := kd_T hT3 hi hk
  obtain ⟨J2, L2, q1, r1, r2, r3, r4, r5, r6, r7, r8⟩ := ms_next (s := s) (L := L) (w := 1) (o := o - cnO P) (cd := cd ++ P.map (fun x => (x, 0))) (Q := c :: rest) hx (J1 := J1) hR hiT hP h17 h18 hC (by omega) hS
  have oa := m_openA hn hO r3 (by show rest.length + 1 ≤ 159; omega)
  rw [show opN (c :: rest) = some (c, rest.length) from (opC_app [] c rest (fun x hx => absurd hx List.not_mem_nil) hc).2] at oa
  have oa' : f12_openAt n J2 O 331 = some (nI rest.length) := oa
  obtain ⟨u1, u2, u3⟩ := Pi_top r3
  refine ⟨sI (sI J2 336 rest.length (nI c')) 331 18 0, L2, go_w h ?_, RT_fr r1 (fun k hk => by rw [sI_k _ _ (by omega), sI_o _ _ (by omega)]) (by rw [sI_o _ _ (by omega), sI_o _ _ (by omega)]), r2, ?_, by rw [sI_k _ _ (by omega), sI_o _ _ (by omega)]; exact r4, sI_s _ _ _ _, Cd_fr r6 (by rw [sI_o _ _ (by omega), sI_o _ _ (by omega)]) (by rw [sI_k _ _ (by omega), sI_o _ _ (by omega)]), r7, SF_s (by omega) (SF_p r8)⟩
  · have s1' : f12_settle n J O 331 1 = some J1 := s1
    rw [f12_behindOne, hb1, qb, hb, if_pos (by decide), o1, qb, hp1, qb, hpt, if_pos (show (0 : Int32) ≤ nI c' from (nI_leI (a := 0) (by omega) (by omega)).mpr (Nat.zero_le _)), s1', qb, q1, qb, if_neg (show ¬ nI c' ≤ 0 from nle_i (b := 0) (by omega) (by omega) (by omega))]
    show (f12_openAt n J2 O 331).bind _ = _
    rw [oa', qb, if_neg (nI_in (by omega) (by omega)), o_331_15 hO, qcl (by omega), qbl, qbl]
  · refine ⟨by rw [sI_k _ _ (by omega), sI_o _ _ (by omega)]; exact r3.1, fun k hk => ?_⟩
    rw [sI_o _ _ (show 336 ≠ 331 by omega)]
    cases k with
    | zero =>
      have e : (c' :: rest).length - 1 - 0 = rest.length := by show rest.length + 1 - 1 - 0 = rest.length; omega
      rw [e, sI_s]; exact ⟨hc64, rfl⟩
    | succ k =>
      have hk' : k < rest.length := Nat.lt_of_succ_lt_succ hk
      have e : (c' :: rest).length - 1 - (k + 1) = rest.length - 1 - k := by show rest.length + 1 - 1 - (k + 1) = _; omega
      have r3' := r3.2 (k + 1) hk
      have e' : (c :: rest).length - 1 - (k + 1) = rest.length - 1 - k := by show rest.length + 1 - 1 - (k + 1) = _; omega
      rw [e'] at r3'
      rw [e, sI_k _ _ (by omega)]
      exact r3'
/-- what was begun is shut -/
theorem m_bshut (hx : Cx n O B z T T0 s J0) {P us ctx : List Nat} {c : Nat} (h : MSt B z T T0 J0 J L i (P ++ c :: (us ++ ctx)) o cd 1) (hc : 40 ≤ c) (hc64 : c < 64) (hb : btI (P ++ c :: (us ++ ctx)) (kdT B z i) = -1) (hpt : ptI (P ++ c :: (us ++ ctx)) (kdT B z i) = nI 0) (hk : kdT B z i ≠ 27) (hp : ∀ x, x ∈ P → x < 40) (hu : ∀ x, x ∈ us → x = 2 ∨ x = 4 ∨ x = 5) (hct : tpR ctx < 7) (ho : cnO P + 1 + us.length ≤ o) (ho2 : o ≤ 1000) (hl : P.length + us.length + ctx.length ≤ 150) : ∃ J' L', Go n O J L i J' L' (i + 1) ∧ MSt B z T T0 J0 J' L' (i + 1) ctx (o - cnO P - 1 - us.length) (cd ++ P.map (fun x => (x, 0)) ++ (if c = 43 then [(3, 0)] else []) ++ us.map (fun x => (x, 0))) 1 := by
  have l2 : (us ++ ctx).length = us.length + ctx.length := List.length_append
  have ll : (P ++ c :: (us ++ ctx)).length = P.length + ((us ++ ctx).length + 1) := List.length_append
  have hb1 := m_betw hx h (by omega)
  have hp1 := m_part hx h (by omega)
  have hx0 := hx
  obtain ⟨hn, hO, hT, hT2, hT3, -⟩ := hx0
  obtain ⟨o1, -⟩ := m_opI hn hO h.2.2.1 (by omega)
  have oc := (opC_app P c (us ++ ctx) hp hc).1
  have oi : opI (P ++ c :: (us ++ ctx)) = nI c := by unfold opI; rw [oc, if_neg (by omega)]
  obtain ⟨J1, s1, s2⟩ := ms_set hx h (lv := 1) (by omega) (by omega) (by show rkN c < 1; unfold rkN; rw [if_pos hc]; omega) (fun x hx => rk_1 (hp x hx)) (by omega) ho2 (by show P.length + ((us ++ ctx).length + 1) ≤ 159; omega)
  obtain ⟨hR, hi, hP, h17, h18, hC, hln, hS⟩ := s2
  have hln' : (cd ++ P.map (fun x => (x, 0))).length + ((us ++ ctx).length + 1) ≤ i := hln
  have hiT := kd_T hT3 hi hk
  obtain ⟨J2, L2, q1, r1, r2, r3, r4, r5, r6, r7, r8⟩ := ms_next (s := s) (L := L) (w := 1) (o := o - cnO P) (cd := cd ++ P.map (fun x => (x, 0))) (Q := c :: (us ++ ctx)) hx (J1 := J1) hR hiT hP h17 h18 hC (by omega) hS
  obtain ⟨cu1, cu2⟩ := cn_u us hu
  obtain ⟨u1, u2, u3⟩ := Pi_top r3
  let J3 := sI (sI J2 331 17 (nI (o - cnO P - 1))) 331 16 (nI (us ++ ctx).length)
  have s3 : SFr T0 J0 J3 := SF_s (by omega) (SF_s (by omega) r8)
  have p3 : PiA J3 (us ++ ctx) := Pi_pop r3 (by show sI _ _ _ _ _ = _; rw [sI_o _ _ (by omega), sI_o _ _ (by omega)]) (sI_s _ _ _ _)
  have c3 : CdA J3 T0 (cd ++ P.map (fun x => (x, 0))) := Cd_fr r6 (by show sI _ _ _ _ _ = _; rw [sI_o _ _ (by omega), sI_o _ _ (by omega)]) (by show sI _ _ _ _ _ _ = _; rw [sI_k _ _ (by omega), sI_k _ _ (by omega)])
  have j17 : J3 331 17 = nI (o - cnO P - 1) := by show sI _ _ _ _ _ _ = _; rw [sI_k _ _ (by omega), sI_s]
  have j18 : J3 331 18 = nI 1 := by show sI _ _ _ _ _ _ = _; rw [sI_k _ _ (by omega), sI_k _ _ (by omega)]; exact r5
  have rt3 : RT J3 L2 B z (i + 1) := RT_fr r1 (fun k hk => by show sI _ _ _ _ _ _ = _; rw [sI_k _ _ (by omega), sI_k _ _ (by omega)]) (by show sI _ _ _ _ _ = _; rw [sI_o _ _ (by omega), sI_o _ _ (by omega)])
  have s1' : f12_settle n J O 331 1 = some J1 := s1
  have e16 : nI ((us ++ ctx).length + 1) - 1 = nI (us ++ ctx).length := qsub (b := 1) (by omega)
  have pre : f12_behindOne n J L O 331 = (if nI c = (43 : Int32) then (f12_emit J3 O 331 (3 : Int32) (0 : Int32)).bind fun r19 => (f12_settle n r19 O 331 (7 : Int32)).bind fun r21 => some ((1 : Int32), r21, L2) else (f12_settle n J3 O 331 (7 : Int32)).bind fun r17 => some ((1 : Int32), r17, L2)) := by
    rw [f12_behindOne, hb1, qb, hb, if_pos (by decide), o1, qb, hp1, qb, hpt, if_pos (show (0 : Int32) ≤ nI 0 by decide), s1', qb, q1, qb, if_pos (show nI 0 ≤ 0 by decide), oi]
    show bl (sI J2 331 17 (J2 331 17 - 1)) _ = _
    rw [r4, show nI (o - cnO P) - 1 = nI (o - cnO P - 1) from qsub (b := 1) (by omega), qbl, sI_k _ _ (by omega), u1, e16, qbl]
  by_cases c43 : c = 43
  · obtain ⟨J4, e1, e2, e3, e4, e5⟩ := m_emit hO hT (SF_12 hx s3).1 c3 (by omega) 3 0
    obtain ⟨J5, t1, t2, t3, t4, t5⟩ := m_settle (n := n) hO hT (lv := 7) (by omega) (by omega) hct us n J4 (cd ++ P.map (fun x => (x, 0)) ++ [(3, 0)]) (o - cnO P - 1) (by omega) (SF_12 hx (SF_e s3 e3)).1 (Pi_fr p3 (e3.1 336 (by omega) (by omega)) e4) e2 (by rw [e5]; exact j17) (by omega) (by omega) cu2 (by omega) (by rw [List.length_append]; show _ + 1 + _ ≤ 302; omega)
    rw [if_pos c43]
    refine ⟨J5, L2, go_w h ?_, RT_ef (RT_ef rt3 e3) t5, r2, t2, by rw [t4, cu1], by rw [t5.2.1 18 (by omega) (by omega) (by omega), e3.2.1 18 (by omega) (by omega) (by omega)]; exact j18, t3, ?_, SF_e (SF_e s3 e3) t5⟩
    · rw [pre, if_pos (show nI c = 43 by rw [c43]; rfl), show f12_emit J3 O 331 3 0 = _ from e1, qb, f12_settle, show f12_settle_c0 n O n J4 331 7 = _ from t1, qb]
    · rw [List.length_append, List.length_append, List.length_map]
      show _ + 1 + us.length + ctx.length ≤ i + 1
      omega
  · obtain ⟨J5, t1, t2, t3, t4, t5⟩ := m_settle (n := n) hO hT (lv := 7) (by omega) (by omega) hct us n J3 (cd ++ P.map (fun x => (x, 0))) (o - cnO P - 1) (by omega) (SF_12 hx s3).1 p3 c3 j17 (by omega) (by omega) cu2 (by omega) (by omega)
    rw [if_neg c43, List.append_nil]
    refine ⟨J5, L2, go_w h ?_, RT_ef rt3 t5, r2, t2, by rw [t4, cu1], by rw [t5.2.1 18 (by omega) (by omega) (by omega)]; exact j18, t3, ?_, SF_e s3 t5⟩
    · rw [pre, if_neg (show ¬ nI c = 43 from fun g => c43 (by rw [show (43 : Int32) = nI 43 from rfl, nI_eq (by omega) (by omega)] at g; exact g)), f12_settle, show f12_settle_c0 n O n J3 331 7 = _ from t1, qb]
    · rw [List.length_append, List.length_map]
      omega
/-- nothing goes on: a fault, or the end -/
theorem m_bnone (hx : Cx n O B z T T0 s J0) (h : MSt B z T T0 J0 J L i Q o cd 1) (hb : btI Q (kdT B z i) = -1) (hpt : ptI Q (kdT B z i) = -1) (hl : Q.length ≤ 159) : f12_behindOne n J L O 331 = some (0, J, L) := by
  have hb1 := m_betw hx h hl
  have hp1 := m_part hx h hl
  have hx0 := hx
  obtain ⟨hn, hO, -⟩ := hx0
  obtain ⟨o1, -⟩ := m_opI hn hO h.2.2.1 hl
  rw [f12_behindOne, hb1, qb, hb, if_pos (by decide), o1, qb, hp1, qb, hpt, if_neg (by decide)]
theorem m_bflt (hx : Cx n O B z T T0 s J0) (h : MSt B z T T0 J0 J L i Q o cd 1) (hb : btI Q (kdT B z i) = -1) (hpt : ptI Q (kdT B z i) = -1) (hop : opC Q ≠ 0) (hl : Q.length ≤ 159) : Flt n O B z T0 J0 J L i 1 i := by
  have e := m_bnone hx h hb hpt hl
  have hx0 := hx
  obtain ⟨hn, hO, -⟩ := hx0
  obtain ⟨o1, o2⟩ := m_opI hn hO h.2.2.1 hl
  refine ⟨Nat.le_refl _, fun m hm => ⟨J, L, ?_, h.1.2.2.1, h.2.2.2.2.2.2.2⟩⟩
  obtain ⟨m, rfl⟩ : ∃ m', m = m' + 1 := ⟨m - 1, by omega⟩
  have oi : opI Q = nI (opC Q) := by unfold opI; rw [if_neg hop]
  rw [f12_summed_c15, h.2.2.2.2.1, if_neg (show ¬ nI 1 = 0 by decide), e, qb, if_pos rfl]
  show (f12_openNow n J O 331).bind _ = _
  rw [o1, qb, oi, if_neg (fun g => by have := (nI_ltI (b := 0) (by omega) (by omega)).mp g; omega)]
  rfl
end BH
