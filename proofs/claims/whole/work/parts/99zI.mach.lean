/-! the reference reads a law: the parts of a law -/
def CO (C : List (Nat × Nat)) : Prop := ∀ p, p ∈ C → (p.1 ≤ 15 ∨ (20 ≤ p.1 ∧ p.1 ≤ 22)) ∧ p.2 < 10000 ∧ (p.1 = 1 → p.2 < 7)
def UsO (us : List Nat) : Prop := ∀ x, x ∈ us → x = 2 ∨ x = 4 ∨ x = 5
def RunV (n : Nat) (O : TO) (B : TN) (z T T0 : Nat) (J0 J : TI) (L : TL) (i j : Nat) (Q : List Nat) (o : Nat) (cd : List (Nat × Nat)) : Prop := ∃ J' L', Go n O J L i J' L' j ∧ MSt B z T T0 J0 J' L' j Q o cd 1
theorem CO_a {C D : List (Nat × Nat)} (h : CO C) (g : CO D) : CO (C ++ D) := fun p hp => by
  rcases List.mem_append.mp hp with q | q
  · exact h p q
  · exact g p q
theorem CO_m {P : List Nat} (h : ∀ x, x ∈ P → x ≤ 15 ∧ x ≠ 1 ∨ (20 ≤ x ∧ x ≤ 22)) : CO (P.map (fun x => (x, 0))) := fun p hp => by
  obtain ⟨x, h1, h2⟩ := List.mem_map.mp hp
  rw [← h2]
  have := h x h1
  refine ⟨?_, ?_, fun g => ?_⟩
  · show x ≤ 15 ∨ (20 ≤ x ∧ x ≤ 22); omega
  · show 0 < 10000; omega
  · have g' : x = 1 := g
    omega
section MP
variable (n : Nat) (O : TO) (B : TN) (z T T0 s : Nat)
def En1 (o i : Nat) (J0 J : TI) (L : TL) (us ctx : List Nat) (cd : List (Nat × Nat)) : Prop := Cx n O B z T T0 s J0 ∧ MSt B z T T0 J0 J L i (us ++ ctx) o cd 0 ∧ UsO us ∧ tpR ctx < 7 ∧ us.length ≤ o ∧ us.length + ctx.length ≤ 7 * o + 2 ∧ o ≤ 8 ∧ (kdT B z i = 22 → askQ (us ++ ctx) = false)
def EnC (o i : Nat) (J0 J : TI) (L : TL) (us ctx : List Nat) (cd : List (Nat × Nat)) : Prop := Cx n O B z T T0 s J0 ∧ MSt B z T T0 J0 J L i (41 :: (us ++ ctx)) o cd 0 ∧ UsO us ∧ tpR ctx < 7 ∧ us.length + 1 ≤ o ∧ us.length + ctx.length + 5 ≤ 7 * o ∧ o ≤ 8
def EnV (lv o i : Nat) (J0 J : TI) (L : TL) (ctx : List Nat) (cd : List (Nat × Nat)) : Prop := Cx n O B z T T0 s J0 ∧ MSt B z T T0 J0 J L i ctx o cd 0 ∧ tpR ctx < lv ∧ ctx.length + 5 ≤ 7 * o + lv ∧ o ≤ 8 ∧ (kdT B z i = 22 → askQ ctx = false)
def EnT (lv o i : Nat) (J0 J : TI) (L : TL) (ctx : List Nat) (cd : List (Nat × Nat)) : Prop := Cx n O B z T T0 s J0 ∧ MSt B z T T0 J0 J L i ctx o cd 0 ∧ tpR ctx < (if lv = 3 then 4 else lv) ∧ askQ ctx = true ∧ opC ctx = 41 ∧ ctx.length + 5 ≤ 7 * o + lv ∧ o ≤ 8
def Ok1 (o i j : Nat) (v : lEnv → Int) : Prop := i < j ∧ ∃ C, VM s C v ∧ CO C ∧ ∀ J0 J L us ctx cd, En1 n O B z T T0 s o i J0 J L us ctx cd → RunV n O B z T T0 J0 J L i j ctx (o - us.length) (cd ++ C ++ us.map (fun x => (x, 0)))
def Fl1 (o i f j : Nat) : Prop := ∀ J0 J L us ctx cd, En1 n O B z T T0 s o i J0 J L us ctx cd → Flt n O B z T0 J0 J L i f j
def OkC (o i j : Nat) (v : lEnv → Int) : Prop := i < j ∧ ∃ C, VM s C v ∧ CO C ∧ ∀ J0 J L us ctx cd, EnC n O B z T T0 s o i J0 J L us ctx cd → RunV n O B z T T0 J0 J L i j ctx (o - 1 - us.length) (cd ++ C ++ us.map (fun x => (x, 0)))
def FlC (o i f j : Nat) : Prop := ∀ J0 J L us ctx cd, EnC n O B z T T0 s o i J0 J L us ctx cd → Flt n O B z T0 J0 J L i f j
/-- sums (5), products (6) -/
def OkV (lv o i j : Nat) (v : lEnv → Int) : Prop := i < j ∧ ∃ C P, VM s (C ++ P.map (fun x => (x, 0))) v ∧ CO C ∧ (∀ x, x ∈ P → 6 ≤ x ∧ x ≤ 9 ∧ lv ≤ rkN x) ∧ P.length + lv ≤ 7 ∧ ∀ J0 J L ctx cd, EnV n O B z T T0 s lv o i J0 J L ctx cd → RunV n O B z T T0 J0 J L i j (P ++ ctx) o (cd ++ C)
def FlV (lv o i f j : Nat) : Prop := ∀ J0 J L ctx cd, EnV n O B z T T0 s lv o i J0 J L ctx cd → Flt n O B z T0 J0 J L i f j
/-- what is asked: one (3), and (2), or (1) -/
def OkT (lv o i j : Nat) (b : lEnv → Bool) : Prop := i < j ∧ ∃ C P, BM s (C ++ P.map (fun x => (x, 0))) b ∧ CO C ∧ (∀ x, x ∈ P → ((6 ≤ x ∧ x ≤ 15) ∨ (20 ≤ x ∧ x ≤ 22)) ∧ lv ≤ rkN x) ∧ (∀ Q, cmQ (P ++ Q) = true) ∧ P.length + o + lv ≤ 14 ∧ ∀ J0 J L ctx cd, EnT n O B z T T0 s lv o i J0 J L ctx cd → RunV n O B z T T0 J0 J L i j (P ++ ctx) (o + cnO P) (cd ++ C)
def FlT (lv o i f j : Nat) : Prop := ∀ J0 J L ctx cd, EnT n O B z T T0 s lv o i J0 J L ctx cd → Flt n O B z T0 J0 J L i f j
end MP
theorem cn_0 : ∀ (P : List Nat), (∀ x, x ∈ P → 6 ≤ x ∧ x ≤ 9) → cnO P = 0 := by
  intro P
  induction P with
  | nil => intro _; rfl
  | cons x P ih =>
    intro h
    have hx := h x List.mem_cons_self
    have i := ih (fun y hy => h y (List.mem_cons_of_mem _ hy))
    show (if rkN x = 7 ∨ x = 20 then 1 else 0) + cnO P = 0
    have : ¬ (rkN x = 7 ∨ x = 20) := by
      have : x = 6 ∨ x = 7 ∨ x = 8 ∨ x = 9 := by omega
      rcases this with rfl | rfl | rfl | rfl <;> decide
    rw [if_neg this, i]
theorem cn_le : ∀ (P : List Nat), cnO P ≤ P.length := by
  intro P
  induction P with
  | nil => exact Nat.le_refl _
  | cons x P ih =>
    show (if rkN x = 7 ∨ x = 20 then 1 else 0) + cnO P ≤ P.length + 1
    split <;> omega
theorem cn_app : ∀ (P R : List Nat), cnO (P ++ R) = cnO P + cnO R := by
  intro P R
  induction P with
  | nil => show cnO R = 0 + cnO R; omega
  | cons x P ih =>
    show (if rkN x = 7 ∨ x = 20 then 1 else 0) + cnO (P ++ R) = (if rkN x = 7 ∨ x = 20 then 1 else 0) + cnO P + cnO R
    rw [ih]; omega
theorem opC_sk : ∀ (P Q : List Nat), (∀ x, x ∈ P → x < 40) → opC (P ++ Q) = opC Q := by
  intro P Q
  induction P with
  | nil => intro _; rfl
  | cons x P ih =>
    intro h
    have e : opN (x :: (P ++ Q)) = opN (P ++ Q) := by show (if 40 ≤ x then _ else _) = _; rw [if_neg (by have := h x List.mem_cons_self; omega)]
    have i := ih (fun y hy => h y (List.mem_cons_of_mem _ hy))
    unfold opC at i ⊢
    show (match opN (x :: (P ++ Q)) with | none => 0 | some (c, _) => c) = _
    rw [e]; exact i
theorem cm_sk : ∀ (P Q : List Nat), (∀ x, x ∈ P → 4 < rkN x) → cmQ (P ++ Q) = cmQ Q := by
  intro P Q
  induction P with
  | nil => intro _; rfl
  | cons x P ih =>
    intro h
    show (if 4 < rkN x then cmQ (P ++ Q) else decide (rkN x = 4)) = cmQ Q
    rw [if_pos (h x List.mem_cons_self)]
    exact ih (fun y hy => h y (List.mem_cons_of_mem _ hy))
theorem ask_top {Q : List Nat} (h : askQ Q = true) : ∃ x Q', Q = x :: Q' ∧ opC Q = 41 ∧ (40 ≤ x ∨ (1 ≤ rkN x ∧ rkN x ≤ 3)) := by
  cases Q with
  | nil => exact absurd h (by decide)
  | cons x Q' =>
    cases hq : opN (x :: Q') with
    | none =>
      unfold askQ at h
      rw [hq] at h
      exact absurd h (by intro g; cases g)
    | some q =>
      obtain ⟨c, k⟩ := q
      unfold askQ at h
      rw [hq] at h
      have h' : (decide (c = 41) && (decide (40 ≤ x) || (decide (1 ≤ rkN x) && decide (rkN x ≤ 3)))) = true := h
      rw [Bool.and_eq_true, decide_eq_true_eq, Bool.or_eq_true, Bool.and_eq_true, decide_eq_true_eq, decide_eq_true_eq, decide_eq_true_eq] at h'
      refine ⟨x, Q', rfl, ?_, h'.2⟩
      unfold opC; rw [hq]; exact h'.1
theorem ask_cm {Q : List Nat} (h : askQ Q = true) : cmQ Q = false := by
  obtain ⟨x, Q', rfl, -, h2⟩ := ask_top h
  have r : rkN x ≤ 3 := by
    rcases h2 with g | g
    · unfold rkN; rw [if_pos g]; omega
    · exact g.2
  show (if 4 < rkN x then _ else decide (rkN x = 4)) = false
  rw [if_neg (by omega)]
  exact decide_eq_false (by omega)
theorem ask_no {x : Nat} {Q : List Nat} (h1 : x < 40) (h2 : 4 ≤ rkN x) : askQ (x :: Q) = false := by
  unfold askQ
  cases opN (x :: Q) with
  | none => rfl
  | some q =>
    obtain ⟨c, k⟩ := q
    show (decide (c = 41) && (decide (40 ≤ x) || (decide (1 ≤ rkN x) && decide (rkN x ≤ 3)))) = false
    rw [decide_eq_false (show ¬ 40 ≤ x by omega), decide_eq_false (show ¬ rkN x ≤ 3 by omega), Bool.and_false, Bool.or_false, Bool.and_false]
theorem ask_yes {x : Nat} {Q : List Nat} (h1 : x < 40) (h2 : 1 ≤ rkN x ∧ rkN x ≤ 3) (h3 : opC Q = 41) : askQ (x :: Q) = true ∧ opC (x :: Q) = 41 := by
  have e : opN (x :: Q) = opN Q := by show (if 40 ≤ x then _ else _) = _; rw [if_neg (by omega)]
  have o : opC (x :: Q) = opC Q := by unfold opC; rw [e]
  refine ⟨?_, by rw [o, h3]⟩
  unfold askQ
  rw [e]
  unfold opC at h3
  cases hq : opN Q with
  | none => rw [hq] at h3; exact absurd h3 (by decide)
  | some q =>
    obtain ⟨c, k⟩ := q
    rw [hq] at h3
    have h3' : c = 41 := h3
    show (decide (c = 41) && (decide (40 ≤ x) || (decide (1 ≤ rkN x) && decide (rkN x ≤ 3)))) = true
    rw [decide_eq_true h3', decide_eq_true h2.1, decide_eq_true h2.2, Bool.true_and, Bool.true_and, Bool.or_true]
theorem ask_hd {c : Nat} {Q : List Nat} (h : 40 ≤ c) : askQ (c :: Q) = decide (c = 41) ∧ opC (c :: Q) = c := by
  have e : opN (c :: Q) = some (c, Q.length) := by show (if 40 ≤ c then _ else _) = _; rw [if_pos h]
  refine ⟨?_, by unfold opC; rw [e]⟩
  unfold askQ
  rw [e]
  show (decide (c = 41) && (decide (40 ≤ c) || _)) = decide (c = 41)
  rw [decide_eq_true h, Bool.true_or, Bool.and_true]
section MQ
variable {n : Nat} {O : TO} {B : TN} {z T T0 s : Nat}
theorem En_V {lv o i : Nat} {J0 J : TI} {L : TL} {ctx : List Nat} {cd : List (Nat × Nat)} (h6 : lv ≤ 6) (h : EnV n O B z T T0 s lv o i J0 J L ctx cd) : En1 n O B z T T0 s o i J0 J L [] ctx cd := by
  obtain ⟨h1, h2, h3, h4, h5, h7⟩ := h
  exact ⟨h1, h2, fun x hx => absurd hx List.not_mem_nil, by omega, Nat.zero_le _, by show 0 + ctx.length ≤ 7 * o + 2; omega, h5, h7⟩
theorem Ok_1V {o i j : Nat} {v : lEnv → Int} (h : Ok1 n O B z T T0 s o i j v) : OkV n O B z T T0 s 6 o i j v := by
  obtain ⟨h0, C, h1, h2, h3⟩ := h
  refine ⟨h0, C, [], by rw [List.map_nil, List.append_nil]; exact h1, h2, fun x hx => absurd hx List.not_mem_nil, by decide, fun J0 J L ctx cd hE => ?_⟩
  have := h3 J0 J L [] ctx cd (En_V (by omega) hE)
  rw [List.map_nil, List.append_nil] at this
  exact this
theorem Fl_1V {o i f j : Nat} (h : Fl1 n O B z T T0 s o i f j) : FlV n O B z T T0 s 6 o i f j := fun J0 J L ctx cd hE => h J0 J L [] ctx cd (En_V (by omega) hE)
theorem En_56 {o i : Nat} {J0 J : TI} {L : TL} {ctx : List Nat} {cd : List (Nat × Nat)} (h : EnV n O B z T T0 s 5 o i J0 J L ctx cd) : EnV n O B z T T0 s 6 o i J0 J L ctx cd := by
  obtain ⟨h1, h2, h3, h4, h5, h7⟩ := h
  exact ⟨h1, h2, by omega, by omega, h5, h7⟩
theorem Ok_65 {o i j : Nat} {v : lEnv → Int} (h : OkV n O B z T T0 s 6 o i j v) : OkV n O B z T T0 s 5 o i j v := by
  obtain ⟨h0, C, P, h1, h2, h3, h4, h5⟩ := h
  exact ⟨h0, C, P, h1, h2, fun x hx => ⟨(h3 x hx).1, (h3 x hx).2.1, by have := (h3 x hx).2.2; omega⟩, by omega, fun J0 J L ctx cd hE => h5 J0 J L ctx cd (En_56 hE)⟩
theorem Fl_65 {o i f j : Nat} (h : FlV n O B z T T0 s 6 o i f j) : FlV n O B z T T0 s 5 o i f j := fun J0 J L ctx cd hE => h J0 J L ctx cd (En_56 hE)
/-- behind a part: a sign of rank lv -/
theorem V_op {lv o i j op : Nat} {v : lEnv → Int} (hop : op = 6 ∨ op = 7 ∨ op = 8 ∨ op = 9) (hr : rkN op = lv) (hk : kdT B z j = kxo op) (h : OkV n O B z T T0 s lv o i j v) : ∃ C, VM s C v ∧ CO C ∧ ∀ J0 J L ctx cd, EnV n O B z T T0 s lv o i J0 J L ctx cd → ∃ J' L', Go n O J L i J' L' (j + 1) ∧ MSt B z T T0 J0 J' L' (j + 1) (op :: ctx) o (cd ++ C) 0 := by
  obtain ⟨h0, C, P, h1, h2, h3, h4, h5⟩ := h
  have hP : ∀ x, x ∈ P → 6 ≤ x ∧ x ≤ 9 := fun x hx => ⟨(h3 x hx).1, (h3 x hx).2.1⟩
  refine ⟨C ++ P.map (fun x => (x, 0)), h1, CO_a h2 (CO_m (fun x hx => by have := hP x hx; omega)), fun J0 J L ctx cd hE => ?_⟩
  obtain ⟨J1, L1, g1, g2⟩ := h5 J0 J L ctx cd hE
  obtain ⟨e1, e2, e3, e4, e5, e6⟩ := hE
  have r4 : ¬ rkN op = 4 := by rcases hop with rfl | rfl | rfl | rfl <;> decide
  have bt : btI (P ++ ctx) (kdT B z j) = nI op := by
    rw [hk]
    unfold btI
    rcases hop with rfl | rfl | rfl | rfl <;> rfl
  have kn : kdT B z j ≠ 27 := by rw [hk]; rcases hop with rfl | rfl | rfl | rfl <;> decide
  obtain ⟨J', L', q1, q2⟩ := m_bop (n := n) (s := s) (lv := lv) (op := op) e1 g2 (by omega) bt (by rw [if_neg r4, hr]) kn e3 (fun x hx => (h3 x hx).2.2) (by rw [cn_0 P hP]; omega) (by omega) (by omega)
  rw [cn_0 P hP, Nat.sub_zero, List.append_assoc] at q2
  exact ⟨J', L', Go_t g1 q1, q2⟩
theorem Ok_prod {o i j k op : Nat} {v w : lEnv → Int} (hop : op = 8 ∨ op = 9) (hk : kdT B z j = kxo op) (h : OkV n O B z T T0 s 6 o i j v) (g : Ok1 n O B z T T0 s o (j + 1) k w) : OkV n O B z T T0 s 6 o i k (fun e => ar (kxo op) (v e) (w e)) := by
  have hr : rkN op = 6 := by rcases hop with rfl | rfl <;> rfl
  have h0 := h.1
  obtain ⟨C, c1, c2, c3⟩ := V_op (by omega) hr hk h
  obtain ⟨g0, D, d1, d2, d3⟩ := g
  refine ⟨by omega, C ++ D, [op], VM_two c1 d1 (by omega), CO_a c2 d2, fun x hx => ?_, by show 1 + 6 ≤ 7; decide, fun J0 J L ctx cd hE => ?_⟩
  · rw [List.mem_singleton.mp hx]; omega
  · obtain ⟨J1, L1, q1, q2⟩ := c3 J0 J L ctx cd hE
    obtain ⟨e1, e2, e3, e4, e5, e6⟩ := hE
    obtain ⟨J2, L2, q3, q4⟩ := d3 J0 J1 L1 [] (op :: ctx) (cd ++ C) ⟨e1, q2, fun x hx => absurd hx List.not_mem_nil, by show rkN op < 7; omega, Nat.zero_le _, by show 0 + (ctx.length + 1) ≤ 7 * o + 2; omega, e5, fun _ => ask_no (by omega) (by omega)⟩
    rw [List.map_nil, List.append_nil, List.append_assoc] at q4
    exact ⟨J2, L2, Go_t q1 q3, q4⟩
theorem Fl_prod {o i j f k op : Nat} {v : lEnv → Int} (hop : op = 8 ∨ op = 9) (hk : kdT B z j = kxo op) (h : OkV n O B z T T0 s 6 o i j v) (g : Fl1 n O B z T T0 s o (j + 1) f k) : FlV n O B z T T0 s 6 o i f k := by
  have hr : rkN op = 6 := by rcases hop with rfl | rfl <;> rfl
  obtain ⟨C, c1, c2, c3⟩ := V_op (by omega) hr hk h
  intro J0 J L ctx cd hE
  obtain ⟨J1, L1, q1, q2⟩ := c3 J0 J L ctx cd hE
  obtain ⟨e1, e2, e3, e4, e5, e6⟩ := hE
  exact Go_f q1 (g J0 J1 L1 [] (op :: ctx) (cd ++ C) ⟨e1, q2, fun x hx => absurd hx List.not_mem_nil, by show rkN op < 7; omega, Nat.zero_le _, by show 0 + (ctx.length + 1) ≤ 7 * o + 2; omega, e5, fun _ => ask_no (by omega) (by omega)⟩)
theorem Ok_sum {o i j k op : Nat} {v w : lEnv → Int} (hop : op = 6 ∨ op = 7) (hk : kdT B z j = kxo op) (h : OkV n O B z T T0 s 5 o i j v) (g : OkV n O B z T T0 s 6 o (j + 1) k w) : OkV n O B z T T0 s 5 o i k (fun e => ar (kxo op) (v e) (w e)) := by
  have hr : rkN op = 5 := by rcases hop with rfl | rfl <;> rfl
  have h0 := h.1
  obtain ⟨C, c1, c2, c3⟩ := V_op (by omega) hr hk h
  obtain ⟨g0, D, P, d1, d2, dp, dl, d3⟩ := g
  refine ⟨by omega, C ++ D, P ++ [op], ?_, CO_a c2 d2, fun x hx => ?_, by rw [List.length_append]; show P.length + 1 + 5 ≤ 7; omega, fun J0 J L ctx cd hE => ?_⟩
  · have := VM_two c1 d1 (o := op) (by omega)
    rw [List.map_append, ← List.append_assoc, List.append_assoc C D, ]
    exact this
  · rcases List.mem_append.mp hx with q | q
    · have := dp x q; omega
    · rw [List.mem_singleton.mp q]; omega
  · obtain ⟨J1, L1, q1, q2⟩ := c3 J0 J L ctx cd hE
    obtain ⟨e1, e2, e3, e4, e5, e6⟩ := hE
    obtain ⟨J2, L2, q3, q4⟩ := d3 J0 J1 L1 (op :: ctx) (cd ++ C) ⟨e1, q2, by show rkN op < 6; omega, by show ctx.length + 1 + 5 ≤ 7 * o + 6; omega, e5, fun _ => ask_no (by omega) (by omega)⟩
    rw [List.append_assoc] at q4
    rw [List.append_assoc P [op] ctx]
    exact ⟨J2, L2, Go_t q1 q3, q4⟩
theorem Fl_sum {o i j f k op : Nat} {v : lEnv → Int} (hop : op = 6 ∨ op = 7) (hk : kdT B z j = kxo op) (h : OkV n O B z T T0 s 5 o i j v) (g : FlV n O B z T T0 s 6 o (j + 1) f k) : FlV n O B z T T0 s 5 o i f k := by
  have hr : rkN op = 5 := by rcases hop with rfl | rfl <;> rfl
  obtain ⟨C, c1, c2, c3⟩ := V_op (by omega) hr hk h
  intro J0 J L ctx cd hE
  obtain ⟨J1, L1, q1, q2⟩ := c3 J0 J L ctx cd hE
  obtain ⟨e1, e2, e3, e4, e5, e6⟩ := hE
  exact Go_f q1 (g J0 J1 L1 (op :: ctx) (cd ++ C) ⟨e1, q2, by show rkN op < 6; omega, by show ctx.length + 1 + 5 ≤ 7 * o + 6; omega, e5, fun _ => ask_no (by omega) (by omega)⟩)
/-- one -/
theorem Ok_num {o i : Nat} (hk : kdT B z i = 28) (hv : nvT B z i ≤ 9999) : Ok1 n O B z T T0 s o i (i + 1) (fun _ => (nvT B z i : Int)) := by
  refine ⟨by omega, [(0, nvT B z i)], VM_num hv, fun p hp => ?_, fun J0 J L us ctx cd hE => ?_⟩
  · rw [List.mem_singleton.mp hp]
    exact ⟨Or.inl (Nat.zero_le _), by show nvT B z i < 10000; omega, fun g => absurd g (by show ¬ 0 = 1; omega)⟩
  · obtain ⟨e1, e2, e3, e4, e5, e6, e7, e8⟩ := hE
    have ll : (us ++ ctx).length = us.length + ctx.length := List.length_append
    obtain ⟨J', L', q1, q2⟩ := m_c81 e1 e2 (by omega) e3 e4 e5 e7 (by omega) (nvT B z i) 0
    refine ⟨J', L', go_b e2 ?_, q2⟩
    rw [m_begin e1 e2 (by omega), if_pos hk, if_pos hv]; exact q1
theorem nm_lt {c : Nat} (h : c < 7) : nmX c < 7 := by
  unfold nmX
  split
  · omega
  · split <;> omega
theorem Ok_name {o i : Nat} (hk : 7 ≤ kdT B z i ∧ kdT B z i ≤ 13) (hv : okN s (nmX (kdT B z i - 7)) = true) : Ok1 n O B z T T0 s o i (i + 1) (fun e => e.1 (nmX (kdT B z i - 7))) := by
  have nl := nm_lt (show kdT B z i - 7 < 7 by omega)
  refine ⟨by omega, [(1, nmX (kdT B z i - 7))], VM_name hv, fun p hp => ?_, fun J0 J L us ctx cd hE => ?_⟩
  · rw [List.mem_singleton.mp hp]
    exact ⟨Or.inl (by show 1 ≤ 15; omega), by show nmX _ < 10000; omega, fun _ => nl⟩
  · obtain ⟨e1, e2, e3, e4, e5, e6, e7, e8⟩ := hE
    have ll : (us ++ ctx).length = us.length + ctx.length := List.length_append
    obtain ⟨J', L', q1, q2⟩ := m_c81 e1 e2 (by omega) e3 e4 e5 e7 (by omega) (nmX (kdT B z i - 7)) 1
    refine ⟨J', L', go_b e2 ?_, q2⟩
    rw [m_begin e1 e2 (by omega), if_neg (by omega), if_pos hk, if_pos hv]; exact q1
def opU (k : Nat) : Nat := if k = 40 then 40 else if k = 45 then 5 else if k = 14 then 4 else if k = 15 then 2 else 41
/-- something is begun -/
theorem En_open {o i : Nat} {J0 J : TI} {L : TL} {us ctx : List Nat} {cd : List (Nat × Nat)} (hk : kdT B z i = 40 ∨ kdT B z i = 45 ∨ kdT B z i = 14 ∨ kdT B z i = 15 ∨ kdT B z i = 16) (ho : o < 8) (hE : En1 n O B z T T0 s o i J0 J L us ctx cd) : ∃ J' L', Go n O J L i J' L' (i + 1) ∧ MSt B z T T0 J0 J' L' (i + 1) (opU (kdT B z i) :: (us ++ ctx)) (o + 1) cd 0 := by
  obtain ⟨e1, e2, e3, e4, e5, e6, e7, e8⟩ := hE
  have ll : (us ++ ctx).length = us.length + ctx.length := List.length_append
  have bg := m_begin e1 e2 (by omega)
  obtain ⟨J', L', q1, q2⟩ := m_opened e1 e2 ho (by omega) (by omega) (x := opU (kdT B z i)) (by rcases hk with g | g | g | g | g <;> rw [g] <;> decide)
  refine ⟨J', L', go_b e2 ?_, q2⟩
  rw [bg, ← q1]
  unfold opU
  rcases hk with g | g | g | g | g <;> rw [g] <;> rfl
theorem Fl_deep {i : Nat} (hk : kdT B z i = 40 ∨ kdT B z i = 45 ∨ kdT B z i = 14 ∨ kdT B z i = 15 ∨ kdT B z i = 16) : Fl1 n O B z T T0 s 8 i 3 i := by
  intro J0 J L us ctx cd ⟨e1, e2, e3, e4, e5, e6, e7, e8⟩
  have ll : (us ++ ctx).length = us.length + ctx.length := List.length_append
  have bg := m_begin e1 e2 (by omega)
  refine go_bf e2 (by omega) (by omega) ?_
  rw [bg]
  rcases hk with g | g | g | g | g <;> rw [g]
  · exact m_openedF e2 rfl _
  · exact m_openedF e2 rfl _
  · exact m_openedF e2 rfl _
  · exact m_openedF e2 rfl _
  · exact m_openedF e2 rfl _
theorem Fl_big {o i : Nat} (hk : kdT B z i = 28) (hv : ¬ nvT B z i ≤ 9999) : Fl1 n O B z T T0 s o i 2 i := by
  intro J0 J L us ctx cd ⟨e1, e2, e3, e4, e5, e6, e7, e8⟩
  have ll : (us ++ ctx).length = us.length + ctx.length := List.length_append
  refine go_bf e2 (by omega) (by omega) ?_
  rw [m_begin e1 e2 (by omega), if_pos hk, if_neg hv]; rfl
theorem Fl_name {o i : Nat} (hk : 7 ≤ kdT B z i ∧ kdT B z i ≤ 13) (hv : okN s (nmX (kdT B z i - 7)) = false) : Fl1 n O B z T T0 s o i 5 i := by
  intro J0 J L us ctx cd ⟨e1, e2, e3, e4, e5, e6, e7, e8⟩
  have ll : (us ++ ctx).length = us.length + ctx.length := List.length_append
  refine go_bf e2 (by omega) (by omega) ?_
  rw [m_begin e1 e2 (by omega), if_neg (by omega), if_pos hk, hv, if_neg (by decide)]; rfl
theorem Fl_none {o i : Nat} (hk : ¬ (kdT B z i = 40 ∨ kdT B z i = 45 ∨ kdT B z i = 14 ∨ kdT B z i = 15 ∨ kdT B z i = 16)) (h28 : kdT B z i ≠ 28) (hn : ¬ (7 ≤ kdT B z i ∧ kdT B z i ≤ 13)) : Fl1 n O B z T T0 s o i 1 i := by
  intro J0 J L us ctx cd ⟨e1, e2, e3, e4, e5, e6, e7, e8⟩
  have ll : (us ++ ctx).length = us.length + ctx.length := List.length_append
  refine go_bf e2 (by omega) (by omega) ?_
  rw [m_begin e1 e2 (by omega), if_neg h28, if_neg hn, if_neg (by omega), if_neg (by omega), if_neg (by omega), if_neg (by omega), if_neg (by omega)]
  by_cases k22 : kdT B z i = 22
  · rw [if_pos k22, e8 k22, if_neg (by decide)]; rfl
  · rw [if_neg k22]; rfl
/-- a sign before one -/
theorem En_un {o i : Nat} {J0 J : TI} {L : TL} {us ctx : List Nat} {cd : List (Nat × Nat)} (hk : kdT B z i = 45 ∨ kdT B z i = 14 ∨ kdT B z i = 15) (ho : o < 8) (hE : En1 n O B z T T0 s o i J0 J L us ctx cd) : ∃ J' L', Go n O J L i J' L' (i + 1) ∧ En1 n O B z T T0 s (o + 1) (i + 1) J0 J' L' (opU (kdT B z i) :: us) ctx cd := by
  obtain ⟨J', L', q1, q2⟩ := En_open (by omega) ho hE
  obtain ⟨e1, e2, e3, e4, e5, e6, e7, e8⟩ := hE
  have ou : opU (kdT B z i) = 5 ∨ opU (kdT B z i) = 4 ∨ opU (kdT B z i) = 2 := by
    unfold opU
    rcases hk with g | g | g <;> rw [g]
    · exact Or.inl rfl
    · exact Or.inr (Or.inl rfl)
    · exact Or.inr (Or.inr rfl)
  refine ⟨J', L', q1, e1, q2, fun x hx => ?_, e4, by show us.length + 1 ≤ o + 1; omega, by show us.length + 1 + ctx.length ≤ 7 * (o + 1) + 2; omega, by omega, fun _ => ask_no (by omega) (by rcases ou with g | g | g <;> rw [g] <;> decide)⟩
  rcases List.mem_cons.mp hx with g | g
  · omega
  · exact e3 x g
theorem kso_u {k : Nat} (h : k = 45 ∨ k = 14 ∨ k = 15) : kso (opU k) = (if k = 45 then 29 else k) ∧ (opU k = 2 ∨ opU k = 4 ∨ opU k = 5) := by
  rcases h with rfl | rfl | rfl <;> decide
theorem Ok_un {o i j : Nat} {v : lEnv → Int} (hk : kdT B z i = 45 ∨ kdT B z i = 14 ∨ kdT B z i = 15) (ho : o < 8) (g : Ok1 n O B z T T0 s (o + 1) (i + 1) j v) : Ok1 n O B z T T0 s o i j (fun e => xS1 e (if kdT B z i = 45 then 29 else kdT B z i) (v e)) := by
  obtain ⟨g0, C, c1, c2, c3⟩ := g
  obtain ⟨u1, u2⟩ := kso_u hk
  have vm := VM_one c1 u2
  rw [u1] at vm
  refine ⟨by omega, C ++ [(opU (kdT B z i), 0)], vm, CO_a c2 (fun p hp => ?_), fun J0 J L us ctx cd hE => ?_⟩
  · rw [List.mem_singleton.mp hp]
    refine ⟨Or.inl ?_, by show 0 < 10000; omega, fun q => ?_⟩
    · show opU _ ≤ 15; omega
    · have q' : opU (kdT B z i) = 1 := q
      omega
  · obtain ⟨J1, L1, q1, q2⟩ := En_un hk ho hE
    obtain ⟨J2, L2, q3, q4⟩ := c3 J0 J1 L1 (opU (kdT B z i) :: us) ctx cd q2
    have eo : o + 1 - (opU (kdT B z i) :: us).length = o - us.length := by show o + 1 - (us.length + 1) = _; omega
    rw [eo] at q4
    refine ⟨J2, L2, Go_t q1 q3, ?_⟩
    have ec : cd ++ (C ++ [(opU (kdT B z i), 0)]) ++ us.map (fun x => (x, 0)) = cd ++ C ++ (opU (kdT B z i) :: us).map (fun x => (x, 0)) := by
      rw [List.map_cons, ← List.append_assoc cd C, List.append_assoc (cd ++ C)]; rfl
    rw [ec]; exact q4
theorem Fl_un {o i f j : Nat} (hk : kdT B z i = 45 ∨ kdT B z i = 14 ∨ kdT B z i = 15) (ho : o < 8) (g : Fl1 n O B z T T0 s (o + 1) (i + 1) f j) : Fl1 n O B z T T0 s o i f j := by
  intro J0 J L us ctx cd hE
  obtain ⟨J1, L1, q1, q2⟩ := En_un hk ho hE
  exact Go_f q1 (g J0 J1 L1 _ ctx cd q2)
/-- a pair of brackets -/
theorem En_par {o i : Nat} {J0 J : TI} {L : TL} {us ctx : List Nat} {cd : List (Nat × Nat)} (hk : kdT B z i = 40) (ho : o < 8) (hE : En1 n O B z T T0 s o i J0 J L us ctx cd) : ∃ J' L', Go n O J L i J' L' (i + 1) ∧ EnV n O B z T T0 s 5 (o + 1) (i + 1) J0 J' L' (40 :: (us ++ ctx)) cd := by
  obtain ⟨J', L', q1, q2⟩ := En_open (by omega) ho hE
  obtain ⟨e1, e2, e3, e4, e5, e6, e7, e8⟩ := hE
  have ll : (us ++ ctx).length = us.length + ctx.length := List.length_append
  rw [show opU (kdT B z i) = 40 by rw [hk]; rfl] at q2
  refine ⟨J', L', q1, e1, q2, by show rkN 40 < 5; decide, by show (us ++ ctx).length + 1 + 5 ≤ 7 * (o + 1) + 5; omega, by omega, fun _ => by rw [(ask_hd (c := 40) (by omega)).1]; rfl⟩
def nAr (k : Nat) : Prop := k ≠ 43 ∧ k ≠ 45 ∧ k ≠ 42 ∧ k ≠ 47
theorem bt_no {Q : List Nat} {k : Nat} (h : nAr k) (ho : opC Q ≠ 41) : btI Q k = -1 := by
  unfold btI
  obtain ⟨h1, h2, h3, h4⟩ := h
  rw [if_neg h1, if_neg h2, if_neg h3, if_neg h4, if_neg ho]
theorem Ok_par {o i j : Nat} {v : lEnv → Int} (hk : kdT B z i = 40) (ho : o < 8) (g : OkV n O B z T T0 s 5 (o + 1) (i + 1) j v) (hj : kdT B z j = 41) : Ok1 n O B z T T0 s o i (j + 1) v := by
  obtain ⟨g0, C, P, c1, c2, cp, cl, c3⟩ := g
  have hP : ∀ x, x ∈ P → 6 ≤ x ∧ x ≤ 9 := fun x hx => ⟨(cp x hx).1, (cp x hx).2.1⟩
  have hP4 : ∀ x, x ∈ P → x < 40 := fun x hx => by have := hP x hx; omega
  refine ⟨by omega, C ++ P.map (fun x => (x, 0)), c1, CO_a c2 (CO_m (fun x hx => by have := hP x hx; omega)), fun J0 J L us ctx cd hE => ?_⟩
  obtain ⟨J1, L1, q1, q2⟩ := En_par hk ho hE
  obtain ⟨J2, L2, q3, q4⟩ := c3 J0 J1 L1 _ cd q2
  obtain ⟨e1, e2, e3, e4, e5, e6, e7, e8⟩ := hE
  have oc := (opC_app P 40 (us ++ ctx) hP4 (by omega)).1
  have nk : nAr (kdT B z j) := by rw [hj]; unfold nAr; decide
  obtain ⟨J3, L3, q5, q6⟩ := m_bshut e1 q4 (by omega) (by omega) (bt_no nk (by rw [oc]; decide)) (by unfold ptI; rw [oc, if_pos rfl, if_pos hj]) (by omega) hP4 e3 e4 (by rw [cn_0 P hP]; omega) (by omega) (by omega)
  rw [cn_0 P hP, if_neg (by decide), List.append_nil] at q6
  refine ⟨J3, L3, Go_t q1 (Go_t q3 q5), ?_⟩
  rw [show o - us.length = o + 1 - 0 - 1 - us.length by omega, ← List.append_assoc cd C]
  exact q6
theorem Fl_par1 {o i f j : Nat} (hk : kdT B z i = 40) (ho : o < 8) (g : FlV n O B z T T0 s 5 (o + 1) (i + 1) f j) : Fl1 n O B z T T0 s o i f j := by
  intro J0 J L us ctx cd hE
  obtain ⟨J1, L1, q1, q2⟩ := En_par hk ho hE
  exact Go_f q1 (g J0 J1 L1 _ cd q2)
theorem Fl_par2 {o i j : Nat} {v : lEnv → Int} (hk : kdT B z i = 40) (ho : o < 8) (g : OkV n O B z T T0 s 5 (o + 1) (i + 1) j v) (hj : kdT B z j ≠ 41) (nk : nAr (kdT B z j)) : Fl1 n O B z T T0 s o i 1 j := by
  obtain ⟨g0, C, P, c1, c2, cp, cl, c3⟩ := g
  have hP4 : ∀ x, x ∈ P → x < 40 := fun x hx => by have := (cp x hx).2.1; omega
  intro J0 J L us ctx cd hE
  obtain ⟨J1, L1, q1, q2⟩ := En_par hk ho hE
  obtain ⟨J2, L2, q3, q4⟩ := c3 J0 J1 L1 _ cd q2
  obtain ⟨e1, e2, e3, e4, e5, e6, e7, e8⟩ := hE
  have oc := (opC_app P 40 (us ++ ctx) hP4 (by omega)).1
  have ll : (P ++ 40 :: (us ++ ctx)).length = P.length + ((us ++ ctx).length + 1) := List.length_append
  have l2 : (us ++ ctx).length = us.length + ctx.length := List.length_append
  exact Go_f (Go_t q1 q3) (m_bflt e1 q4 (bt_no nk (by rw [oc]; decide)) (by unfold ptI; rw [oc, if_pos rfl, if_neg hj]) (by rw [oc]; decide) (by omega))
end MQ
