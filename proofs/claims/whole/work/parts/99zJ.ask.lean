/-! the reference reads a law: what is asked, and the choice -/
section MA
variable {n : Nat} {O : TO} {B : TN} {z T T0 s : Nat}
theorem kco_c {k : Nat} (h : k = 60 ∨ k = 316 ∨ k = 62 ∨ k = 318 ∨ k = 61 ∨ k = 35) : ∃ op, 10 ≤ op ∧ op ≤ 15 ∧ kco op = k ∧ cmI k = nI op := by
  rcases h with rfl | rfl | rfl | rfl | rfl | rfl
  · exact ⟨10, by omega, by omega, rfl, rfl⟩
  · exact ⟨11, by omega, by omega, rfl, rfl⟩
  · exact ⟨12, by omega, by omega, rfl, rfl⟩
  · exact ⟨13, by omega, by omega, rfl, rfl⟩
  · exact ⟨14, by omega, by omega, rfl, rfl⟩
  · exact ⟨15, by omega, by omega, rfl, rfl⟩
def isCm (k : Nat) : Prop := k = 60 ∨ k = 316 ∨ k = 62 ∨ k = 318 ∨ k = 61 ∨ k = 35
theorem rk_cm {op : Nat} (h : 10 ≤ op) (h2 : op ≤ 15) : rkN op = 4 := by
  unfold rkN
  rw [if_neg (by omega), if_neg (by omega), if_neg (by omega), if_neg (by omega), if_pos h]
theorem En_TV {o i : Nat} {J0 J : TI} {L : TL} {ctx : List Nat} {cd : List (Nat × Nat)} (hk : kdT B z i ≠ 22) (h : EnT n O B z T T0 s 3 o i J0 J L ctx cd) : EnV n O B z T T0 s 5 o i J0 J L ctx cd := by
  obtain ⟨h1, h2, h3, h4, h5, h6, h7⟩ := h
  rw [if_pos rfl] at h3
  exact ⟨h1, h2, by omega, by omega, h7, fun g => absurd g hk⟩
theorem V4 {P : List Nat} {lv : Nat} (hl : 5 ≤ lv) (h : ∀ x, x ∈ P → 6 ≤ x ∧ x ≤ 9 ∧ lv ≤ rkN x) : (∀ x, x ∈ P → 6 ≤ x ∧ x ≤ 9) ∧ (∀ x, x ∈ P → x < 40) ∧ ∀ x, x ∈ P → 4 < rkN x := ⟨fun x hx => ⟨(h x hx).1, (h x hx).2.1⟩, fun x hx => by have := (h x hx).2.1; omega, fun x hx => by have := (h x hx).2.2; omega⟩
/-- the first of two compared, and the sign -/
theorem T_cmp {o i j op : Nat} {v : lEnv → Int} (hi : kdT B z i ≠ 22) (h1 : 10 ≤ op) (h2 : op ≤ 15) (hk : isCm (kdT B z j)) (hc : cmI (kdT B z j) = nI op) (h : OkV n O B z T T0 s 5 o i j v) : ∃ C, VM s C v ∧ CO C ∧ ∀ J0 J L ctx cd, EnT n O B z T T0 s 3 o i J0 J L ctx cd → ∃ J' L', Go n O J L i J' L' (j + 1) ∧ EnV n O B z T T0 s 5 o (j + 1) J0 J' L' (op :: ctx) (cd ++ C) := by
  obtain ⟨h0, C, P, c1, c2, c3, c4, c5⟩ := h
  obtain ⟨hP, hP4, hPr⟩ := V4 (Nat.le_refl _) c3
  refine ⟨C ++ P.map (fun x => (x, 0)), c1, CO_a c2 (CO_m (fun x hx => by have := hP x hx; omega)), fun J0 J L ctx cd hE => ?_⟩
  obtain ⟨J1, L1, g1, g2⟩ := c5 J0 J L ctx cd (En_TV hi hE)
  obtain ⟨e1, e2, e3, e4, e5, e6, e7⟩ := hE
  rw [if_pos rfl] at e3
  have oc := opC_sk P ctx hP4
  have cm := cm_sk P ctx hPr
  rw [ask_cm e4] at cm
  have r4 := rk_cm h1 h2
  have bt : btI (P ++ ctx) (kdT B z j) = nI op := by
    unfold btI
    unfold isCm at hk
    rw [if_neg (by omega), if_neg (by omega), if_neg (by omega), if_neg (by omega), oc, if_pos e5, cm, if_neg (by decide)]; exact hc
  obtain ⟨J', L', q1, q2⟩ := m_bop (n := n) (s := s) (lv := 5) (op := op) e1 g2 (by omega) bt (by rw [if_pos r4]) (by unfold isCm at hk; omega) (by omega) (fun x hx => by have := hPr x hx; omega) (by rw [cn_0 P hP]; omega) (by omega) (by omega)
  rw [cn_0 P hP, Nat.sub_zero, List.append_assoc] at q2
  exact ⟨J', L', Go_t g1 q1, e1, q2, by show rkN op < 5; omega, by show ctx.length + 1 + 5 ≤ 7 * o + 5; omega, e7, fun _ => ask_no (by omega) (by omega)⟩
theorem Ok_cmp {o i j k : Nat} {v w : lEnv → Int} (hi : kdT B z i ≠ 22) (ho : o ≤ 8) (hk : isCm (kdT B z j)) (h : OkV n O B z T T0 s 5 o i j v) (g : OkV n O B z T T0 s 5 o (j + 1) k w) : OkT n O B z T T0 s 3 o i k (fun e => cmpB (kdT B z j) (v e) (w e)) := by
  obtain ⟨op, a1, a2, a3, a4⟩ := kco_c hk
  have h0 := h.1
  obtain ⟨C, c1, c2, c3⟩ := T_cmp hi a1 a2 hk a4 h
  obtain ⟨g0, D, P, d1, d2, d3, d4, d5⟩ := g
  obtain ⟨hP, hP4, hPr⟩ := V4 (Nat.le_refl _) d3
  have r4 := rk_cm a1 a2
  refine ⟨by omega, C ++ D, P ++ [op], ?_, CO_a c2 d2, fun x hx => ?_, fun Q => ?_, ?_, fun J0 J L ctx cd hE => ?_⟩
  · have := BM_cmp c1 d1 (o := op) ⟨a1, a2⟩
    rw [a3] at this
    rw [List.map_append, ← List.append_assoc, List.append_assoc C D]
    exact this
  · rcases List.mem_append.mp hx with q | q
    · have := hP x q; have := hPr x q; omega
    · rw [List.mem_singleton.mp q]; omega
  · rw [List.append_assoc, cm_sk P _ hPr]
    show (if 4 < rkN op then _ else decide (rkN op = 4)) = true
    rw [if_neg (by omega)]; exact decide_eq_true r4
  · rw [List.length_append]; show P.length + 1 + o + 3 ≤ 14; omega
  · obtain ⟨J1, L1, q1, q2⟩ := c3 J0 J L ctx cd hE
    obtain ⟨J2, L2, q3, q4⟩ := d5 J0 J1 L1 (op :: ctx) (cd ++ C) q2
    rw [List.append_assoc] at q4
    have cn : cnO (P ++ [op]) = 0 := by
      rw [cn_app, cn_0 P hP]
      show 0 + ((if rkN op = 7 ∨ op = 20 then 1 else 0) + 0) = 0
      rw [if_neg (by omega)]
    rw [cn, List.append_assoc P [op] ctx]
    exact ⟨J2, L2, Go_t q1 q3, q4⟩
theorem Fl_cmp1 {o i f j : Nat} (hi : kdT B z i ≠ 22) (h : FlV n O B z T T0 s 5 o i f j) : FlT n O B z T T0 s 3 o i f j := fun J0 J L ctx cd hE => h J0 J L ctx cd (En_TV hi hE)
theorem Fl_cmp2 {o i j f k : Nat} {v : lEnv → Int} (hi : kdT B z i ≠ 22) (hk : isCm (kdT B z j)) (h : OkV n O B z T T0 s 5 o i j v) (g : FlV n O B z T T0 s 5 o (j + 1) f k) : FlT n O B z T T0 s 3 o i f k := by
  obtain ⟨op, a1, a2, a3, a4⟩ := kco_c hk
  obtain ⟨C, c1, c2, c3⟩ := T_cmp hi a1 a2 hk a4 h
  intro J0 J L ctx cd hE
  obtain ⟨J1, L1, q1, q2⟩ := c3 J0 J L ctx cd hE
  exact Go_f q1 (g J0 J1 L1 (op :: ctx) (cd ++ C) q2)
theorem cmI_no {k : Nat} (h : ¬ isCm k) : cmI k = -1 := by
  unfold isCm at h
  unfold cmI
  rw [if_neg (by omega), if_neg (by omega), if_neg (by omega), if_neg (by omega), if_neg (by omega), if_neg (by omega)]
theorem Fl_cmp3 {o i j : Nat} {v : lEnv → Int} (hi : kdT B z i ≠ 22) (nk : nAr (kdT B z j)) (hk : ¬ isCm (kdT B z j)) (h : OkV n O B z T T0 s 5 o i j v) : FlT n O B z T T0 s 3 o i 1 j := by
  obtain ⟨h0, C, P, c1, c2, c3, c4, c5⟩ := h
  obtain ⟨hP, hP4, hPr⟩ := V4 (Nat.le_refl _) c3
  intro J0 J L ctx cd hE
  obtain ⟨J1, L1, g1, g2⟩ := c5 J0 J L ctx cd (En_TV hi hE)
  obtain ⟨e1, e2, e3, e4, e5, e6, e7⟩ := hE
  have oc := opC_sk P ctx hP4
  have cm := cm_sk P ctx hPr
  rw [ask_cm e4] at cm
  have ll : (P ++ ctx).length = P.length + ctx.length := List.length_append
  obtain ⟨n1, n2, n3, n4⟩ := nk
  refine Go_f g1 (m_bflt e1 g2 ?_ ?_ (by rw [oc, e5]; decide) (by omega))
  · unfold btI
    rw [if_neg n1, if_neg n2, if_neg n3, if_neg n4, oc, if_pos e5, cm, if_neg (by decide)]; exact cmI_no hk
  · unfold ptI
    rw [oc, e5, if_neg (by decide), if_pos rfl, cm, if_neg (fun g => absurd g.2 (by decide))]
/-- not -/
theorem En_not {o i : Nat} {J0 J : TI} {L : TL} {ctx : List Nat} {cd : List (Nat × Nat)} (hk : kdT B z i = 22) (ho : o < 8) (hE : EnT n O B z T T0 s 3 o i J0 J L ctx cd) : ∃ J' L', Go n O J L i J' L' (i + 1) ∧ EnT n O B z T T0 s 3 (o + 1) (i + 1) J0 J' L' (20 :: ctx) cd := by
  obtain ⟨e1, e2, e3, e4, e5, e6, e7⟩ := hE
  have bg := m_begin e1 e2 (by omega)
  obtain ⟨J', L', q1, q2⟩ := m_opened e1 e2 ho (by omega) (by omega) (x := 20) (by omega)
  obtain ⟨y1, y2⟩ := ask_yes (x := 20) (Q := ctx) (by omega) (by decide) e5
  refine ⟨J', L', go_b e2 ?_, e1, q2, by rw [if_pos rfl]; show rkN 20 < 4; decide, y1, y2, by show ctx.length + 1 + 5 ≤ 7 * (o + 1) + 3; omega, by omega⟩
  rw [bg, if_neg (by omega), if_neg (by omega), if_neg (by omega), if_neg (by omega), if_neg (by omega), if_neg (by omega), if_neg (by omega), if_pos hk, e4, if_pos rfl]; exact q1
theorem Ok_not {o i j : Nat} {b : lEnv → Bool} (hk : kdT B z i = 22) (ho : o < 8) (g : OkT n O B z T T0 s 3 (o + 1) (i + 1) j b) : OkT n O B z T T0 s 3 o i j (fun e => !b e) := by
  obtain ⟨g0, C, P, d1, d2, d3, d4, d5, d6⟩ := g
  refine ⟨by omega, C, P ++ [20], ?_, d2, fun x hx => ?_, fun Q => ?_, ?_, fun J0 J L ctx cd hE => ?_⟩
  · rw [List.map_append, ← List.append_assoc]; exact BM_not d1
  · rcases List.mem_append.mp hx with q | q
    · exact d3 x q
    · rw [List.mem_singleton.mp q]; exact ⟨Or.inr ⟨by omega, by omega⟩, by decide⟩
  · rw [List.append_assoc]; exact d4 _
  · rw [List.length_append]; show P.length + 1 + o + 3 ≤ 14; omega
  · obtain ⟨J1, L1, q1, q2⟩ := En_not hk ho hE
    obtain ⟨J2, L2, q3, q4⟩ := d6 J0 J1 L1 (20 :: ctx) cd q2
    have cn : cnO (P ++ [20]) = cnO P + 1 := by rw [cn_app]; rfl
    rw [cn, List.append_assoc P [20] ctx, show o + (cnO P + 1) = o + 1 + cnO P by omega]
    exact ⟨J2, L2, Go_t q1 q3, q4⟩
theorem Fl_not {o i f j : Nat} (hk : kdT B z i = 22) (ho : o < 8) (g : FlT n O B z T T0 s 3 (o + 1) (i + 1) f j) : FlT n O B z T T0 s 3 o i f j := by
  intro J0 J L ctx cd hE
  obtain ⟨J1, L1, q1, q2⟩ := En_not hk ho hE
  exact Go_f q1 (g J0 J1 L1 _ cd q2)
theorem Fl_notd {i : Nat} (hk : kdT B z i = 22) : FlT n O B z T T0 s 3 8 i 3 i := by
  intro J0 J L ctx cd ⟨e1, e2, e3, e4, e5, e6, e7⟩
  refine go_bf e2 (by omega) (by omega) ?_
  rw [m_begin e1 e2 (by omega), if_neg (by omega), if_neg (by omega), if_neg (by omega), if_neg (by omega), if_neg (by omega), if_neg (by omega), if_neg (by omega), if_pos hk, e4, if_pos rfl]
  exact m_openedF e2 rfl _
/-- and, or -/
theorem En_T {lv o i : Nat} {J0 J : TI} {L : TL} {ctx : List Nat} {cd : List (Nat × Nat)} (hl : lv = 1 ∨ lv = 2) (h : EnT n O B z T T0 s lv o i J0 J L ctx cd) : EnT n O B z T T0 s (lv + 1) o i J0 J L ctx cd := by
  obtain ⟨h1, h2, h3, h4, h5, h6, h7⟩ := h
  rw [if_neg (by omega)] at h3
  exact ⟨h1, h2, by split <;> omega, h4, h5, by omega, h7⟩
theorem Ok_T {lv o i j : Nat} {b : lEnv → Bool} (hl : lv = 1 ∨ lv = 2) (h : OkT n O B z T T0 s (lv + 1) o i j b) : OkT n O B z T T0 s lv o i j b := by
  obtain ⟨g0, C, P, d1, d2, d3, d4, d5, d6⟩ := h
  exact ⟨g0, C, P, d1, d2, fun x hx => ⟨(d3 x hx).1, by have := (d3 x hx).2; omega⟩, d4, by omega, fun J0 J L ctx cd hE => d6 J0 J L ctx cd (En_T hl hE)⟩
theorem Fl_T {lv o i f j : Nat} (hl : lv = 1 ∨ lv = 2) (h : FlT n O B z T T0 s (lv + 1) o i f j) : FlT n O B z T T0 s lv o i f j := fun J0 J L ctx cd hE => h J0 J L ctx cd (En_T hl hE)
theorem T_op {lv o i j op : Nat} {b : lEnv → Bool} (hl : (lv = 1 ∧ op = 22 ∧ kdT B z j = 20) ∨ (lv = 2 ∧ op = 21 ∧ kdT B z j = 21)) (h : OkT n O B z T T0 s lv o i j b) : ∃ C, BM s C b ∧ CO C ∧ ∀ J0 J L ctx cd, EnT n O B z T T0 s lv o i J0 J L ctx cd → ∃ J' L', Go n O J L i J' L' (j + 1) ∧ EnT n O B z T T0 s (lv + 1) o (j + 1) J0 J' L' (op :: ctx) (cd ++ C) := by
  obtain ⟨g0, C, P, d1, d2, d3, d4, d5, d6⟩ := h
  have hP4 : ∀ x, x ∈ P → x < 40 := fun x hx => by have := (d3 x hx).1; omega
  refine ⟨C ++ P.map (fun x => (x, 0)), d1, CO_a d2 (CO_m (fun x hx => by have := (d3 x hx).1; omega)), fun J0 J L ctx cd hE => ?_⟩
  obtain ⟨J1, L1, g1, g2⟩ := d6 J0 J L ctx cd hE
  obtain ⟨e1, e2, e3, e4, e5, e6, e7⟩ := hE
  rw [if_neg (by omega)] at e3
  have oc := opC_sk P ctx hP4
  have cl := cn_le P
  have rk : rkN op = lv := by rcases hl with ⟨rfl, rfl, -⟩ | ⟨rfl, rfl, -⟩ <;> rfl
  have bt : btI (P ++ ctx) (kdT B z j) = nI op := by
    unfold btI
    rw [if_neg (by omega), if_neg (by omega), if_neg (by omega), if_neg (by omega), oc, if_pos e5, d4 ctx, if_pos rfl]
    rcases hl with ⟨-, rfl, k⟩ | ⟨-, rfl, k⟩ <;> rw [k] <;> rfl
  obtain ⟨J', L', q1, q2⟩ := m_bop (n := n) (s := s) (lv := lv) (op := op) e1 g2 (by omega) bt (by rw [if_neg (by omega), rk]) (by omega) e3 (fun x hx => (d3 x hx).2) (by omega) (by omega) (by omega)
  rw [Nat.add_sub_cancel, List.append_assoc] at q2
  obtain ⟨y1, y2⟩ := ask_yes (x := op) (Q := ctx) (by omega) (by omega) e5
  exact ⟨J', L', Go_t g1 q1, e1, q2, by show rkN op < _; split <;> omega, y1, y2, by show ctx.length + 1 + 5 ≤ 7 * o + (lv + 1); omega, e7⟩
theorem Ok_op {lv o i j k op : Nat} {b c : lEnv → Bool} (hl : (lv = 1 ∧ op = 22 ∧ kdT B z j = 20) ∨ (lv = 2 ∧ op = 21 ∧ kdT B z j = 21)) (h : OkT n O B z T T0 s lv o i j b) (g : OkT n O B z T T0 s (lv + 1) o (j + 1) k c) : OkT n O B z T T0 s lv o i k (fun e => if lv = 2 then b e && c e else b e || c e) := by
  have h0 := h.1
  obtain ⟨C, c1, c2, c3⟩ := T_op hl h
  obtain ⟨g0, D, P, d1, d2, d3, d4, d5, d6⟩ := g
  have rk : rkN op = lv := by rcases hl with ⟨rfl, rfl, -⟩ | ⟨rfl, rfl, -⟩ <;> rfl
  refine ⟨by omega, C ++ D, P ++ [op], ?_, CO_a c2 d2, fun x hx => ?_, fun Q => ?_, ?_, fun J0 J L ctx cd hE => ?_⟩
  · rw [List.map_append, ← List.append_assoc, List.append_assoc C D]
    rcases hl with ⟨rfl, rfl, -⟩ | ⟨rfl, rfl, -⟩
    · exact BM_or c1 d1
    · exact BM_and c1 d1
  · rcases List.mem_append.mp hx with q | q
    · have := d3 x q; omega
    · rw [List.mem_singleton.mp q]; omega
  · rw [List.append_assoc]; exact d4 _
  · rw [List.length_append]; show P.length + 1 + o + lv ≤ 14; omega
  · obtain ⟨J1, L1, q1, q2⟩ := c3 J0 J L ctx cd hE
    obtain ⟨J2, L2, q3, q4⟩ := d6 J0 J1 L1 (op :: ctx) (cd ++ C) q2
    rw [List.append_assoc] at q4
    have cn : cnO (P ++ [op]) = cnO P := by
      rw [cn_app]
      show cnO P + ((if rkN op = 7 ∨ op = 20 then 1 else 0) + 0) = cnO P
      rw [if_neg (by omega)]; rfl
    rw [cn, List.append_assoc P [op] ctx]
    exact ⟨J2, L2, Go_t q1 q3, q4⟩
theorem Fl_op {lv o i j f k op : Nat} {b : lEnv → Bool} (hl : (lv = 1 ∧ op = 22 ∧ kdT B z j = 20) ∨ (lv = 2 ∧ op = 21 ∧ kdT B z j = 21)) (h : OkT n O B z T T0 s lv o i j b) (g : FlT n O B z T T0 s (lv + 1) o (j + 1) f k) : FlT n O B z T T0 s lv o i f k := by
  obtain ⟨C, c1, c2, c3⟩ := T_op hl h
  intro J0 J L ctx cd hE
  obtain ⟨J1, L1, q1, q2⟩ := c3 J0 J L ctx cd hE
  exact Go_f q1 (g J0 J1 L1 (op :: ctx) (cd ++ C) q2)
/-- the choice: if .. then .. else .. end -/
theorem En_CT {o i : Nat} {J0 J : TI} {L : TL} {us ctx : List Nat} {cd : List (Nat × Nat)} (h : EnC n O B z T T0 s o i J0 J L us ctx cd) : EnT n O B z T T0 s 1 o i J0 J L (41 :: (us ++ ctx)) cd := by
  obtain ⟨h1, h2, h3, h4, h5, h6, h7⟩ := h
  have ll : (us ++ ctx).length = us.length + ctx.length := List.length_append
  obtain ⟨y1, y2⟩ := ask_hd (c := 41) (Q := us ++ ctx) (by omega)
  exact ⟨h1, h2, by show rkN 41 < _; decide, y1, y2, by show (us ++ ctx).length + 1 + 5 ≤ 7 * o + 1; omega, h7⟩
theorem C_ask {o i a : Nat} {b : lEnv → Bool} (nk : nAr (kdT B z a)) (h : OkT n O B z T T0 s 1 o i a b) : ∃ C, BM s C b ∧ CO C ∧ ∀ J0 J L us ctx cd, EnC n O B z T T0 s o i J0 J L us ctx cd → (kdT B z a = 17 → ∃ J' L', Go n O J L i J' L' (a + 1) ∧ EnV n O B z T T0 s 5 o (a + 1) J0 J' L' (42 :: (us ++ ctx)) (cd ++ C)) ∧ (kdT B z a ≠ 17 → kdT B z a ≠ 20 → kdT B z a ≠ 21 → Flt n O B z T0 J0 J L i 1 a) := by
  obtain ⟨g0, C, P, d1, d2, d3, d4, d5, d6⟩ := h
  have hP4 : ∀ x, x ∈ P → x < 40 := fun x hx => by have := (d3 x hx).1; omega
  obtain ⟨n1, n2, n3, n4⟩ := nk
  refine ⟨C ++ P.map (fun x => (x, 0)), d1, CO_a d2 (CO_m (fun x hx => by have := (d3 x hx).1; omega)), fun J0 J L us ctx cd hE => ?_⟩
  obtain ⟨J1, L1, g1, g2⟩ := d6 J0 J L _ cd (En_CT hE)
  obtain ⟨h1, h2, h3, h4, h5, h6, h7⟩ := hE
  have ll : (us ++ ctx).length = us.length + ctx.length := List.length_append
  have oc := (opC_app P 41 (us ++ ctx) hP4 (by omega)).1
  have cm := d4 (41 :: (us ++ ctx))
  have cl := cn_le P
  refine ⟨fun k17 => ?_, fun k1 k2 k3 => ?_⟩
  · obtain ⟨J', L', q1, q2⟩ := m_bpart (n := n) (s := s) (c' := 42) h1 g2 (by omega) (by omega) (by omega) (by
      unfold btI
      rw [if_neg n1, if_neg n2, if_neg n3, if_neg n4, oc, if_pos rfl, cm, if_pos rfl, k17]; rfl) (by
      unfold ptI
      rw [oc, if_neg (by decide), if_pos rfl, if_pos ⟨k17, cm⟩]) (by omega) (by omega) hP4 (by omega) (by omega) (by omega)
    rw [Nat.add_sub_cancel, List.append_assoc] at q2
    exact ⟨J', L', Go_t g1 q1, h1, q2, by show rkN 42 < 5; decide, by show (us ++ ctx).length + 1 + 5 ≤ 7 * o + 5; omega, h7, fun _ => by rw [(ask_hd (c := 42) (by omega)).1]; rfl⟩
  · have l2 : (P ++ 41 :: (us ++ ctx)).length = P.length + ((us ++ ctx).length + 1) := List.length_append
    refine Go_f g1 (m_bflt h1 g2 ?_ ?_ (by rw [oc]; decide) (by omega))
    · unfold btI
      rw [if_neg n1, if_neg n2, if_neg n3, if_neg n4, oc, if_pos rfl, cm, if_pos rfl, if_neg k3, if_neg k2]
    · unfold ptI
      rw [oc, if_neg (by decide), if_pos rfl, if_neg (fun g => k1 g.1)]
/-- a sum behind then or behind else -/
theorem C_part {o i a c k c' : Nat} {v : lEnv → Int} (hc : (c = 42 ∧ k = 18 ∧ c' = 43)) (nk : nAr (kdT B z a)) (h : OkV n O B z T T0 s 5 o i a v) : ∃ C, VM s C v ∧ CO C ∧ ∀ J0 J L Q cd, EnV n O B z T T0 s 5 o i J0 J L (c :: Q) cd → (kdT B z a = k → ∃ J' L', Go n O J L i J' L' (a + 1) ∧ EnV n O B z T T0 s 5 o (a + 1) J0 J' L' (c' :: Q) (cd ++ C)) ∧ (kdT B z a ≠ k → Flt n O B z T0 J0 J L i 1 a) := by
  obtain ⟨rfl, rfl, rfl⟩ := hc
  obtain ⟨g0, C, P, d1, d2, d3, d4, d5⟩ := h
  obtain ⟨hP, hP4, hPr⟩ := V4 (Nat.le_refl _) d3
  refine ⟨C ++ P.map (fun x => (x, 0)), d1, CO_a d2 (CO_m (fun x hx => by have := hP x hx; omega)), fun J0 J L Q cd hE => ?_⟩
  obtain ⟨J1, L1, g1, g2⟩ := d5 J0 J L _ cd hE
  obtain ⟨h1, h2, h3, h4, h5, h6⟩ := hE
  have h4' : Q.length + 1 + 5 ≤ 7 * o + 5 := h4
  have oc := (opC_app P 42 Q hP4 (by omega)).1
  have bt := bt_no (Q := P ++ 42 :: Q) nk (by rw [oc]; decide)
  refine ⟨fun k17 => ?_, fun k1 => ?_⟩
  · obtain ⟨J', L', q1, q2⟩ := m_bpart (n := n) (s := s) (c' := 43) h1 g2 (by omega) (by omega) (by omega) bt (by
      unfold ptI
      rw [oc, if_neg (by decide), if_neg (by decide), if_pos rfl, if_pos k17]) (by omega) (by omega) hP4 (by rw [cn_0 P hP]; omega) (by omega) (by omega)
    rw [cn_0 P hP, Nat.sub_zero, List.append_assoc] at q2
    exact ⟨J', L', Go_t g1 q1, h1, q2, by show rkN 43 < 5; decide, h4, h5, fun _ => by rw [(ask_hd (c := 43) (by omega)).1]; rfl⟩
  · have l2 : (P ++ 42 :: Q).length = P.length + (Q.length + 1) := List.length_append
    exact Go_f g1 (m_bflt h1 g2 bt (by
      unfold ptI
      rw [oc, if_neg (by decide), if_neg (by decide), if_pos rfl, if_neg k1]) (by rw [oc]; decide) (by omega))
theorem C_end {o i a : Nat} {v : lEnv → Int} (nk : nAr (kdT B z a)) (h : OkV n O B z T T0 s 5 o i a v) : ∃ C, VM s C v ∧ CO C ∧ ∀ J0 J L us ctx cd, EnV n O B z T T0 s 5 o i J0 J L (43 :: (us ++ ctx)) cd → UsO us → tpR ctx < 7 → us.length + 1 ≤ o → (kdT B z a = 19 → RunV n O B z T T0 J0 J L i (a + 1) ctx (o - 1 - us.length) (cd ++ C ++ [(3, 0)] ++ us.map (fun x => (x, 0)))) ∧ (kdT B z a ≠ 19 → Flt n O B z T0 J0 J L i 1 a) := by
  obtain ⟨g0, C, P, d1, d2, d3, d4, d5⟩ := h
  obtain ⟨hP, hP4, hPr⟩ := V4 (Nat.le_refl _) d3
  refine ⟨C ++ P.map (fun x => (x, 0)), d1, CO_a d2 (CO_m (fun x hx => by have := hP x hx; omega)), fun J0 J L us ctx cd hE hu ht ho => ?_⟩
  obtain ⟨J1, L1, g1, g2⟩ := d5 J0 J L _ cd hE
  obtain ⟨h1, h2, h3, h4, h5, h6⟩ := hE
  have ll : (us ++ ctx).length = us.length + ctx.length := List.length_append
  have h4' : (us ++ ctx).length + 1 + 5 ≤ 7 * o + 5 := h4
  have oc := (opC_app P 43 (us ++ ctx) hP4 (by omega)).1
  have bt := bt_no (Q := P ++ 43 :: (us ++ ctx)) nk (by rw [oc]; decide)
  refine ⟨fun k19 => ?_, fun k1 => ?_⟩
  · obtain ⟨J', L', q1, q2⟩ := m_bshut h1 g2 (by omega) (by omega) bt (by
      unfold ptI
      rw [oc, if_neg (by decide), if_neg (by decide), if_neg (by decide), if_pos rfl, if_pos k19]) (by omega) hP4 hu ht (by rw [cn_0 P hP]; omega) (by omega) (by omega)
    rw [cn_0 P hP, if_pos rfl, Nat.sub_zero] at q2
    refine ⟨J', L', Go_t g1 q1, ?_⟩
    rw [← List.append_assoc cd C]
    exact q2
  · have l2 : (P ++ 43 :: (us ++ ctx)).length = P.length + ((us ++ ctx).length + 1) := List.length_append
    exact Go_f g1 (m_bflt h1 g2 bt (by
      unfold ptI
      rw [oc, if_neg (by decide), if_neg (by decide), if_neg (by decide), if_pos rfl, if_neg k1]) (by rw [oc]; decide) (by omega))
theorem Ok_ch {o i a c d : Nat} {b : lEnv → Bool} {v w : lEnv → Int} (n1 : nAr (kdT B z a)) (n2 : nAr (kdT B z c)) (n3 : nAr (kdT B z d)) (h : OkT n O B z T T0 s 1 o i a b) (k1 : kdT B z a = 17) (g : OkV n O B z T T0 s 5 o (a + 1) c v) (k2 : kdT B z c = 18) (f : OkV n O B z T T0 s 5 o (c + 1) d w) (k3 : kdT B z d = 19) : OkC n O B z T T0 s o i (d + 1) (fun e => if b e then v e else w e) := by
  have i1 := h.1
  have i2 := g.1
  have i3 := f.1
  obtain ⟨C1, a1, a2, a3⟩ := C_ask n1 h
  obtain ⟨C2, b1, b2, b3⟩ := C_part ⟨rfl, rfl, rfl⟩ n2 g
  obtain ⟨C3, c1, c2, c3⟩ := C_end n3 f
  refine ⟨by omega, C1 ++ C2 ++ C3 ++ [(3, 0)], VM_if a1 b1 c1, CO_a (CO_a (CO_a a2 b2) c2) (fun p hp => ?_), fun J0 J L us ctx cd hE => ?_⟩
  · rw [List.mem_singleton.mp hp]
    exact ⟨Or.inl (by show 3 ≤ 15; omega), by show 0 < 10000; omega, fun q => absurd q (by show ¬ 3 = 1; omega)⟩
  · obtain ⟨J1, L1, q1, q2⟩ := (a3 J0 J L us ctx cd hE).1 k1
    obtain ⟨J2, L2, q3, q4⟩ := (b3 J0 J1 L1 _ _ q2).1 k2
    obtain ⟨e1, e2, e3, e4, e5, e6, e7⟩ := hE
    obtain ⟨J3, L3, q5, q6⟩ := (c3 J0 J2 L2 us ctx _ q4 e3 e4 e5).1 k3
    refine ⟨J3, L3, Go_t q1 (Go_t q3 q5), ?_⟩
    have e : cd ++ (C1 ++ C2 ++ C3 ++ [(3, 0)]) = cd ++ C1 ++ C2 ++ C3 ++ [(3, 0)] := by
      rw [← List.append_assoc, ← List.append_assoc, ← List.append_assoc]
    rw [e]; exact q6
theorem Fl_ch0 {o i f j : Nat} (h : FlT n O B z T T0 s 1 o i f j) : FlC n O B z T T0 s o i f j := fun J0 J L us ctx cd hE => h J0 J L _ cd (En_CT hE)
theorem Fl_ch1 {o i a : Nat} {b : lEnv → Bool} (n1 : nAr (kdT B z a)) (h : OkT n O B z T T0 s 1 o i a b) (k1 : kdT B z a ≠ 17) (k2 : kdT B z a ≠ 20) (k3 : kdT B z a ≠ 21) : FlC n O B z T T0 s o i 1 a := by
  obtain ⟨C1, a1, a2, a3⟩ := C_ask n1 h
  exact fun J0 J L us ctx cd hE => (a3 J0 J L us ctx cd hE).2 k1 k2 k3
theorem Fl_ch2 {o i a f j : Nat} {b : lEnv → Bool} (n1 : nAr (kdT B z a)) (h : OkT n O B z T T0 s 1 o i a b) (k1 : kdT B z a = 17) (g : FlV n O B z T T0 s 5 o (a + 1) f j) : FlC n O B z T T0 s o i f j := by
  obtain ⟨C1, a1, a2, a3⟩ := C_ask n1 h
  intro J0 J L us ctx cd hE
  obtain ⟨J1, L1, q1, q2⟩ := (a3 J0 J L us ctx cd hE).1 k1
  exact Go_f q1 (g J0 J1 L1 _ _ q2)
theorem Fl_ch3 {o i a c : Nat} {b : lEnv → Bool} {v : lEnv → Int} (n1 : nAr (kdT B z a)) (n2 : nAr (kdT B z c)) (h : OkT n O B z T T0 s 1 o i a b) (k1 : kdT B z a = 17) (g : OkV n O B z T T0 s 5 o (a + 1) c v) (k2 : kdT B z c ≠ 18) : FlC n O B z T T0 s o i 1 c := by
  obtain ⟨C1, a1, a2, a3⟩ := C_ask n1 h
  obtain ⟨C2, b1, b2, b3⟩ := C_part ⟨rfl, rfl, rfl⟩ n2 g
  intro J0 J L us ctx cd hE
  obtain ⟨J1, L1, q1, q2⟩ := (a3 J0 J L us ctx cd hE).1 k1
  exact Go_f q1 ((b3 J0 J1 L1 _ _ q2).2 k2)
theorem Fl_ch4 {o i a c f j : Nat} {b : lEnv → Bool} {v : lEnv → Int} (n1 : nAr (kdT B z a)) (n2 : nAr (kdT B z c)) (h : OkT n O B z T T0 s 1 o i a b) (k1 : kdT B z a = 17) (g : OkV n O B z T T0 s 5 o (a + 1) c v) (k2 : kdT B z c = 18) (q : FlV n O B z T T0 s 5 o (c + 1) f j) : FlC n O B z T T0 s o i f j := by
  obtain ⟨C1, a1, a2, a3⟩ := C_ask n1 h
  obtain ⟨C2, b1, b2, b3⟩ := C_part ⟨rfl, rfl, rfl⟩ n2 g
  intro J0 J L us ctx cd hE
  obtain ⟨J1, L1, q1, q2⟩ := (a3 J0 J L us ctx cd hE).1 k1
  obtain ⟨J2, L2, q3, q4⟩ := (b3 J0 J1 L1 _ _ q2).1 k2
  exact Go_f (Go_t q1 q3) (q J0 J2 L2 _ _ q4)
theorem Fl_ch5 {o i a c d : Nat} {b : lEnv → Bool} {v w : lEnv → Int} (n1 : nAr (kdT B z a)) (n2 : nAr (kdT B z c)) (n3 : nAr (kdT B z d)) (h : OkT n O B z T T0 s 1 o i a b) (k1 : kdT B z a = 17) (g : OkV n O B z T T0 s 5 o (a + 1) c v) (k2 : kdT B z c = 18) (f : OkV n O B z T T0 s 5 o (c + 1) d w) (k3 : kdT B z d ≠ 19) : FlC n O B z T T0 s o i 1 d := by
  obtain ⟨C1, a1, a2, a3⟩ := C_ask n1 h
  obtain ⟨C2, b1, b2, b3⟩ := C_part ⟨rfl, rfl, rfl⟩ n2 g
  obtain ⟨C3, c1, c2, c3⟩ := C_end n3 f
  intro J0 J L us ctx cd hE
  obtain ⟨J1, L1, q1, q2⟩ := (a3 J0 J L us ctx cd hE).1 k1
  obtain ⟨J2, L2, q3, q4⟩ := (b3 J0 J1 L1 _ _ q2).1 k2
  obtain ⟨e1, e2, e3, e4, e5, e6, e7⟩ := hE
  exact Go_f (Go_t q1 q3) ((c3 J0 J2 L2 us ctx _ q4 e3 e4 e5).2 k3)
/-- if, as one -/
theorem En_if {o i : Nat} {J0 J : TI} {L : TL} {us ctx : List Nat} {cd : List (Nat × Nat)} (hk : kdT B z i = 16) (ho : o < 8) (hE : En1 n O B z T T0 s o i J0 J L us ctx cd) : ∃ J' L', Go n O J L i J' L' (i + 1) ∧ EnC n O B z T T0 s (o + 1) (i + 1) J0 J' L' us ctx cd := by
  obtain ⟨J', L', q1, q2⟩ := En_open (by omega) ho hE
  obtain ⟨e1, e2, e3, e4, e5, e6, e7, e8⟩ := hE
  rw [show opU (kdT B z i) = 41 by rw [hk]; rfl] at q2
  exact ⟨J', L', q1, e1, q2, e3, e4, by omega, by omega, by omega⟩
theorem Ok_if {o i j : Nat} {v : lEnv → Int} (hk : kdT B z i = 16) (ho : o < 8) (g : OkC n O B z T T0 s (o + 1) (i + 1) j v) : Ok1 n O B z T T0 s o i j v := by
  obtain ⟨g0, C, c1, c2, c3⟩ := g
  refine ⟨by omega, C, c1, c2, fun J0 J L us ctx cd hE => ?_⟩
  obtain ⟨J1, L1, q1, q2⟩ := En_if hk ho hE
  obtain ⟨J2, L2, q3, q4⟩ := c3 J0 J1 L1 us ctx cd q2
  rw [show o + 1 - 1 - us.length = o - us.length by omega] at q4
  exact ⟨J2, L2, Go_t q1 q3, q4⟩
theorem Fl_if {o i f j : Nat} (hk : kdT B z i = 16) (ho : o < 8) (g : FlC n O B z T T0 s (o + 1) (i + 1) f j) : Fl1 n O B z T T0 s o i f j := by
  intro J0 J L us ctx cd hE
  obtain ⟨J1, L1, q1, q2⟩ := En_if hk ho hE
  exact Go_f q1 (g J0 J1 L1 us ctx cd q2)
end MA
