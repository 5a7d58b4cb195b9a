/-! the reference reads a clause: a law, and the whole -/
section ML
variable {n : Nat} {O : TO} {B : TN} {z T T0 : Nat} {Jb J : TI} {L : TL} {i nc : Nat} {cd : List (Nat × Nat)} {so : TN} {pa : Nat → TN} {lw : Lws} {s on : Nat}
theorem RF_sf {J1 J2 : TI} (h : RF T0 Jb J1) (g : SFr T0 J1 J2) : RF T0 Jb J2 := ⟨fun a g1 g2 g3 => (g.1 a g1 g2 g3).trans (h.1 a g1 g2 g3), fun k hk => (g.2.1 k (by omega) (by omega) (by omega) (by omega) (by omega) (by omega) (by omega) (by omega)).trans (h.2.1 k hk), fun x hx => (g.2.2 x (by omega)).trans (h.2.2 x hx)⟩
theorem sum_start (hn : 100000 ≤ n) (hO : OF O) (hT : T0 ≤ 3195) (hT2 : T ≤ 300) (hT3 : stT B z T = z) (hs : s < 3) (h : BS B z T T0 Jb J L i nc cd so pa lw s on) : ∃ J2, f12_summed n J L O 331 = f12_summed_c15 n O n J2 L 331 ∧ EnV n O B z T T0 s 5 0 i J2 J2 L [] cd ∧ J2 334 = J 334 ∧ J2 331 19 = J 331 19 ∧ J2 331 14 = J 331 14 ∧ J2 331 12 = J 331 12 ∧ RF T0 Jb J2 := by
  obtain ⟨h1, h2, h3, h4, h5, h6, h7, h8⟩ := h
  have e : sI (sI (sI J 331 16 0) 331 17 0) 331 18 0 334 = J 334 := by rw [sI_o _ _ (by omega), sI_o _ _ (by omega), sI_o _ _ (by omega)]
  have k12 : sI (sI (sI J 331 16 0) 331 17 0) 331 18 0 331 12 = J 331 12 := by rw [sI_k _ _ (by omega), sI_k _ _ (by omega), sI_k _ _ (by omega)]
  have k14 : sI (sI (sI J 331 16 0) 331 17 0) 331 18 0 331 14 = J 331 14 := by rw [sI_k _ _ (by omega), sI_k _ _ (by omega), sI_k _ _ (by omega)]
  refine ⟨sI (sI (sI J 331 16 0) 331 17 0) 331 18 0, by rw [f12_summed, qbl, qbl, qbl], ⟨⟨hn, hO, hT, hT2, hT3, by rw [k12]; exact h4.2.2.1, by rw [k14]; exact h8, hs⟩, ⟨RT_fr h1 (fun k hk => by rw [sI_k _ _ (by omega), sI_k _ _ (by omega), sI_k _ _ (by omega)]) (by rw [sI_o _ _ (by omega), sI_o _ _ (by omega), sI_o _ _ (by omega)]), h2, ⟨?_, fun k hk => absurd hk (Nat.not_lt_zero _)⟩, ?_, sI_s _ _ _ _, Cd_fr h4.1 e (by rw [sI_k _ _ (by omega), sI_k _ _ (by omega), sI_k _ _ (by omega)]), h3, ⟨fun _ _ _ _ => rfl, fun _ _ _ _ _ _ _ _ _ => rfl, fun _ _ => rfl⟩⟩, by show 0 < 5; omega, by show 0 + 5 ≤ 7 * 0 + 5; omega, by omega, fun _ => rfl⟩, e, by rw [sI_k _ _ (by omega), sI_k _ _ (by omega), sI_k _ _ (by omega)], k14, k12, ⟨fun a g1 g2 g3 => by rw [sI_o _ _ g1, sI_o _ _ g1, sI_o _ _ g1]; exact h6.1 a g1 g2 g3, fun k hk => by rw [sI_k _ _ (by omega), sI_k _ _ (by omega), sI_k _ _ (by omega)]; exact h6.2.1 k hk, fun x hx => by rw [e]; exact h6.2.2 x hx⟩⟩
  · rw [sI_k _ _ (by omega), sI_k _ _ (by omega), sI_s]; rfl
  · rw [sI_k _ _ (by omega), sI_s]; rfl
theorem m_lawO (hn : 100000 ≤ n) (hO : OF O) (hT : T0 ≤ 3195) (hT2 : T ≤ 300) (hT3 : stT B z T = z) (hs : s < 3) (h : BS B z T T0 Jb J L i nc cd so pa lw s on) (hnc : nc < 24) {x j : Nat} (hx : x = T0 + 1 + 19 * nc) {v : lEnv → Int} (ho : OkV n O B z T T0 s 5 0 i j v) (na : nAr (kdT B z j)) : ∃ J' L' C, f12_lawClause n J L O 331 (nI x) = some (0, J', L') ∧ VM s C v ∧ BS B z T T0 Jb J' L' j nc (cd ++ C) so pa lw s on ∧ J' 334 (x + 1) = nI cd.length ∧ J' 334 (x + 2) = nI (cd.length + C.length) := by
  have b1 := bs_put hT h hnc (y := x + 1) (v := nI cd.length) (by omega) (by omega)
  obtain ⟨J2, q1, q2, q3, q4, q5, q6, q7⟩ := sum_start hn hO hT hT2 hT3 hs b1
  obtain ⟨o0, C, P, o1, o2, o3, o4, o5⟩ := ho
  obtain ⟨hP, hP4, hPr⟩ := V4 (Nat.le_refl _) o3
  obtain ⟨J3, L3, r1, r2⟩ := o5 J2 J2 L [] cd q2
  have hc := q2.1
  have oc : opC (P ++ []) = 0 := opC_sk P [] hP4
  have ll : (P ++ []).length = P.length := by rw [List.append_nil]
  have bn := m_bnone (n := n) hc r2 (bt_no na (by rw [oc]; decide)) (by unfold ptI; rw [oc]; rfl) (by omega)
  obtain ⟨oi, -⟩ := m_opI (n := n) hn hO r2.2.2.1 (by omega)
  obtain ⟨J4, t1, t2⟩ := ms_set (n := n) hc r2 (lv := 1) (by omega) (by omega) (by show 0 < 1; omega) (fun y hy => rk_1 (hP4 y hy)) (by rw [cn_0 P hP]; omega) (by omega) (by show P.length + 0 ≤ 159; omega)
  have s1 := t2.2.2.2.2.2.2.2
  have lc : (cd ++ C ++ P.map (fun x => (x, 0))).length = cd.length + (C ++ P.map (fun x => (x, 0))).length := by rw [List.append_assoc, List.length_append]
  have sm : f12_summed n (sI J 334 (x + 1) (nI cd.length)) L O 331 = some (0, J4, L3) := by
    obtain ⟨g1, g2⟩ := r1
    have := g2 (n - (j - i))
    have jT := r2.2.1
    rw [show n - (j - i) + (j - i) = n by omega] at this
    obtain ⟨m, hm⟩ : ∃ m, n - (j - i) = m + 1 := ⟨n - (j - i) - 1, by omega⟩
    rw [q1, this, hm, f12_summed_c15, r2.2.2.2.2.1, if_neg (show ¬ nI 1 = 0 by decide), bn, qb, if_pos rfl]
    show (f12_openNow n J3 O 331).bind _ = _
    rw [oi, qb, if_pos (show opI (P ++ []) < 0 by unfold opI; rw [oc]; decide)]
    show (f12_settle n J3 O 331 1).bind _ = _
    rw [show f12_settle n J3 O 331 1 = _ from t1, qb]
  have e457 : ∀ y, (y < T0 + 457 ∨ T0 + 1065 ≤ y) → J4 334 y = sI J 334 (x + 1) (nI cd.length) 334 y := fun y hy => by rw [s1.2.2 y hy, q3]
  have c4 := t2.2.2.2.2.2.1
  rw [List.append_assoc] at c4
  have rc4 : RcI J4 T0 nc (cd ++ (C ++ P.map (fun x => (x, 0)))) so pa lw := by
    obtain ⟨a1, a2, a3, a4, a5, a6, a7⟩ := b1.2.2.2.1
    refine ⟨c4, CO_a a2 (CO_a o2 (CO_m (fun y hy => by have := hP y hy; omega))), (SF_12 hc s1).1, by rw [e457 _ (by omega)]; exact a4, a5, fun k hk => ?_, fun s' hs' => ?_⟩
    · obtain ⟨b1, b2, b3⟩ := a6 k hk
      exact ⟨b1, by rw [e457 _ (by omega)]; exact b2, Mx_fr b3 hk (fun y hy => e457 y (by omega))⟩
    · rcases Ml_fr (J' := J4) (a7 s' hs') (fun y hy => e457 y (by omega)) with g | ⟨v', k, X, C', Y, g1, g2, g3, g4, g5, g6⟩
      · exact Or.inl g
      · exact Or.inr ⟨v', k, X, C', Y ++ (C ++ P.map (fun x => (x, 0))), g1, g2, g3, g4, by rw [g5, List.append_assoc, List.append_assoc], g6⟩
  have bs4 : BS B z T T0 Jb J4 L3 j nc (cd ++ (C ++ P.map (fun x => (x, 0)))) so pa lw s on := by
    have l7 := t2.2.2.2.2.2.2.1
    have l7' : (cd ++ C ++ P.map (fun x => (x, 0))).length + 0 ≤ j := l7
    refine ⟨t2.1, t2.2.1, by rw [← List.append_assoc]; omega, rc4, ?_, RF_sf q7 s1, by rw [e457 _ (by omega)]; exact b1.2.2.2.2.2.2.1, (SF_12 hc s1).2⟩
    rw [s1.2.1 19 (by omega) (by omega) (by omega) (by omega) (by omega) (by omega) (by omega) (by omega), q4]; exact b1.2.2.2.2.1
  refine ⟨sI J4 334 (x + 2) (nI (cd.length + (C ++ P.map (fun x => (x, 0))).length)), L3, C ++ P.map (fun x => (x, 0)), ?_, o1, bs_put hT bs4 hnc (by omega) (by omega), by rw [sI_k _ _ (by omega), e457 _ (by omega), sI_s], sI_s _ _ _ _⟩
  rw [f12_lawClause, nI_1, if_neg (nI_in (by omega) (by omega)), o_331_2 hO, qcl (by omega), h.2.2.2.1.1.1, qbl, sm, qb, show nI x + 2 = nI (x + 2) from qadd x 2, if_neg (nI_in (by omega) (by omega)), qcl (by omega)]
  show bl (sI J4 334 (x + 2) (J4 331 13)) _ = _
  rw [qbl, c4.1, List.length_append]
theorem m_lawF (hn : 100000 ≤ n) (hO : OF O) (hT : T0 ≤ 3195) (hT2 : T ≤ 300) (hT3 : stT B z T = z) (hs : s < 3) (h : BS B z T T0 Jb J L i nc cd so pa lw s on) (hnc : nc < 24) {x f j : Nat} (hx : x = T0 + 1 + 19 * nc) (hj : j ≤ T) (ho : FlV n O B z T T0 s 5 0 i f j) : ∃ J' L', f12_lawClause n J L O 331 (nI x) = some (nI f, J', L') ∧ J' 331 8 = nI (stT B z j) ∧ RF T0 Jb J' := by
  have b1 := bs_put hT h hnc (y := x + 1) (v := nI cd.length) (by omega) (by omega)
  obtain ⟨J2, q1, q2, q3, q4, q5, q6, q7⟩ := sum_start hn hO hT hT2 hT3 hs b1
  obtain ⟨g1, g2⟩ := ho J2 J2 L [] cd q2
  obtain ⟨J3, L3, r1, r2, r3⟩ := g2 n (by omega)
  have rf := RF_sf q7 r3
  refine ⟨sI J3 334 (x + 2) (J3 331 13), L3, ?_, by rw [sI_o _ _ (by omega)]; exact r2, ⟨fun a g1 g2 g3 => by rw [sI_o _ _ g2]; exact rf.1 a g1 g2 g3, fun k hk => by rw [sI_o _ _ (by omega)]; exact rf.2.1 k hk, fun y hy => by rw [sI_k _ _ (by omega)]; exact rf.2.2 y hy⟩⟩
  rw [f12_lawClause, nI_1, if_neg (nI_in (by omega) (by omega)), o_331_2 hO, qcl (by omega), h.2.2.2.1.1.1, qbl, q1, r1, qb, show nI x + 2 = nI (x + 2) from qadd x 2, if_neg (nI_in (by omega) (by omega)), qcl (by omega)]
  show bl (sI J3 334 (x + 2) (J3 331 13)) _ = _
  rw [qbl]
/-- between clauses -/
def onB (lw : Lws) : Nat := (if (lw 0).isSome then 1 else 0) + (if (lw 1).isSome then 2 else 0) + (if (lw 2).isSome then 4 else 0)
def RS (B : TN) (z T T0 : Nat) (Jb J : TI) (L : TL) (i nc : Nat) (cd : List (Nat × Nat)) (so : TN) (pa : Nat → TN) (lw : Lws) : Prop := RT J L B z i ∧ i ≤ T ∧ cd.length ≤ i ∧ RcI J T0 nc cd so pa lw ∧ J 331 19 = nI (onB lw) ∧ RF T0 Jb J
def srt (k : Nat) : Nat := if k = 7 then 3 else if k = 3 then 4 else if k = 4 then 5 else if k = 5 then 6 else if k = 6 then 7 else k
theorem srt_ok : ∀ k, k ≤ 8 → kxs (srt k) = k ∧ srt k ≤ 8 ∧ (srt k < 3 ↔ k < 3) ∧ (k < 3 → srt k = k) := by decide
theorem m_sort (h : RT J L B z i) : f12_sortOf J L 331 = some (if kdT B z i ≤ 8 then nI (srt (kdT B z i)) else -1) := by
  obtain ⟨c0, c1, c2, c3, c4, c5, c6, c7, c8, -⟩ := w_c
  rw [f12_sortOf, c0, qb, tk_w h (by omega), qb]
  by_cases k0 : kdT B z i = 0
  · rw [if_pos k0, if_neg (by decide), k0]; rfl
  rw [if_neg k0, if_pos rfl, c1, qb, tk_w h (by omega), qb]
  by_cases k1 : kdT B z i = 1
  · rw [if_pos k1, if_neg (by decide), k1]; rfl
  rw [if_neg k1, if_pos rfl, c2, qb, tk_w h (by omega), qb]
  by_cases k2 : kdT B z i = 2
  · rw [if_pos k2, if_neg (by decide), k2]; rfl
  rw [if_neg k2, if_pos rfl, c7, qb, tk_w h (by omega), qb]
  by_cases k7 : kdT B z i = 7
  · rw [if_pos k7, if_neg (by decide), k7]; rfl
  rw [if_neg k7, if_pos rfl, c3, qb, tk_w h (by omega), qb]
  by_cases k3 : kdT B z i = 3
  · rw [if_pos k3, if_neg (by decide), k3]; rfl
  rw [if_neg k3, if_pos rfl, c4, qb, tk_w h (by omega), qb]
  by_cases k4 : kdT B z i = 4
  · rw [if_pos k4, if_neg (by decide), k4]; rfl
  rw [if_neg k4, if_pos rfl, c5, qb, tk_w h (by omega), qb]
  by_cases k5 : kdT B z i = 5
  · rw [if_pos k5, if_neg (by decide), k5]; rfl
  rw [if_neg k5, if_pos rfl, c6, qb, tk_w h (by omega), qb]
  by_cases k6 : kdT B z i = 6
  · rw [if_pos k6, if_neg (by decide), k6]; rfl
  rw [if_neg k6, if_pos rfl, c8, qb, tk_w h (by omega), qb]
  by_cases k8 : kdT B z i = 8
  · rw [if_pos k8, if_neg (by decide), k8]; rfl
  rw [if_neg k8, if_pos rfl, if_neg (by omega)]
def bt3 (a b c : Bool) (s : Nat) : Bool := if s = 0 then a else if s = 1 then b else c
def bn3 (a b c : Bool) : Nat := (if a then 1 else 0) + (if b then 2 else 0) + (if c then 4 else 0)
theorem has3 : ∀ a b c : Bool, ∀ s, s < 3 → f12_has (nI (bn3 a b c)) (nI s) = some (if bt3 a b c s then 1 else 0) ∧ (bt3 a b c s = false → nI (bn3 a b c) ||| ((1 : Int32) <<< (nI s &&& 31)) = nI (bn3 (a || s == 0) (b || s == 1) (c || s == 2))) := by decide +kernel
def lwU (lw : Lws) (s : Nat) (v : lEnv → Int) : Lws := fun k => if k = s then some v else lw k
theorem onB_has (lw : Lws) (hs : s < 3) : f12_has (nI (onB lw)) (nI s) = some (if (lw s).isSome then 1 else 0) := by
  have h := (has3 (lw 0).isSome (lw 1).isSome (lw 2).isSome s hs).1
  have e : bt3 (lw 0).isSome (lw 1).isSome (lw 2).isSome s = (lw s).isSome := by
    have : s = 0 ∨ s = 1 ∨ s = 2 := by omega
    rcases this with rfl | rfl | rfl <;> rfl
  rw [e] at h
  exact h
theorem onB_up (lw : Lws) (hs : s < 3) (hl : lw s = none) (v : lEnv → Int) : nI (onB lw) ||| ((1 : Int32) <<< (nI s &&& 31)) = nI (onB (lwU lw s v)) := by
  have e : bt3 (lw 0).isSome (lw 1).isSome (lw 2).isSome s = false := by
    have : s = 0 ∨ s = 1 ∨ s = 2 := by omega
    rcases this with rfl | rfl | rfl
    · show (lw 0).isSome = false; rw [hl]; rfl
    · show (lw 1).isSome = false; rw [hl]; rfl
    · show (lw 2).isSome = false; rw [hl]; rfl
  have h := (has3 (lw 0).isSome (lw 1).isSome (lw 2).isSome s hs).2 e
  have e2 : onB (lwU lw s v) = bn3 ((lw 0).isSome || s == 0) ((lw 1).isSome || s == 1) ((lw 2).isSome || s == 2) := by
    have : s = 0 ∨ s = 1 ∨ s = 2 := by omega
    rcases this with rfl | rfl | rfl
    · show bn3 true (lw 1).isSome (lw 2).isSome = bn3 ((lw 0).isSome || true) ((lw 1).isSome || false) ((lw 2).isSome || false)
      rw [Bool.or_true, Bool.or_false, Bool.or_false]
    · show bn3 (lw 0).isSome true (lw 2).isSome = bn3 ((lw 0).isSome || false) ((lw 1).isSome || true) ((lw 2).isSome || false)
      rw [Bool.or_true, Bool.or_false, Bool.or_false]
    · show bn3 (lw 0).isSome (lw 1).isSome true = bn3 ((lw 0).isSome || false) ((lw 1).isSome || false) ((lw 2).isSome || true)
      rw [Bool.or_true, Bool.or_false, Bool.or_false]
  rw [e2]; exact h
theorem m_clF1 (h : RS B z T T0 Jb J L i nc cd so pa lw) (hk : ¬ kdT B z i ≤ 8) : f12_clause n J L O 331 = some (1, J, L) := by
  rw [f12_clause, m_sort h.1, if_neg hk, qb, if_neg (by decide)]
theorem m_clF4 (h : RS B z T T0 Jb J L i nc cd so pa lw) (hk : kdT B z i < 3) (hl : lw (kdT B z i) ≠ none) : f12_clause n J L O 331 = some (4, J, L) := by
  obtain ⟨-, -, -, sr⟩ := srt_ok (kdT B z i) (by omega)
  have e : (lw (kdT B z i)).isSome = true := by
    cases hq : lw (kdT B z i) with
    | none => exact absurd hq hl
    | some v => rfl
  rw [f12_clause, m_sort h.1, if_pos (by omega), qb, sr hk, if_pos (show (0 : Int32) ≤ nI (kdT B z i) from (nI_leI (a := 0) (by omega) (by omega)).mpr (Nat.zero_le _)), if_neg (show ¬ (2 : Int32) < nI (kdT B z i) from fun g => by have := (nI_ltI (a := 2) (by omega) (by omega)).mp g; omega), h.2.2.2.2.1, onB_has lw hk, e, qb, if_pos rfl, if_neg (by decide)]
/-- the clause's fin -/
def clE (n : Nat) (O : TO) (r8 : Int32 × TI × TL) : Option (Int32 × TI × TL) := (if r8.1 = 0 then (if (r8.2.1 331 12) < 0 ∨ 4260 ≤ (r8.2.1 331 12).toNatClampNeg then none else (if (r8.2.1 331 12) < 0 ∨ 4260 ≤ (r8.2.1 331 12).toNatClampNeg then none else bl (sI r8.2.1 (rO O 331 2) (r8.2.1 331 12).toNatClampNeg ((r8.2.1 (rO O 331 2) (r8.2.1 331 12).toNatClampNeg) + 1)) fun I13 => (if (I13 331 9) = (59 : Int32) then (f12_nextToken n I13 r8.2.2 O 331).bind fun r15 => some ((0 : Int32), r15.1, r15.2) else some ((1 : Int32), I13, r8.2.2)))) else some (r8.1, r8.2.1, r8.2.2))
theorem m_clB (hn : 100000 ≤ n) (hO : OF O) (hT : T0 ≤ 3195) (hT3 : stT B z T = z) (h : RS B z T T0 Jb J L i nc cd so pa lw) (hk : kdT B z i ≤ 8) (hl : kdT B z i < 3 → lw (kdT B z i) = none) : (nc = 24 → f12_clause n J L O 331 = some (6, J, L)) ∧ (nc < 24 → ∃ J1 L1 on, f12_clause n J L O 331 = (f12_body n J1 L1 O 331 (nI (srt (kdT B z i))) (nI (T0 + 1 + 19 * nc))).bind (clE n O) ∧ BS B z T T0 Jb J1 L1 (i + 1) nc cd so pa lw (srt (kdT B z i)) on ∧ (3 ≤ kdT B z i → on = onB lw) ∧ (kdT B z i < 3 → ∀ v, on = onB (lwU lw (kdT B z i) v))) := by
  obtain ⟨h1, h2, h3, h4, h5, h6⟩ := h
  obtain ⟨s1, s2, s3, s4⟩ := srt_ok (kdT B z i) hk
  obtain ⟨a1, a2, a3, a4, a5, a6, a7⟩ := h4
  have go : f12_clause n J L O 331 = f12_clause_c29 n O J L 331 (nI (srt (kdT B z i))) := by
    rw [f12_clause, m_sort h1, if_pos hk, qb, if_pos (show (0 : Int32) ≤ nI _ from (nI_leI (a := 0) (by omega) (by omega)).mpr (Nat.zero_le _))]
    by_cases w : 2 < srt (kdT B z i)
    · rw [if_pos (show (2 : Int32) < nI _ from (nI_ltI (a := 2) (by omega) (by omega)).mpr w)]
    · have k3 : kdT B z i < 3 := s3.mp (by omega)
      have e : (lw (srt (kdT B z i))).isSome = false := by rw [s4 k3, hl k3]; rfl
      rw [if_neg (show ¬ (2 : Int32) < nI _ from fun g => w ((nI_ltI (a := 2) (by omega) (by omega)).mp g)), h5, onB_has lw (by omega), e, qb, if_pos (by decide)]
  have ng : ¬ (nI T0 < 0 ∨ 4260 ≤ (nI T0).toNatClampNeg) := nI_in (by omega) (by omega)
  refine ⟨fun e24 => ?_, fun hnc => ?_⟩
  · rw [go, f12_clause_c29, a3, if_neg ng, o_331_2 hO, qcl (by omega), a4, qbl, e24, if_pos (show nI 24 = 24 from rfl)]
  · have iT := kd_T hT3 h2 (show kdT B z i ≠ 27 by omega)
    have c65 : ∀ (K : TI) (on : Nat), (∀ a, a ≠ 331 → K a = J a) → (∀ k, k ≠ 19 → K 331 k = J 331 k) → K 331 19 = nI on → ∃ J1 L1, f12_clause_c65 n O K L 331 (nI (srt (kdT B z i))) (nI nc) = (f12_body n J1 L1 O 331 (nI (srt (kdT B z i))) (nI (T0 + 1 + 19 * nc))).bind (clE n O) ∧ BS B z T T0 Jb J1 L1 (i + 1) nc cd so pa lw (srt (kdT B z i)) on := by
      intro K on f1 f2 f3
      let K1 := sI K 331 14 (nI (srt (kdT B z i)))
      have kf : ∀ k, k ≠ 14 → K1 331 k = K 331 k := fun k hk => sI_k _ _ hk
      have kg : ∀ a, a ≠ 331 → K1 a = J a := fun a ha => by show sI _ _ _ _ _ = _; rw [sI_o _ _ ha]; exact f1 a ha
      have rt : RT K1 L B z i := RT_fr h1 (fun k hk => by rw [kf k (by omega), f2 k (by omega)]) (kg 335 (by omega))
      obtain ⟨J2, L2, q1, q2, q3⟩ := m_tokS (n := n) hn hO rt
      have e334 : J2 334 = J 334 := by rw [q3.1 334 (by omega), kg 334 (by omega)]
      have j331 : ∀ k, k ≠ 7 → k ≠ 8 → k ≠ 9 → k ≠ 10 → k ≠ 14 → k ≠ 19 → J2 331 k = J 331 k := fun k g1 g2 g3 g4 g5 g6 => by rw [q3.2 k g1 g2 g3 g4, kf k g5, f2 k g6]
      have rc : RcI J2 T0 nc cd so pa lw := Rc_fr ⟨a1, a2, a3, a4, a5, a6, a7⟩ (j331 12 (by omega) (by omega) (by omega) (by omega) (by omega) (by omega)) (j331 13 (by omega) (by omega) (by omega) (by omega) (by omega) (by omega)) (fun x _ => by rw [e334])
      refine ⟨sI J2 334 (T0 + 1 + 19 * nc) (nI (srt (kdT B z i))), L2, ?_, RT_fr q2 (fun k hk => by rw [sI_o _ _ (by omega)]) (sI_o _ _ (by omega)), by omega, by omega, Rc_fr rc (by rw [sI_o _ _ (by omega)]) (by rw [sI_o _ _ (by omega)]) (fun x hx => sI_k _ _ (by omega)), ?_, ⟨fun a g1 g2 g3 => by rw [sI_o _ _ g2, q3.1 a g1, kg a g1]; exact h6.1 a g1 g2 g3, fun k hk => by rw [sI_o _ _ (by omega), j331 k (by omega) (by omega) (by omega) (by omega) (by omega) (by omega)]; exact h6.2.1 k hk, fun x hx => by rw [sI_k _ _ (by omega), e334]; exact h6.2.2 x hx⟩, sI_s _ _ _ _, ?_⟩
      · have e12 : J2 331 12 = nI T0 := rc.2.2.1
        rw [f12_clause_c65, qbl, show f12_nextToken n (sI K 331 14 (nI (srt (kdT B z i)))) L O 331 = _ from q1, qb]
        show bl (((J2 331 12) + 1) + ((19 : Int32) * nI nc)) _ = _
        rw [e12, nI_1, show (19 : Int32) * nI nc = nI (19 * nc) from qmul 19 nc, qadd, qbl, if_neg (nI_in (by omega) (by omega)), o_331_2 hO, qcl (by omega)]
        show bl (sI J2 334 (T0 + 1 + 19 * nc) (nI (srt (kdT B z i)))) _ = _
        rw [qbl]
        unfold clE
        rw [o_331_2 hO]
      · rw [sI_o _ _ (by omega), q3.2 19 (by omega) (by omega) (by omega) (by omega), kf 19 (by omega)]; exact f3
      · rw [sI_o _ _ (by omega), q3.2 14 (by omega) (by omega) (by omega) (by omega)]; exact sI_s _ _ _ _
    have n24 : ¬ nI nc = (24 : Int32) := fun g => by rw [show (24 : Int32) = nI 24 from rfl, nI_eq (by omega) (by omega)] at g; omega
    by_cases w : 2 < srt (kdT B z i)
    · obtain ⟨J1, L1, q1, q2⟩ := c65 J (onB lw) (fun _ _ => rfl) (fun _ _ => rfl) h5
      refine ⟨J1, L1, onB lw, ?_, q2, fun _ => rfl, fun k3 => by have := s3.mpr k3; omega⟩
      rw [go, f12_clause_c29, a3, if_neg ng, o_331_2 hO, qcl (by omega), a4, qbl, if_neg n24, if_pos (show (2 : Int32) < nI _ from (nI_ltI (a := 2) (by omega) (by omega)).mpr w)]
      exact q1
    · have k3 : kdT B z i < 3 := s3.mp (by omega)
      have es := s4 k3
      obtain ⟨J1, L1, q1, q2⟩ := c65 (sI J 331 19 (nI (onB (lwU lw (kdT B z i) (fun _ => 0))))) (onB (lwU lw (kdT B z i) (fun _ => 0))) (fun a ha => sI_o _ _ ha) (fun k hk => sI_k _ _ hk) (sI_s _ _ _ _)
      refine ⟨J1, L1, onB (lwU lw (kdT B z i) (fun _ => 0)), ?_, q2, fun g => by omega, fun _ v => ?_⟩
      · have up := onB_up lw (s := srt (kdT B z i)) (by omega) (by rw [es]; exact hl k3) (fun _ => 0)
        rw [es] at up q1
        rw [go, f12_clause_c29, a3, if_neg ng, o_331_2 hO, qcl (by omega), a4, qbl, if_neg n24, if_neg (show ¬ (2 : Int32) < nI _ from fun g => w ((nI_ltI (a := 2) (by omega) (by omega)).mp g)), h5, es, up, qbl]
        exact q1
      · have : kdT B z i = 0 ∨ kdT B z i = 1 ∨ kdT B z i = 2 := by omega
        rcases this with g | g | g <;> rw [g] <;> rfl
end ML
