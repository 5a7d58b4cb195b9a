/-! the start -/
theorem lkZ_m : ∀ (l : List (Nat × (Nat × Nat))) a q, lkZ l a = some q → (a, q) ∈ l := by
  intro l
  induction l with
  | nil => intro a q h; exact absurd h (by intro g; cases g)
  | cons x l ih =>
    intro a q h
    have h' : (if a = x.1 then some x.2 else lkZ l a) = some q := h
    by_cases e : a = x.1
    · rw [if_pos e] at h'
      injection h' with h2
      rw [e, ← h2]; exact List.mem_cons_self
    · rw [if_neg e] at h'
      exact List.mem_cons_of_mem _ (ih a q h')
def okB3 (a k : Nat) (t : Nat × Nat) : Bool := match lkO JO a k with
  | none => false
  | some b => decide (b ≠ 0) && decide (lkZ JZ b = some t)
theorem okB3_e {a k : Nat} {t : Nat × Nat} (h : okB3 a k t = true) : ∃ b, b ≠ 0 ∧ lkO JO a k = some b ∧ lkZ JZ b = some t := by
  unfold okB3 at h
  cases e : lkO JO a k with
  | none => rw [e] at h; exact absurd h (by intro g; cases g)
  | some b =>
    rw [e] at h
    have h' : (decide (b ≠ 0) && decide (lkZ JZ b = some t)) = true := h
    rw [Bool.and_eq_true, decide_eq_true_eq, decide_eq_true_eq] at h'
    exact ⟨b, h'.1, rfl, h'.2⟩
theorem z_ref : (JZ.all fun x => (List.range 34).all fun k => !(refF x.2.1 k) || okB3 x.1 k (tgT x.2.1 k)) = true := by decide +kernel
theorem z_16 : (JZ.all fun x => decide (x.2.1 ≠ 16) || ((List.range x.2.2).all fun k => okB3 x.1 k (3, 6))) = true := by decide +kernel
theorem z_17 : (JZ.all fun x => decide (x.2.1 ≠ 17) || ((List.range x.2.2).all fun k => okB3 x.1 k (7, 7))) = true := by decide +kernel
theorem z_sz : ∀ c, c < 13 → (vwCl.getD c ("", fun _ => ("", "", "", false), 0)).2.2 ≤ 34 := by decide +kernel
theorem z_o1 : ∀ q, q ∈ oTab → (lkO JO q.1 q.2.1).getD 0 = q.2.2 := by decide +kernel
theorem z_o2 : ∀ k, k < 30 → (lkO JO 11 k).getD 0 = 12 + 4 * k ∧ (lkO JO (12 + 4 * k) 0).getD 0 = 12 + 4 * k + 1 ∧ (lkO JO (12 + 4 * k) 1).getD 0 = 12 + 4 * k + 2 ∧ (lkO JO (12 + 4 * k) 2).getD 0 = 12 + 4 * k + 3 := by decide +kernel
theorem z_o3 : ∀ k, k < 30 → (lkO JO 145 k).getD 0 = 146 + 4 * k ∧ (lkO JO (146 + 4 * k) 0).getD 0 = 146 + 4 * k + 1 ∧ (lkO JO (146 + 4 * k) 1).getD 0 = 146 + 4 * k + 2 ∧ (lkO JO (146 + 4 * k) 2).getD 0 = 146 + 4 * k + 3 := by decide +kernel
theorem z_o4 : ∀ k, k < 4 → (lkO JO 277 k).getD 0 = 300 + 6 * k ∧ (lkO JO (300 + 6 * k) 0).getD 0 = 300 + 6 * k + 1 ∧ (lkO JO (300 + 6 * k) 1).getD 0 = 300 + 6 * k + 2 ∧ (lkO JO (300 + 6 * k) 2).getD 0 = 300 + 6 * k + 3 ∧ (lkO JO (300 + 6 * k) 3).getD 0 = 300 + 6 * k + 4 ∧ (lkO JO (300 + 6 * k) 4).getD 0 = 300 + 6 * k + 5 := by decide +kernel
def N0s : TN := fun t => if t = 8 then 269 else if t = 3 then 4294967295 else 0
theorem N0_z {t : Nat} (h8 : t ≠ 8) (h3 : t ≠ 3) : N0s t = 0 := by unfold N0s; rw [if_neg h8, if_neg h3]
theorem z_332 : (JI.all fun x => decide (x.1 ≠ 332) || (match x.2 with
    | none => true
    | some y => decide (y.1 = 8) || decide (y.1 = 3))) = true := by decide +kernel
theorem lkI_0 {a : Nat} : ∀ (l : List (Nat × Option (Nat × Int32))) k, (l.all fun x => decide (x.1 ≠ a) || (match x.2 with
    | none => true
    | some y => decide (y.1 = 8) || decide (y.1 = 3))) = true → k ≠ 8 → k ≠ 3 → lkI l a k = 0 := by
  intro l
  induction l with
  | nil => intro k _ _ _; rfl
  | cons x l ih =>
    intro k h h8 h3
    rw [List.all_cons, Bool.and_eq_true] at h
    have i := ih k h.2 h8 h3
    show (if a = x.1 then (match x.2 with | none => 0 | some y => if k = y.1 then y.2 else lkI l a k) else lkI l a k) = 0
    by_cases e : a = x.1
    · rw [if_pos e]
      cases hx : x.2 with
      | none => rfl
      | some y =>
        have h1 := h.1
        rw [hx, decide_eq_false (show ¬ x.1 ≠ a from fun g => g e.symm), Bool.false_or] at h1
        have h1' : (decide (y.1 = 8) || decide (y.1 = 3)) = true := h1
        rw [Bool.or_eq_true, decide_eq_true_eq, decide_eq_true_eq] at h1'
        show (if k = y.1 then y.2 else lkI l a k) = 0
        rw [if_neg (by omega)]; exact i
    · rw [if_neg e]; exact i
theorem z_w2 : ∀ t, t < 231 → lkI JI (la 2 t) (lk t) = nI (N0s t) ∧ lkI JI (la 136 t) (lk t) = nI (N0s t) := by decide +kernel
theorem z_w3 : ∀ k, k < 30 → lkI JI (la 2 (4341 + k)) (lk (4341 + k)) = nI (N0s (4341 + k)) ∧ lkI JI (la 136 (4341 + k)) (lk (4341 + k)) = nI (N0s (4341 + k)) := by decide +kernel
theorem z_pts : lkI JI 332 8 = nI (N0s 8) ∧ lkI JI 332 3 = nI (N0s 3) ∧ lkI JI 10 1 = nI 0 ∧ lkI JI 144 1 = nI 0 ∧ lkI JI 278 4 = nI 0 ∧ lkI JI 331 4 = nI 0 ∧ lkI JI 1 10 = 0 ∧ lkI JI 331 5 = -1 ∧ lkI JI 331 6 = -1 ∧ lkI JI 331 23 = 1 := by decide +kernel
theorem NB_0 : NB N0s := by
  refine ⟨by decide, by decide, by decide, Or.inl rfl, by decide, by decide, by decide, fun r hr => ?_, fun r hr => absurd hr (by show ¬ r < 0; omega), fun k hk => ?_, fun k hk => ?_, fun k hk => absurd hk (by show ¬ k < 0; omega), ⟨by decide, by decide, by decide, fun k hk => ?_, fun k hk => ?_, fun c hc => ?_, fun k hk => ?_⟩, fun k hk => absurd hk (by show ¬ k < 0; omega)⟩
  · have : Ln N0s r = 0 := N0_z (by omega) (by omega)
    omega
  · rw [N0_z (by omega) (by omega)]; omega
  · rw [N0_z (by omega) (by omega)]; omega
  · have : N0s (ts (3 + k)) = 0 := N0_z (by unfold ts; split <;> omega) (by unfold ts; split <;> omega)
    show N0s (ts (3 + k)) ≤ 9
    omega
  · have : N0s (ts (83 + k)) = 0 := N0_z (by unfold ts; split <;> omega) (by unfold ts; split <;> omega)
    show N0s (ts (83 + k)) ≤ 99
    omega
  · exact N0_z (by unfold ts; split <;> omega) (by unfold ts; split <;> omega)
  · have : N0s (ts (107 + k)) = 0 := N0_z (by unfold ts; split <;> omega) (by unfold ts; split <;> omega)
    show N0s (ts (107 + k)) < 3400000
    omega
section BG
variable (ls : Nat) (xs : Nat → Int32)
theorem bg_Z {a : Nat} (h : a ≠ 0) : (WM ls xs).1[a]? = lkZ JZ a := by rw [(Rel_M ls xs).2.1 a h, JMf_z]
theorem bg_I {a k : Nat} (h : a ≠ 0) : (WM ls xs).2.1 a k = lkI JI a k := by rw [(Rel_M ls xs).2.2.1 a k h, JMf_i]
theorem bg_O (a k : Nat) : (WM ls xs).2.2.2 a k = lkO JO a k := by rw [(Rel_M ls xs).2.2.2 a k, JMf_o]
theorem bg_Z0 : (WM ls xs).1[0]? = some (18, ls) :=
  (F12_pre (a0 := aMo) (w := pNew (WX ls xs) (12, 34)) rfl).2.2.1 _ _ (z_new ((F11_init (a0 := 1) (w := pNew (W0 ls xs) (11, 11)) rfl).2.2.1 _ _ (z_new rfl)))
theorem bg_WT : WT (WM ls xs).1 (WM ls xs).2.2.2 := by
  have r := z_ref
  have r16 := z_16
  have r17 := z_17
  rw [List.all_eq_true] at r r16 r17
  refine ⟨fun a ci n k hz hr => ?_, fun a n i hz hi => ?_, fun a n i hz hi => ?_⟩
  · by_cases e : a = 0
    · rw [e, bg_Z0] at hz
      injection hz with h2
      injection h2 with h3 h4
      rw [← h3] at hr
      exact absurd hr (by unfold refF; rw [decide_eq_false (show ¬ 18 < 13 by omega), Bool.false_and, Bool.false_and]; decide)
    · rw [bg_Z ls xs e] at hz
      have m := lkZ_m _ _ _ hz
      have rk : ci < 13 ∧ k < 34 := by
        unfold refF at hr
        rw [Bool.and_eq_true, Bool.and_eq_true, decide_eq_true_eq, decide_eq_true_eq, decide_eq_true_eq] at hr
        have := z_sz ci hr.1.1
        exact ⟨hr.1.1, by omega⟩
      have c := r _ m
      rw [List.all_eq_true] at c
      have c2 := c k (List.mem_range.mpr rk.2)
      have c3 : (!(refF ci k) || okB3 a k (tgT ci k)) = true := c2
      rw [hr, Bool.not_true, Bool.false_or] at c3
      obtain ⟨b, b0, b1, b2⟩ := okB3_e c3
      exact ⟨b, by rw [bg_O]; exact b1, by rw [bg_Z ls xs b0]; exact b2⟩
  · by_cases e : a = 0
    · rw [e, bg_Z0] at hz
      injection hz with h2
      injection h2 with h3 h4
      omega
    · rw [bg_Z ls xs e] at hz
      have c := r16 _ (lkZ_m _ _ _ hz)
      have c2 : (decide (16 ≠ 16) || ((List.range n).all fun k => okB3 a k (3, 6))) = true := c
      rw [decide_eq_false (by omega), Bool.false_or, List.all_eq_true] at c2
      obtain ⟨b, b0, b1, b2⟩ := okB3_e (c2 i (List.mem_range.mpr hi))
      exact ⟨b, by rw [bg_O]; exact b1, by rw [bg_Z ls xs b0]; exact b2⟩
  · by_cases e : a = 0
    · rw [e, bg_Z0] at hz
      injection hz with h2
      injection h2 with h3 h4
      omega
    · rw [bg_Z ls xs e] at hz
      have c := r17 _ (lkZ_m _ _ _ hz)
      have c2 : (decide (17 ≠ 17) || ((List.range n).all fun k => okB3 a k (7, 7))) = true := c
      rw [decide_eq_false (by omega), Bool.false_or, List.all_eq_true] at c2
      obtain ⟨b, b0, b1, b2⟩ := okB3_e (c2 i (List.mem_range.mpr hi))
      exact ⟨b, by rw [bg_O]; exact b1, by rw [bg_Z ls xs b0]; exact b2⟩
theorem bg_OF : OF (WM ls xs).2.2.2 := by
  have e : ∀ a k, rO (WM ls xs).2.2.2 a k = (lkO JO a k).getD 0 := fun a k => by unfold rO; rw [bg_O]
  refine ⟨fun q hq => by rw [e]; exact z_o1 q hq, fun k hk => ?_, fun k hk => ?_, fun k hk => ?_⟩
  · rw [e, e, e, e]; exact z_o2 k hk
  · rw [e, e, e, e]; exact z_o3 k hk
  · rw [e, e, e, e, e, e]; exact z_o4 k hk
theorem bg_R : ∃ I2, f12_copy 100000 (WM ls xs).2.1 (rO (WM ls xs).2.2.2 aMo 0) (rO (WM ls xs).2.2.2 aMo 1) = some I2 ∧ RE tX I2 (WM ls xs).2.2.2 := by
  have hO := bg_OF ls xs
  have o0 : rO (WM ls xs).2.2.2 aMo 0 = 332 := o_331_0 hO
  have o1 : rO (WM ls xs).2.2.2 aMo 1 = 333 := o_331_1 hO
  obtain ⟨I2, c1, c2, c3⟩ := copyM0 (n := 100000) (Nat.le_refl _) (a := 332) (b := 333) (by omega) (WM ls xs).2.1
  obtain ⟨p1, p2, p3, p4, p5, p6, p7, p8, p9, p10⟩ := z_pts
  have eI : ∀ a k, a ≠ 0 → a ≠ 333 → I2 a k = lkI JI a k := fun a k h0 h3 => by rw [c3 a h3]; exact bg_I ls xs h0
  have e332 : ∀ t, t < 4371 → (WM ls xs).2.1 332 t = nI (N0s t) := fun t ht => by
    rw [bg_I ls xs (by omega)]
    by_cases w8 : t = 8
    · rw [w8]; exact p1
    · by_cases w3 : t = 3
      · rw [w3]; exact p2
      · rw [N0_z w8 w3]; exact lkI_0 JI t z_332 w8 w3
  have rwn : ∀ wh, (wh = 2 ∨ wh = 136) → RWn I2 wh N0s := fun wh hw t ht => by
    have lr := la_rng (wh := wh) ht
    rw [eI _ _ (by omega) (by omega)]
    rcases ht with g | ⟨g1, g2⟩
    · have := z_w2 t g
      rcases hw with rfl | rfl
      · exact this.1
      · exact this.2
    · have := z_w3 (t - 4341) (by omega)
      rw [show 4341 + (t - 4341) = t by omega] at this
      rcases hw with rfl | rfl
      · exact this.1
      · exact this.2
  refine ⟨I2, by rw [o0, o1]; exact c1, N0s, N0s, 0, 0, 0, hO, ⟨o_331_0 hO, fun t ht => by rw [c3 332 (by omega)]; exact e332 t ht⟩, fun t ht => by rw [c2 t ht]; exact e332 t ht, NB_0, NB_0, Nat.le_refl _, ⟨rwn 2 (Or.inl rfl), ?_, by omega, fun k hk => absurd hk (by show ¬ k < 0; omega)⟩, ⟨rwn 136 (Or.inr rfl), ?_, by omega, fun k hk => absurd hk (by show ¬ k < 0; omega)⟩, ⟨by omega, ?_, ?_, fun k hk => absurd hk (Nat.not_lt_zero _)⟩, Or.inl ⟨?_, ?_, ?_⟩, ?_, fun t ht => absurd ht (by show ¬ t < 0; omega)⟩
  · rw [eI _ _ (by omega) (by omega)]; exact p3
  · rw [eI _ _ (by omega) (by omega)]; exact p4
  · rw [eI _ _ (by omega) (by omega)]; exact p5
  · rw [eI _ _ (by omega) (by omega)]; exact p6
  · rw [eI _ _ (by omega) (by omega)]; exact p7
  · rw [eI _ _ (by omega) (by omega)]; exact p8
  · rw [eI _ _ (by omega) (by omega)]; exact p9
  · rw [eI _ _ (by omega) (by omega)]; exact p10
theorem bg_324 : (WM ls xs).1[324]? = some (5, 8) := by rw [bg_Z ls xs (by omega)]; decide +kernel
theorem bg_sc : ∀ t, t < 4 → (WM ls xs).1[300 + 6 * t]? = some (7, 7) := fun t ht => by
  rw [bg_Z ls xs (by omega)]
  have : ∀ t, t < 4 → lkZ JZ (300 + 6 * t) = some (7, 7) := by decide +kernel
  exact this t ht
end BG
/-- the law's walk, from its entry -/
theorem law_all {g : pG} {Qx : Option Value → pW → Prop} (hStr : StrOK g) (hgL : gL g ≤ 3072) (hQ : ∀ I L O, Qx (some (.int 1)) ((WM (gL g) (gx g)).1, I, L, O)) : Ok g (400, RL, cL_law, 4, false, 600000, 7302250, 1, gL g) Qx 0 [(0, .ref 0)] [] (W0 (gL g) (gx g)) := by
  obtain ⟨I2, c1, c2⟩ := bg_R (gL g) (gx g)
  exact law_start (n := 100000) (R := fun I _ O => RE tX I O ∧ WT (WM (gL g) (gx g)).1 O) hStr hgL (bg_WT _ _) c1 (all_st (Nat.le_refl _) (bg_324 _ _) (bg_sc _ _)) (fun I L O h => h.2) ⟨c2, bg_WT _ _⟩ (fun I L O _ => hQ I L O)
