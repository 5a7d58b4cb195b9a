/-! the relation of the two, and its frames -/
def TP (I : TI) (tp : Nat) : Prop := tp ≤ 300 ∧ I 278 4 = nI tp ∧ I 331 4 = nI tp ∧ ∀ k, k < tp → ∃ b, b < 256 ∧ I 279 k = nI b ∧ I 335 k = nI b
def FV (I : TI) : Prop := (I 1 10 = 0 ∧ I 331 5 = -1 ∧ I 331 6 = -1) ∨ (I 1 10 = 1 ∧ I 324 6 = I 331 5 ∧ I 324 7 = I 331 6)
def TXst (TX : TI → Nat → Prop) : Prop := ∀ (I I' : TI) (t : Nat), (∀ a, 300 ≤ a → a < 324 → I' a = I a) → I' 334 = I 334 → TX I t → TX I' t
def R0 (TX : TI → Nat → Prop) (I : TI) (O : TO) (N G : TN) (e f tp : Nat) : Prop := OF O ∧ MV I O N ∧ (∀ t, t < 4371 → I 333 t = nI (G t)) ∧ NB N ∧ NB G ∧ G 2 ≤ N 2 ∧ RW I 2 e N ∧ RW I 136 f G ∧ TP I tp ∧ FV I ∧ I 331 23 = 1 ∧ ∀ t, t < N 2 → TX I t
def RE (TX : TI → Nat → Prop) (I : TI) (O : TO) : Prop := ∃ N G e f tp, R0 TX I O N G e f tp
/-- the row and the Whole at 2 change -/
theorem R0_mut {TX : TI → Nat → Prop} {I I' : TI} {O : TO} {N N' G : TN} {e e' f tp : Nat} (hT : TXst TX) (h : R0 TX I O N G e f tp) (hI : ∀ a, (a < 2 ∨ 136 ≤ a) → a ≠ 332 → I' a = I a) (hA : RW I' 2 e' N') (hC : MV I' O N') (hB : NB N') (h2 : N' 2 = N 2) : R0 TX I' O N' G e' f tp := by
  obtain ⟨c1, c2, c3, c4, c5, c6, c7, c8, c9, c10, c11, c12⟩ := h
  have i333 := hI 333 (by omega) (by omega)
  have i278 := hI 278 (by omega) (by omega)
  have i279 := hI 279 (by omega) (by omega)
  have i331 := hI 331 (by omega) (by omega)
  have i335 := hI 335 (by omega) (by omega)
  have i324 := hI 324 (by omega) (by omega)
  have i1 := hI 1 (by omega) (by omega)
  refine ⟨c1, hC, fun t ht => by rw [i333]; exact c3 t ht, hB, c5, by rw [h2]; exact c6, hA, RW_fr c8 (fun a h1 h2 => hI a (by omega) (by omega)), ?_, ?_, by rw [i331]; exact c11, fun t ht => hT I I' t (fun a h1 h2 => hI a (by omega) (by omega)) (hI 334 (by omega) (by omega)) (c12 t (by rw [h2] at ht; exact ht))⟩
  · unfold TP at *; rw [i278, i279, i331, i335]; exact c9
  · unfold FV at *; rw [i1, i331, i324]; exact c10
def Eqc (I I' : TI) : Prop := (∀ a, a < 270 → I' a = I a) ∧ I' 279 = I 279 ∧ I' 278 4 = I 278 4 ∧ (∀ a, 300 ≤ a → a < 324 → I' a = I a) ∧ (I' 324 6 = I 324 6 ∧ I' 324 7 = I 324 7) ∧ (I' 331 4 = I 331 4 ∧ I' 331 5 = I 331 5 ∧ I' 331 6 = I 331 6 ∧ I' 331 23 = I 331 23) ∧ ∀ a, 332 ≤ a → a < 336 → I' a = I a
theorem Eqc_refl (I : TI) : Eqc I I := ⟨fun _ _ => rfl, rfl, rfl, fun _ _ _ => rfl, ⟨rfl, rfl⟩, ⟨rfl, rfl, rfl, rfl⟩, fun _ _ _ => rfl⟩
theorem Eqc_trans {I J H : TI} (h : Eqc I J) (k : Eqc J H) : Eqc I H :=
  ⟨fun a ha => (k.1 a ha).trans (h.1 a ha), k.2.1.trans h.2.1, k.2.2.1.trans h.2.2.1, fun a h1 h2 => (k.2.2.2.1 a h1 h2).trans (h.2.2.2.1 a h1 h2), ⟨k.2.2.2.2.1.1.trans h.2.2.2.2.1.1, k.2.2.2.2.1.2.trans h.2.2.2.2.1.2⟩, ⟨k.2.2.2.2.2.1.1.trans h.2.2.2.2.2.1.1, k.2.2.2.2.2.1.2.1.trans h.2.2.2.2.2.1.2.1, k.2.2.2.2.2.1.2.2.1.trans h.2.2.2.2.2.1.2.2.1, k.2.2.2.2.2.1.2.2.2.trans h.2.2.2.2.2.1.2.2.2⟩, fun a h1 h2 => (k.2.2.2.2.2.2 a h1 h2).trans (h.2.2.2.2.2.2 a h1 h2)⟩
theorem R0_sc {TX : TI → Nat → Prop} {I I' : TI} {O : TO} {N G : TN} {e f tp : Nat} (hT : TXst TX) (h : R0 TX I O N G e f tp) (hI : Eqc I I') : R0 TX I' O N G e f tp := by
  obtain ⟨c1, c2, c3, c4, c5, c6, c7, c8, c9, c10, c11, c12⟩ := h
  obtain ⟨j1, j2, j3, j4, ⟨j5, j6⟩, ⟨j7, j8, j9, j10⟩, j11⟩ := hI
  refine ⟨c1, MV_fr c2 (j11 332 (by omega) (by omega)), fun t ht => by rw [j11 333 (by omega) (by omega)]; exact c3 t ht, c4, c5, c6, RW_fr c7 (fun a h1 h2 => j1 a (by omega)), RW_fr c8 (fun a h1 h2 => j1 a (by omega)), ?_, ?_, by rw [j10]; exact c11, fun t ht => hT I I' t j4 (j11 334 (by omega) (by omega)) (c12 t ht)⟩
  · unfold TP at *; rw [j3, j2, j7, j11 335 (by omega) (by omega)]; exact c9
  · unfold FV at *; rw [j1 1 (by omega), j8, j9, j5, j6]; exact c10
/-- a point of the row and its place in the Whole at 2 -/
theorem R0_pt {TX : TI → Nat → Prop} {I I' : TI} {O : TO} {N G : TN} {e f tp t v : Nat} (hT : TXst TX) (h : R0 TX I O N G e f tp) (ht : dm t) (h4 : t ≠ 4) (h2 : t ≠ 2) (hB : NB (upN N t v)) (hI : ∀ a k, I' a k = sI (sI I (la 2 t) (lk t) (nI v)) 332 t (nI v) a k) : R0 TX I' O (upN N t v) G e f tp := by
  have e0 : I' = sI (sI I (la 2 t) (lk t) (nI v)) 332 t (nI v) := funext fun a => funext fun k => hI a k
  subst e0
  have hr := la_rng (wh := 2) ht
  have c2 := h.2.1
  have c4 := h.2.2.2.1
  have c7 := h.2.2.2.2.2.2.1
  refine R0_mut hT h (fun a h1 h3 => ?_) ?_ ?_ hB (upN_o N (Ne.symm h2))
  · rw [sI_o _ _ h3, sI_o _ _ (by omega)]
  · refine RW_fr (I := sI I (la 2 t) (lk t) (nI v)) ⟨RWn_up c7.1 ht, RWs_up c7.2 c4.2.2.2.2.1 ht h4⟩ (fun a h1 h3 => sI_o _ _ (by omega))
  · exact MV_up (MV_fr c2 (sI_o _ _ (by omega)))
theorem upN_c {N : TN} {t v j : Nat} (P : Nat → Prop) (h1 : j = t → P v) (h2 : P (N j)) : P (upN N t v j) := by
  unfold upN; split
  · exact h1 ‹_›
  · exact h2
def UpA (N : TN) (t v : Nat) : Prop := (t = 0 → v ≤ 5 ∧ ∀ r, r < v → 1 ≤ Ln N r) ∧ (t = 1 → v ≤ 4 ∧ N 1 ≤ v) ∧ (t = 2 → v ≤ 4 ∧ N 2 ≤ v) ∧ (t = 3 → v = 4294967295 ∨ v < N 2) ∧ t ≠ 4 ∧ (t = 5 → v ≤ 8) ∧ (t = 6 → v = 0 ∨ (v ≤ 8 ∧ ∀ k, k < v → N (207 + 3 * k) < N 1 ∧ 1 ≤ N (208 + 3 * k) ∧ N (208 + 3 * k) ≤ 5 ∧ N (209 + 3 * k) ≤ 99))
def UpB (N : TN) (t v : Nat) : Prop := (t = 7 → v ≤ 9999) ∧ (t = 8 → v < 30697) ∧ (t = 9 → v ≤ 30) ∧ (10 ≤ t → t < 90 → v ≤ 9) ∧ (90 ≤ t → t < 114 → v ≤ 99 ∧ (t % 6 = 0 → v = 0)) ∧ (114 ≤ t → t < 119 → 1 ≤ v ∧ v ≤ 16) ∧ (119 ≤ t → t < 199 → v ≤ 5) ∧ (199 ≤ t → t < 207 → v ≤ 5) ∧ (207 ≤ t → t < 231 → 207 + 3 * N 6 ≤ t) ∧ ¬ (231 ≤ t ∧ t < 4341) ∧ (4341 ≤ t → t < 4371 → v < 3400000)
theorem NB_up {N : TN} {t v : Nat} (h : NB N) (hA : UpA N t v) (hB : UpB N t v) : NB (upN N t v) := by
  obtain ⟨b0, b1, b2, b3, b4, b5, b6, b7, b8, b9, b10, b11, b12, b13⟩ := h
  have t4 : t ≠ 4 := hA.2.2.2.2.1
  have e1 : N 1 ≤ upN N t v 1 := upN_c (fun x => N 1 ≤ x) (fun q => (hA.2.1 q.symm).2) (Nat.le_refl _)
  have e2 : N 2 ≤ upN N t v 2 := upN_c (fun x => N 2 ≤ x) (fun q => (hA.2.2.1 q.symm).2) (Nat.le_refl _)
  have tst : ¬ (231 ≤ t ∧ t < 4341) := hB.2.2.2.2.2.2.2.2.2.1
  unfold NB
  refine ⟨?_, ?_, ?_, ?_, ?_, ?_, ?_, fun r hr => ?_, fun r hr => ?_, fun k hk' => ?_, fun k hk' => ?_, fun k hk' => ?_, ?_, fun k hk' => ?_⟩
  · exact upN_c (fun x => x ≤ 5) (fun q => (hA.1 q.symm).1) b0
  · exact upN_c (fun x => x ≤ 4) (fun q => (hA.2.1 q.symm).1) b1
  · exact upN_c (fun x => x ≤ 4) (fun q => (hA.2.2.1 q.symm).1) b2
  · refine upN_c (fun x => x = 4294967295 ∨ x < upN N t v 2) (fun q => ?_) ?_
    · rcases hA.2.2.2.1 q.symm with q | q
      · exact Or.inl q
      · exact Or.inr (Nat.lt_of_lt_of_le q e2)
    · rcases b3 with q | q
      · exact Or.inl q
      · exact Or.inr (Nat.lt_of_lt_of_le q e2)
  · rw [upN_o N (Ne.symm t4)]; exact b4
  · exact upN_c (fun x => x ≤ 8) (fun q => hA.2.2.2.2.2.1 q.symm) b5
  · refine upN_c (fun x => x ≤ 8) (fun q => ?_) b6
    rcases hA.2.2.2.2.2.2 q.symm with q | q
    · rw [q]; exact Nat.zero_le _
    · exact q.1
  · exact upN_c (fun x => x ≤ 16) (fun q => (hB.2.2.2.2.2.1 (by omega) (by omega)).2) (b7 r hr)
  · by_cases q : 0 = t
    · rw [← q, upN_s] at hr
      have q2 := (hA.1 q.symm).2 r hr
      unfold Ln at *; rw [upN_o N (by omega)]; exact q2
    · rw [upN_o N q] at hr
      exact upN_c (fun x => 1 ≤ x) (fun q => (hB.2.2.2.2.2.1 (by omega) (by omega)).1) (b8 r hr)
  · exact upN_c (fun x => x ≤ 5) (fun q => hB.2.2.2.2.2.2.1 (by omega) (by omega)) (b9 k hk')
  · exact upN_c (fun x => x ≤ 5) (fun q => hB.2.2.2.2.2.2.2.1 (by omega) (by omega)) (b10 k hk')
  · by_cases q : 6 = t
    · have q' := hA.2.2.2.2.2.2 q.symm
      rw [← q, upN_s] at hk'
      have q2 := (q'.resolve_left (by omega)).2 k hk'
      rw [upN_o N (j := 207 + 3 * k) (by omega), upN_o N (j := 208 + 3 * k) (by omega), upN_o N (j := 209 + 3 * k) (by omega)]
      exact ⟨Nat.lt_of_lt_of_le q2.1 e1, q2.2⟩
    · rw [upN_o N q] at hk'
      have q2 := b11 k hk'
      have q3 : 207 ≤ t → t < 231 → 207 + 3 * N 6 ≤ t := hB.2.2.2.2.2.2.2.2.1
      rw [upN_o N (j := 207 + 3 * k) (by omega), upN_o N (j := 208 + 3 * k) (by omega), upN_o N (j := 209 + 3 * k) (by omega)]
      exact ⟨Nat.lt_of_lt_of_le q2.1 e1, q2.2⟩
  · obtain ⟨s0, s1, s2, s3, s4, s5, s6⟩ := b12
    refine ⟨?_, ?_, ?_, fun k hk' => ?_, fun k hk' => ?_, fun c hc => ?_, fun k hk' => ?_⟩
    · exact upN_c (fun x => x ≤ 9999) (fun q => hB.1 q.symm) s0
    · exact upN_c (fun x => x < 30697) (fun q => hB.2.1 q.symm) s1
    · exact upN_c (fun x => x ≤ 30) (fun q => hB.2.2.1 q.symm) s2
    · have e1 : ts (3 + k) = 10 + k := by unfold ts; rw [if_pos (by omega)]; omega
      exact upN_c (fun x => x ≤ 9) (fun q => hB.2.2.2.1 (by omega) (by omega)) (s3 k hk')
    · have e1 : ts (83 + k) = 90 + k := by unfold ts; rw [if_pos (by omega)]; omega
      exact upN_c (fun x => x ≤ 99) (fun q => (hB.2.2.2.2.1 (by omega) (by omega)).1) (s4 k hk')
    · have e1 : ts (83 + 6 * c) = 90 + 6 * c := by unfold ts; rw [if_pos (by omega)]; omega
      exact upN_c (fun x => x = 0) (fun q => (hB.2.2.2.2.1 (by omega) (by omega)).2 (by omega)) (s5 c hc)
    · have e1 : ts (107 + k) = 4341 + k := by unfold ts; rw [if_neg (by omega)]; omega
      exact upN_c (fun x => x < 3400000) (fun q => hB.2.2.2.2.2.2.2.2.2.2 (by omega) (by omega)) (s6 k hk')
  · rw [upN_o N (Ne.symm t4)] at hk'
    obtain ⟨s0, s1, s2, s3, s4, s5, s6⟩ := b13 k hk'
    refine ⟨?_, ?_, ?_, fun j hj => ?_, fun j hj => ?_, fun c hc => ?_, fun j hj => ?_⟩
    · show upN N t v _ ≤ _; rw [upN_o N (by omega)]; exact s0
    · show upN N t v _ < _; rw [upN_o N (by omega)]; exact s1
    · show upN N t v _ ≤ _; rw [upN_o N (by omega)]; exact s2
    · show upN N t v _ ≤ _; rw [upN_o N (by omega)]; exact s3 j hj
    · show upN N t v _ ≤ _; rw [upN_o N (by omega)]; exact s4 j hj
    · show upN N t v _ = _; rw [upN_o N (by omega)]; exact s5 c hc
    · show upN N t v _ < _; rw [upN_o N (by omega)]; exact s6 j hj
