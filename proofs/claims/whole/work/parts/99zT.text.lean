/-! a text, read by both -/
def RdF (n : Nat) (O : TO) (B : TN) (z T T0 : Nat) (i nc : Nat) (so : TN) (pa : Nat → TN) (lw : Lws) (f j : Nat) : Prop := ∀ Jb J L cd m, RS B z T T0 Jb J L i nc cd so pa lw → T - i < m → ∃ J' L', f12_readText_c43 n O m J L 331 = some (nI f, J', L') ∧ J' 331 8 = nI (stT B z j) ∧ RF T0 Jb J'
def RdO (n : Nat) (O : TO) (B : TN) (z T T0 : Nat) (i nc : Nat) (so : TN) (pa : Nat → TN) (lw : Lws) (i' nc' : Nat) (so' : TN) (pa' : Nat → TN) (lw' : Lws) : Prop := ∀ Jb J L cd m, RS B z T T0 Jb J L i nc cd so pa lw → T - i < m → ∃ J' L' cd', f12_readText_c43 n O m J L 331 = some (0, J', L') ∧ RS B z T T0 Jb J' L' i' nc' cd' so' pa' lw'
section TX
variable {n : Nat} {O : TO} {B : TN} {z T T0 sc : Nat} {Ib : TI}
theorem x_loop (hx : Cl0 n O B z T T0 sc Ib) : ∀ e i nc q st so pa lw I m, T - i = e → e < m → KC B z T sc Ib I i nc q st so pa lw → (∃ I' i' nc' q' st' so' pa' lw', f5_read_c29 n m I O 324 (nI nc) = some (1, I', O) ∧ KC B z T sc Ib I' i' nc' q' st' so' pa' lw' ∧ RdO n O B z T T0 i nc so pa lw i' nc' so' pa' lw') ∨ (∃ I' f j, f5_read_c29 n m I O 324 (nI nc) = some (0, I', O) ∧ CFr sc Ib I' ∧ (1 ≤ f ∧ f ≤ 7) ∧ j ≤ T ∧ I' 324 6 = nI f ∧ I' 324 7 = nI (stT B z j) ∧ RdF n O B z T T0 i nc so pa lw f j) := by
  obtain ⟨s1, s2⟩ := cl_sc hx
  have hxx := hx
  obtain ⟨hn, hO, hs1, hsc, hT0, hT, hT3, hz, hB, -⟩ := hxx
  intro e
  induction e using Nat.strongRecOn with
  | _ e ih =>
    intro i nc q st so pa lw I m he hm hK
    obtain ⟨m, rfl⟩ : ∃ m', m = m' + 1 := ⟨m - 1, by omega⟩
    have kl := kd_lt B z i hB
    have k3 : I 324 3 = nI (kdT B z i) := hK.2.1.2.2.2.1
    have n24 := hK.2.2.2.2.1
    have iT := hK.2.1.2.1
    have nn : ¬ (24 : Int32) < nI nc := fun g => by have := (nI_ltI (a := 24) (by omega) (by omega)).mp g; omega
    by_cases k27 : kdT B z i = 27
    · left
      refine ⟨I, i, nc, q, st, so, pa, lw, ?_, hK, fun Jb J L cd m' hR hm' => ⟨J, L, cd, ?_, hR⟩⟩
      · rw [f5_read_c29, if_neg nn, k3, if_pos (show nI (kdT B z i) = 27 by rw [k27]; rfl)]
      · obtain ⟨m', rfl⟩ : ∃ m'', m' = m'' + 1 := ⟨m' - 1, by omega⟩
        rw [f12_readText_c43, if_pos ((tk_0 hR.1).mpr k27)]
    · have iT2 := kd_T hT3 iT k27
      have pre : f5_read_c29 n (m + 1) I O 324 (nI nc) = (f5_readClause n I O 324).bind fun r3 => (if r3.1 = 0 then some ((0 : Int32), r3.2, O) else (f5_expect r3.2 O 324 (59 : Int32)).bind fun r6 => (if r6.1 = 0 then some ((0 : Int32), r6.2, O) else f5_read_c29 n m r6.2 O 324 (nI (nc + 1)))) := by
        rw [f5_read_c29, if_neg nn, k3, if_neg (show ¬ nI (kdT B z i) = 27 from nI_nk (c := 27) kl (by omega) k27), nI_1]
      rw [pre]
      -- the reference's loop takes a clause
      have rst : ∀ {Jb J : TI} {L : TL} {cd : List (Nat × Nat)} (m' : Nat), RS B z T T0 Jb J L i nc cd so pa lw → f12_readText_c43 n O (m' + 1) J L 331 = (f12_clause n J L O 331).bind fun r2 => (if r2.1 = 0 then f12_readText_c43 n O m' r2.2.1 r2.2.2 331 else some (r2.1, r2.2.1, r2.2.2)) := fun m' hR => by
        rw [f12_readText_c43, if_neg (fun g => k27 ((tk_0 hR.1).mp g))]
      have flt : ∀ f j, (1 ≤ f ∧ f ≤ 7) → BdF n O B z T T0 i nc so pa lw f j → RdF n O B z T T0 i nc so pa lw f j := fun f j hf hb Jb J L cd m' hR hm' => by
        obtain ⟨m', rfl⟩ : ∃ m'', m' = m'' + 1 := ⟨m' - 1, by omega⟩
        obtain ⟨J', L', c1, c2, c3⟩ := hb Jb J L cd hR
        refine ⟨J', L', ?_, c2, c3⟩
        rw [rst m' hR, c1, qb]
        show (if nI f = 0 then _ else _) = _
        rw [if_neg (nI_ne0 (by omega) (by omega))]
      rcases x_rc hx hK with ⟨c24, I3, j, q', st', so', pa', lw', a1, a2, a3, a4⟩ | ⟨I', f, j, a1, a2, a3, a4, a5, a6, a7⟩
      · rw [a1, qb, if_neg (show ¬ (1 : Int32) = 0 by decide)]
        have jT := a2.2.1.2.1
        rcases y_exp (cl_kx hx a2.1) hB a2.2.1 (w := 59) (by omega) (by omega) with ⟨e1, I4, e2, e3⟩ | ⟨e1, I4, e2, e3⟩
        · have e2' : f5_expect (1, I3).2 O 324 59 = some (1, I4) := e2
          rw [e2', qb, if_neg (show ¬ (1 : Int32) = 0 by decide)]
          have jT2 := e3.2.1
          have kc4 := kc_step s1 a2 e3 (Nat.le_refl _) (by have := a2.2.2.1; omega) (fun _ _ => rfl)
          have one : ∀ Jb J L cd, RS B z T T0 Jb J L i nc cd so pa lw → ∃ J' L' cd', f12_clause n J L O 331 = some (0, J', L') ∧ RS B z T T0 Jb J' L' (j + 1) (nc + 1) cd' so' pa' lw' := fun Jb J L cd hR => by
            obtain ⟨J2, L2, cd2, σ, b1, b2, b3, b4, b5, b6, b7⟩ := a4 Jb J L cd hR
            obtain ⟨J4, L4, g1, g2⟩ := (m_fin hn hO hT0 hT3 c24 b2).1 e1 so' pa' lw' b3 b4 b5 b6 b7 rfl
            exact ⟨J4, L4, cd2, by rw [b1]; exact g1, g2⟩
          rcases ih (T - (j + 1)) (by omega) (j + 1) (nc + 1) q' st' so' pa' lw' I4 m rfl (by omega) kc4 with ⟨I5, i5, nc5, q5, st5, so5, pa5, lw5, d1, d2, d3⟩ | ⟨I5, f, j5, d1, d2, d3, d4, d5, d6, d7⟩
          · left
            refine ⟨I5, i5, nc5, q5, st5, so5, pa5, lw5, d1, d2, fun Jb J L cd m' hR hm' => ?_⟩
            obtain ⟨m', rfl⟩ : ∃ m'', m' = m'' + 1 := ⟨m' - 1, by omega⟩
            obtain ⟨J', L', cd', c1, c2⟩ := one Jb J L cd hR
            obtain ⟨J6, L6, cd6, c3, c4⟩ := d3 Jb J' L' cd' m' c2 (by omega)
            refine ⟨J6, L6, cd6, ?_, c4⟩
            rw [rst m' hR, c1, qb, if_pos rfl]; exact c3
          · right
            refine ⟨I5, f, j5, d1, d2, d3, d4, d5, d6, fun Jb J L cd m' hR hm' => ?_⟩
            obtain ⟨m', rfl⟩ : ∃ m'', m' = m'' + 1 := ⟨m' - 1, by omega⟩
            obtain ⟨J', L', cd', c1, c2⟩ := one Jb J L cd hR
            obtain ⟨J6, L6, c3, c4, c5⟩ := d7 Jb J' L' cd' m' c2 (by omega)
            refine ⟨J6, L6, ?_, c4, c5⟩
            rw [rst m' hR, c1, qb, if_pos rfl]; exact c3
        · right
          have e2' : f5_expect (1, I3).2 O 324 59 = some (0, I4) := e2
          obtain ⟨u1, u2, u3, u4, u5⟩ := e3
          refine ⟨I4, 1, j, by rw [e2', qb, if_pos rfl], CF_k s1 a2.1 u1, u2, u3, u4, u5, flt 1 j ⟨by omega, by omega⟩ (fun Jb J L cd hR => ?_)⟩
          obtain ⟨J2, L2, cd2, σ, b1, b2, b3, b4, b5, b6, b7⟩ := a4 Jb J L cd hR
          obtain ⟨J4, g1, g2, g3⟩ := (m_fin hn hO hT0 hT3 c24 b2).2 e1
          exact ⟨J4, L2, by rw [b1]; exact g1, g2, g3⟩
      · right
        exact ⟨I', f, j, by rw [a1, qb, if_pos rfl], a2, a3, a4, a5, a6, flt f j a3 a7⟩
end TX
/-- the texts that were read before stay -/
theorem tX_fr {I I' : TI} {t : Nat} (hI : ∀ a, 300 + 6 * t ≤ a → a < 300 + 6 * t + 6 → I' a = I a) (h4 : ∀ x, 1065 * t ≤ x → x < 1065 * t + 1065 → I' 334 x = I 334 x) (h : tX I t) : tX I' t := by
  obtain ⟨ht, nc, z, so, a1, a2, a3, a4, a5, a6, lw, a7, a8⟩ := h
  have f0 := hI (300 + 6 * t) (by omega) (by omega)
  have f1 := hI (300 + 6 * t + 1) (by omega) (by omega)
  have f2 := hI (300 + 6 * t + 2) (by omega) (by omega)
  have f3 := hI (300 + 6 * t + 3) (by omega) (by omega)
  have f4 := hI (300 + 6 * t + 4) (by omega) (by omega)
  have f5 := hI (300 + 6 * t + 5) (by omega) (by omega)
  refine ⟨ht, nc, z, so, a1, a2, by rw [f0]; exact a3, by rw [f0]; exact a4, by rw [h4 _ (by omega) (by omega)]; exact a5, fun k hk => ?_, lw, ?_, fun s hs => ?_⟩
  · obtain ⟨b1, b2, b3, b4, b5, b6⟩ := a6 k hk
    refine ⟨b1, by rw [h4 _ (by omega) (by omega)]; exact b2, by rw [f2]; exact b3, fun g => ?_, fun g1 g2 => ?_, fun g => ?_⟩
    · obtain ⟨f, c, c1, c2, c3, c4, c5, c6, c7⟩ := b4 g
      refine ⟨f, c, c1, c2, c3, by rw [f3]; exact c4, by rw [f4]; exact c5, by rw [h4 _ (by omega) (by omega)]; exact c6, fun i hi => ?_⟩
      obtain ⟨q, d1, d2, d3⟩ := c7 i hi
      exact ⟨q, d1, by rw [f1]; exact d2, by rw [h4 _ (by omega) (by omega)]; exact d3⟩
    · obtain ⟨a, b, c1, c2, c3, c4, c5, c6⟩ := b5 g1 g2
      exact ⟨a, b, c1, c2, by rw [f3]; exact c3, by rw [f4]; exact c4, by rw [h4 _ (by omega) (by omega)]; exact c5, by rw [h4 _ (by omega) (by omega)]; exact c6⟩
    · obtain ⟨a, c1, c2, c3, c4⟩ := b6 g
      exact ⟨a, c1, c2, by rw [f3]; exact c3, by rw [h4 _ (by omega) (by omega)]; exact c4⟩
  · unfold LX XLaw at *
    rw [f0, f1, f3, f4, f5]; exact a7
  · rcases a8 s hs with ⟨l1, nc', l2, l3, l4⟩ | ⟨v, l0, k, nc', c0, c1, cd, l1, l2, l3, l4, l5, l6, l7, l8, l9, l10, l11⟩
    · refine Or.inl ⟨l1, nc', by rw [h4 _ (by omega) (by omega)]; exact l2, l3, fun j hj => ?_⟩
      obtain ⟨s', g1, g2, g3⟩ := l4 j hj
      exact ⟨s', g1, g2, by rw [h4 _ (by omega) (by omega)]; exact g3⟩
    · refine Or.inr ⟨v, l0, k, nc', c0, c1, cd, by rw [h4 _ (by omega) (by omega)]; exact l1, l2, l3, by rw [h4 _ (by omega) (by omega)]; exact l4, fun j hj => ?_, by rw [h4 _ (by omega) (by omega)]; exact l6, by rw [h4 _ (by omega) (by omega)]; exact l7, l8, l9, fun i hi => ?_, l11⟩
      · obtain ⟨s', g1, g2, g3⟩ := l5 j hj
        exact ⟨s', g1, g2, by rw [h4 _ (by omega) (by omega)]; exact g3⟩
      · obtain ⟨g1, g2, g3⟩ := l10 i hi
        exact ⟨by rw [h4 _ (by omega) (by omega)]; exact g1, by rw [h4 _ (by omega) (by omega)]; exact g2, g3⟩
theorem cdl_app (cd : List (Nat × Nat)) : ∀ (C X Y : List (Nat × Nat)), cd = X ++ C ++ Y → cdl (fun i => cd.getD i (0, 0)) C.length X.length = C := by
  intro C
  induction C with
  | nil => intro X Y _; rfl
  | cons c C ih =>
    intro X Y h
    have e : cd.getD X.length (0, 0) = c := by
      rw [h, List.append_assoc, List.getD_eq_getElem?_getD, List.getElem?_append_right (Nat.le_refl _), Nat.sub_self]; rfl
    have := ih (X ++ [c]) Y (by rw [h, List.append_assoc X [c]]; rfl)
    rw [List.length_append] at this
    show cd.getD X.length (0, 0) :: cdl (fun i => cd.getD i (0, 0)) C.length (X.length + 1) = c :: C
    rw [e]
    exact congrArg (List.cons c) this
/-- the new text, as both hold it -/
theorem tX_new {B : TN} {z T t : Nat} {Ib I' I2 Jb J : TI} {L : TL} {i nc q : Nat} {st so : TN} {pa : Nat → TN} {lw : Lws} {cd : List (Nat × Nat)} (ht : t < 4) (hT : T ≤ 300) (hK : KC B z T (300 + 6 * t) Ib I' i nc q st so pa lw) (hR : RS B z T (1065 * t) Jb J L i nc cd so pa lw) (e1 : ∀ a, 300 + 6 * t ≤ a → a < 300 + 6 * t + 6 → I2 a = I' a) (e2 : I2 334 = J 334) : tX I2 t := by
  obtain ⟨-, k1, ⟨k2, -⟩, k3, k4, k5, k6⟩ := hK
  obtain ⟨-, r1, r2, ⟨r3, r4, r5, r6, r7, r8, r9⟩, -⟩ := hR
  have f0 := e1 (300 + 6 * t) (by omega) (by omega)
  have f1 := e1 (300 + 6 * t + 1) (by omega) (by omega)
  have f2 := e1 (300 + 6 * t + 2) (by omega) (by omega)
  have f3 := e1 (300 + 6 * t + 3) (by omega) (by omega)
  have f4 := e1 (300 + 6 * t + 4) (by omega) (by omega)
  have f5 := e1 (300 + 6 * t + 5) (by omega) (by omega)
  have s5 : I2 (300 + 6 * t) 5 = nI q := by rw [f0]; exact k1.2.2.2.2.2.1
  have sst : ∀ k, k < q → I2 (300 + 6 * t + 1) k = nI (st k) ∧ st k < 2147483648 := fun k hk => by rw [f1]; exact k1.2.2.2.2.2.2.2 k hk
  refine ⟨ht, nc, q, so, k4, by omega, by rw [f0]; exact k3, s5, by rw [e2]; exact r6, fun k hk => ?_, lw, fun s hs => ?_, fun s hs => ?_⟩
  · obtain ⟨a1, a2, a3, a4, a5⟩ := k5 k hk
    obtain ⟨b1, b2, b3, b4, b5⟩ := r8 k hk
    refine ⟨a1, by rw [e2]; exact b2, by rw [f2]; exact a2, fun g => ?_, fun g1 g2 => ?_, fun g => ?_⟩
    · obtain ⟨c1, f, c2, c3, c4, c5⟩ := a3 g
      obtain ⟨d1, d2, d3⟩ := b3 g
      refine ⟨f, pa k 0, c1.1, c1.2, c2, by rw [f3]; exact c3, by rw [f4]; exact c4, by rw [e2]; exact d2, fun a ha => ?_⟩
      obtain ⟨g1, g2⟩ := c5 a ha
      exact ⟨pa k (1 + a), g1, by rw [(sst (f + a) (by omega)).1, g2], by rw [e2]; exact d3 a ha⟩
    · obtain ⟨c1, c2, c3, c4⟩ := a4 g1 g2
      obtain ⟨d1, d2⟩ := b4 g1 g2
      exact ⟨pa k 0, pa k 1, c1, c2, by rw [f3]; exact c3, by rw [f4]; exact c4, by rw [e2]; exact d1, by rw [e2]; exact d2⟩
    · obtain ⟨c1, c2, c3⟩ := a5 g
      exact ⟨pa k 0, c1, c2, by rw [f3]; exact c3, by rw [e2]; exact b5 g⟩
  · rcases k6 s hs with ⟨a1, a2⟩ | ⟨v, k, z0, z1, a1, a2, a3, a4, a5, a6, a7, a8⟩
    · exact Or.inl ⟨a1, by rw [f5]; exact a2⟩
    · exact Or.inr ⟨v, a1, k, nc, z0, z1, q, st, by rw [f5]; exact a3, by rw [f0]; exact k3, a2, k4, by rw [f3]; exact a4, by rw [f4]; exact a5, s5, a6, a7, by omega, fun x hx => sst x (by omega), a8⟩
  · rcases r9 s hs with ⟨a1, a2⟩ | ⟨v, k, X, C, Y, a1, a2, a3, a4, a5, a6, a7, a8⟩
    · exact Or.inl ⟨a1, nc, by rw [e2]; exact r6, k4, fun j hj => ⟨so j, (r8 j hj).1, a2 j hj, by rw [e2]; exact (r8 j hj).2.1⟩⟩
    · have hl : cd.length = X.length + C.length + Y.length := by rw [a5, List.length_append, List.length_append]
      refine Or.inr ⟨v, a1, k, nc, X.length, X.length + C.length, fun i => cd.getD i (0, 0), by rw [e2]; exact r6, k4, a2, by rw [e2, ← a3]; exact (r8 k a2).2.1, fun j hj => ⟨so j, (r8 j (by omega)).1, a4 j hj, by rw [e2]; exact (r8 j (by omega)).2.1⟩, by rw [e2]; exact a6, by rw [e2]; exact a7, by omega, by omega, fun x hx => ?_, ?_⟩
      · have hm : cd.getD x (0, 0) ∈ cd := by
          rw [List.getD_eq_getElem?_getD, List.getElem?_eq_getElem (show x < cd.length by omega)]
          exact List.getElem_mem _
        obtain ⟨g1, g2, g3⟩ := r4 _ hm
        obtain ⟨g4, g5⟩ := r3.2 x (by omega)
        rw [e2]
        exact ⟨g4, g5, g1, g2, g3⟩
      · rw [show X.length + C.length - X.length = C.length by omega, cdl_app cd C X Y a5]
        exact a8
