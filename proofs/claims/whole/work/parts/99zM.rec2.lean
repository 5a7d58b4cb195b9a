/-! the class reads a law: one, what is asked, the choice -/
theorem bd_eta2 {α β : Type} (x : Option (α × β)) : (x.bind fun r => some (r.1, r.2)) = x := by
  cases x with
  | none => rfl
  | some r => rfl
theorem cmp_ok : ∀ k, k < 600 → f5_compares (nI k) = some (if k = 60 ∨ k = 316 ∨ k = 62 ∨ k = 318 ∨ k = 61 ∨ k = 35 then 1 else 0) := by decide +kernel
theorem nI_nk {k c : Nat} (hk : k < 600) (hc : c < 600) (h : k ≠ c) : ¬ nI k = nI c := fun g => h (by rw [nI_eq (by omega) (by omega)] at g; exact g)
section RO
variable {n : Nat} {O : TO} {B : TN} {z T T0 sc s : Nat} {I0 : TI}
theorem x_unary (hx : Kx n O B z T sc s I0) (hB : ∀ p, p < z → B p < 256) {fu o i q : Nat} {st : TN} {I : TI} (h2 : PX2 n O B z T T0 sc s I0 fu) (ho : o ≤ 8) (hf : 7 * (8 - o) + 1 ≤ fu + 1) (hK : KS B z T sc I0 I i q st) (hqi : q ≤ i) (hk : kdT B z i = 45 ∨ kdT B z i = 14 ∨ kdT B z i = 15) : ResV B z T sc s I0 i q st (Ok1 n O B z T T0 s o i) (Fl1 n O B z T T0 s o i) (D1 o) ((f5_enter I O 324 (nI o)).bind fun r2 => (if r2.1 = 0 then some ((0 : Int32), r2.2) else (f5_rec n O fu 2 r2.2 324 (nI o + 1)).bind fun r5 => (if r5.1 = 0 then some ((0 : Int32), r5.2) else (if nI (kdT B z i) = (45 : Int32) then (f7_add r5.2 O (rO O 324 1) (29 : Int32)).bind fun r12 => some ((1 : Int32), r12.2) else (f7_add r5.2 O (rO O 324 1) (nI (kdT B z i))).bind fun r10 => some ((1 : Int32), r10.2))))) := by
  have hT := hx.2.2.2.2.2.1
  rcases x_ent hx hK (by omega) ho with ⟨e1, I1, e2, e3⟩ | ⟨e1, I1, e2, e3⟩
  · rw [e2, qb, if_neg (show ¬ (1 : Int32) = 0 by decide), nI_1]
    rcases h2 (o + 1) (i + 1) q st I1 (by omega) (by omega) e3 (by omega) with ⟨I2, j2, q2, st2, w, r1, r2, r3, r4, r5, r6, r7, r8⟩ | ⟨I2, f, j2, r1, r2, r3⟩
    · have r1' : f5_rec n O fu 2 (1, I1).2 324 (nI (o + 1)) = some (1, I2) := r1
      rw [r1', qb, if_neg (show ¬ (1 : Int32) = 0 by decide)]
      have j2T := r2.2.1
      obtain ⟨I3, a1, a2⟩ := x_add hx r2 (by omega) (by omega) (w := if kdT B z i = 45 then 29 else kdT B z i) (by split <;> omega)
      have d1 : D1 (o + 1) ≤ D1 o := by unfold D1; omega
      refine Or.inl ⟨I3, j2, q2 + 1, upN st2 q2 (if kdT B z i = 45 then 29 else kdT B z i), fun e => xS1 e (if kdT B z i = 45 then 29 else kdT B z i) (w e), ?_, a2, by omega, by omega, by omega, fun k hk => by rw [upN_o _ (by omega)]; exact r6 k hk, vx_un (by split <;> omega) r7 d1 (by unfold D1; omega), Ok_un hk e1 r8⟩
      by_cases y : kdT B z i = 45
      · rw [if_pos y] at a1
        rw [if_pos (show nI (kdT B z i) = 45 by rw [y]; rfl)]
        show (f7_add I2 O (rO O 324 1) 29).bind _ = _
        rw [show f7_add I2 O (rO O 324 1) 29 = _ from a1, qb]
      · rw [if_neg y] at a1
        rw [if_neg (show ¬ nI (kdT B z i) = 45 from nI_nk (c := 45) (by omega) (by omega) y)]
        show (f7_add I2 O (rO O 324 1) (nI (kdT B z i))).bind _ = _
        rw [a1, qb]
    · have r1' : f5_rec n O fu 2 (1, I1).2 324 (nI (o + 1)) = some (0, I2) := r1
      rw [r1', qb, if_pos rfl]
      exact Res_f rfl r2 (Fl_un hk e1 r3)
  · rw [e2, qb, if_pos rfl]
    subst e1
    exact Res_f rfl e3 (Fl_deep (by omega))
theorem x_one (hx : Kx n O B z T sc s I0) (hB : ∀ p, p < z → B p < 256) {fu : Nat} (h0 : PX0 n O B z T T0 sc s I0 fu) (h2 : PX2 n O B z T T0 sc s I0 fu) (h3 : PX3 n O B z T T0 sc s I0 fu) : PX2 n O B z T T0 sc s I0 (fu + 1) := by
  intro o i q st I ho hf hK hqi
  have hT := hx.2.2.2.2.2.1
  have kl := kd_lt B z i hB
  have k3 : I 324 3 = nI (kdT B z i) := hK.2.2.2.1
  show ResV B z T sc s I0 i q st (Ok1 n O B z T T0 s o i) (Fl1 n O B z T T0 s o i) (D1 o) (f5_readOne_b n I O (f5_rec n O fu) 324 (nI o))
  have dd : 1 ≤ D1 o := by unfold D1; omega
  rw [f5_readOne_b, k3]
  by_cases kn : 7 ≤ kdT B z i ∧ kdT B z i ≤ 13
  · rw [if_neg (show ¬ nI (kdT B z i) < 7 from fun g => by have := (nI_ltI (b := 7) (by omega) (by omega)).mp g; omega), if_neg (show ¬ (13 : Int32) < nI (kdT B z i) from fun g => by have := (nI_ltI (a := 13) (by omega) (by omega)).mp g; omega), bd_eta2]
    exact x_name hx hK hqi kn dd (fun y => Ok_name kn y) (fun y => Fl_name kn y)
  · have pre : (if nI (kdT B z i) < (7 : Int32) then f5_readOne_c23 n O (f5_rec n O fu) I 324 (nI o) (nI (kdT B z i)) else (if (13 : Int32) < nI (kdT B z i) then f5_readOne_c23 n O (f5_rec n O fu) I 324 (nI o) (nI (kdT B z i)) else (f5_readName I O 324 (nI (kdT B z i))).bind fun r3 => some (r3.1, r3.2))) = f5_readOne_c23 n O (f5_rec n O fu) I 324 (nI o) (nI (kdT B z i)) := by
      by_cases y : kdT B z i < 7
      · rw [if_pos (show nI (kdT B z i) < 7 from (nI_ltI (b := 7) (by omega) (by omega)).mpr y)]
      · rw [if_neg (show ¬ nI (kdT B z i) < 7 from fun g => y ((nI_ltI (b := 7) (by omega) (by omega)).mp g)), if_pos (show (13 : Int32) < nI (kdT B z i) from (nI_ltI (a := 13) (by omega) (by omega)).mpr (by omega))]
    rw [pre, f5_readOne_c23]
    by_cases k14 : kdT B z i = 14
    · rw [if_pos (show nI (kdT B z i) = 14 by rw [k14]; rfl)]
      exact x_unary hx hB h2 ho hf hK hqi (by omega)
    rw [if_neg (show ¬ nI (kdT B z i) = 14 from nI_nk (c := 14) kl (by omega) k14)]
    by_cases k15 : kdT B z i = 15
    · rw [if_pos (show nI (kdT B z i) = 15 by rw [k15]; rfl)]
      exact x_unary hx hB h2 ho hf hK hqi (by omega)
    rw [if_neg (show ¬ nI (kdT B z i) = 15 from nI_nk (c := 15) kl (by omega) k15)]
    by_cases k16 : kdT B z i = 16
    · rw [if_pos (show nI (kdT B z i) = 16 by rw [k16]; rfl)]
      rcases x_ent hx hK (by omega) ho with ⟨e1, I1, e2, e3⟩ | ⟨e1, I1, e2, e3⟩
      · rw [e2, qb, if_neg (show ¬ (1 : Int32) = 0 by decide), nI_1]
        rcases h3 (o + 1) (i + 1) q st I1 (by omega) (by omega) e3 (by omega) with ⟨I2, j2, q2, st2, w, r1, r2, r3, r4, r5, r6, r7, r8⟩ | ⟨I2, f, j2, r1, r2, r3⟩
        · have r1' : f5_rec n O fu 3 (1, I1).2 324 (nI (o + 1)) = some (1, I2) := r1
          rw [r1', qb, if_neg (show ¬ (1 : Int32) = 0 by decide)]
          exact Or.inl ⟨I2, j2, q2, st2, w, rfl, r2, by omega, r4, by omega, r6, VX_mono r7 (by show D1 (o + 1) + 5 ≤ D1 o; unfold D1; omega), Ok_if k16 e1 r8⟩
        · have r1' : f5_rec n O fu 3 (1, I1).2 324 (nI (o + 1)) = some (0, I2) := r1
          rw [r1', qb, if_pos rfl]
          exact Res_f rfl r2 (Fl_if k16 e1 r3)
      · rw [e2, qb, if_pos rfl]
        subst e1
        exact Res_f rfl e3 (Fl_deep (by omega))
    rw [if_neg (show ¬ nI (kdT B z i) = 16 from nI_nk (c := 16) kl (by omega) k16)]
    by_cases k28 : kdT B z i = 28
    · rw [if_pos (show nI (kdT B z i) = 28 by rw [k28]; rfl), bd_eta2]
      exact x_num hx hK hqi k28 dd (fun y => Ok_num k28 y) (fun y => Fl_big k28 y)
    rw [if_neg (show ¬ nI (kdT B z i) = 28 from nI_nk (c := 28) kl (by omega) k28)]
    by_cases k40 : kdT B z i = 40
    · rw [if_pos (show nI (kdT B z i) = 40 by rw [k40]; rfl)]
      rcases x_ent hx hK (by omega) ho with ⟨e1, I1, e2, e3⟩ | ⟨e1, I1, e2, e3⟩
      · rw [e2, qb, if_neg (show ¬ (1 : Int32) = 0 by decide), nI_1]
        rcases h0 (o + 1) (i + 1) q st I1 (by omega) (by omega) e3 (by omega) with ⟨I2, j2, q2, st2, w, r1, r2, r3, r4, r5, r6, r7, r8, r9⟩ | ⟨I2, f, j2, r1, r2, r3⟩
        · have r1' : f5_rec n O fu 0 (1, I1).2 324 (nI (o + 1)) = some (1, I2) := r1
          rw [r1', qb, if_neg (show ¬ (1 : Int32) = 0 by decide)]
          rcases x_exp hx hB r2 (w := 41) (by omega) (by omega) with ⟨g1, I3, g2, g3⟩ | ⟨g1, I3, g2, g3⟩
          · have g2' : f5_expect (1, I2).2 O 324 41 = some (1, I3) := g2
            rw [g2', qb, if_neg (show ¬ (1 : Int32) = 0 by decide)]
            exact Or.inl ⟨I3, j2 + 1, q2, st2, w, rfl, g3, by omega, r4, by omega, r6, VX_mono r7 (by show D1 (o + 1) + 2 ≤ D1 o; unfold D1; omega), Ok_par k40 e1 r8 g1⟩
          · have g2' : f5_expect (1, I2).2 O 324 41 = some (0, I3) := g2
            rw [g2', qb, if_pos rfl]
            exact Res_f rfl g3 (Fl_par2 k40 e1 r8 g1 r9)
        · have r1' : f5_rec n O fu 0 (1, I1).2 324 (nI (o + 1)) = some (0, I2) := r1
          rw [r1', qb, if_pos rfl]
          exact Res_f rfl r2 (Fl_par1 k40 e1 r3)
      · rw [e2, qb, if_pos rfl]
        subst e1
        exact Res_f rfl e3 (Fl_deep (by omega))
    rw [if_neg (show ¬ nI (kdT B z i) = 40 from nI_nk (c := 40) kl (by omega) k40)]
    by_cases k45 : kdT B z i = 45
    · rw [if_pos (show nI (kdT B z i) = 45 by rw [k45]; rfl)]
      have := x_unary hx hB h2 ho hf hK hqi (by omega)
      exact this
    rw [if_neg (show ¬ nI (kdT B z i) = 45 from nI_nk (c := 45) kl (by omega) k45), bd_eta2]
    obtain ⟨I', q1, q2⟩ := x_ref hx hK (f := 1) ⟨by omega, by omega⟩
    exact Res_f (I' := I') (by rw [show f5_refuse I O 324 1 = _ from q1]) q2 (Fl_none (by omega) k28 kn)
theorem x_eithL (hx : Kx n O B z T sc s I0) {o : Nat} {rec : Nat → TI → Nat → Int32 → Option (Int32 × TI)} (hrec : ∀ i q st I, KS B z T sc I0 I i q st → q ≤ i → ResV B z T sc s I0 i q st (OT2 n O B z T T0 s o i) (FlT n O B z T T0 s 2 o i) (D1 o + 4) (rec 5 I 324 (nI o))) (hB : ∀ p, p < z → B p < 256) {i q : Nat} {st : TN} (hqi : q ≤ i) : ∀ e j m I q1 st1 b c, T - j = e → e < m → KS B z T sc I0 I j q1 st1 → i < j → c + i < j → q ≤ q1 → q1 + i ≤ q + j → (∀ k, k < q → st1 k = st k) → VX s st1 q q1 (fun e => b2i (b e)) (D1 o + 5) → OkT n O B z T T0 s 1 o i j b → nAr (kdT B z j) → kdT B z j ≠ 21 → ResV B z T sc s I0 i q st (OT1 n O B z T T0 s o i) (FlT n O B z T T0 s 1 o i) (D1 o + 5) (f5_readEither_c12 n O rec m I 324 (nI o) (nI c)) := by
  have hT := hx.2.2.2.2.2.1
  have hT2 := hx.2.2.2.2.2.2.1
  intro e
  induction e using Nat.strongRecOn with
  | _ e ih =>
    intro j m I q1 st1 b c he hm hK hij hc hq hq2 hst hv hok hna hk
    obtain ⟨m, rfl⟩ : ∃ m', m = m' + 1 := ⟨m - 1, by omega⟩
    have kl := kd_lt B z j hB
    have hjT := hK.2.1
    have k3 : I 324 3 = nI (kdT B z j) := hK.2.2.2.1
    have n300 : ¬ (300 : Int32) ≤ nI c := nle_i (a := 300) (by omega) (by omega) (by omega)
    by_cases y : kdT B z j = 20
    · have jT := kd_T hT2 hjT (show kdT B z j ≠ 27 by omega)
      obtain ⟨I1, c1, c2⟩ := x_nxt hx hK (by omega)
      rw [f5_readEither_c12, if_neg n300, k3, if_pos (show nI (kdT B z j) = 20 by rw [y]; rfl), c1, qb]
      rcases hrec (j + 1) q1 st1 I1 c2 (by omega) with ⟨I2, j2, q2, st2, w, r1, r2, r3, r4, r5, r6, r7, b', r8, r9, r10, r11⟩ | ⟨I2, f, j2, r1, r2, r3⟩
      · rw [r1, qb, if_neg (show ¬ (1 : Int32) = 0 by decide)]
        have j2T := r2.2.1
        obtain ⟨I3, a1, a2⟩ := x_add hx r2 (by omega) (by omega) (w := 20) (by omega)
        show ResV B z T sc s I0 i q st _ _ _ ((f7_add I2 O (rO O 324 1) 20).bind _)
        rw [show f7_add I2 O (rO O 324 1) 20 = _ from a1, qb, nI_1]
        rw [r8] at r7
        have vx := vx_bin (k := 20) (by unfold isTwo; omega) hv r7 r6 (by omega) r4
        have ea : (fun e => xS2 20 (b2i (b e)) (b2i (b' e))) = fun e => b2i (b e || b' e) := funext fun e => x_or _ _
        rw [ea] at vx
        exact ih (T - j2) (by omega) j2 m I3 (q2 + 1) _ (fun e => b e || b' e) (c + 1) rfl (by omega) a2 (by omega) (by omega) (by omega) (by omega) (fun k hk => by rw [upN_o _ (by omega), r6 k (by omega)]; exact hst k hk) vx (Ok_op (lv := 1) (op := 22) (Or.inl ⟨rfl, rfl, y⟩) hok r9) r10 r11
      · rw [r1, qb, if_pos rfl]
        exact Res_f rfl r2 (Fl_op (lv := 1) (op := 22) (Or.inl ⟨rfl, rfl, y⟩) hok r3)
    · refine Or.inl ⟨I, j, q1, st1, fun e => b2i (b e), ?_, hK, hij, hq, hq2, hst, hv, b, rfl, hok, hna, y, hk⟩
      rw [f5_readEither_c12, if_neg n300, k3, if_neg (show ¬ nI (kdT B z j) = 20 from nI_nk (c := 20) kl (by omega) y)]
theorem x_bothL (hx : Kx n O B z T sc s I0) {o : Nat} {rec : Nat → TI → Nat → Int32 → Option (Int32 × TI)} (hrec : ∀ i q st I, KS B z T sc I0 I i q st → q ≤ i → ResV B z T sc s I0 i q st (OT3 n O B z T T0 s o i) (FlT n O B z T T0 s 3 o i) (D1 o + 3) (rec 6 I 324 (nI o))) (hB : ∀ p, p < z → B p < 256) {i q : Nat} {st : TN} (hqi : q ≤ i) : ∀ e j m I q1 st1 b c, T - j = e → e < m → KS B z T sc I0 I j q1 st1 → i < j → c + i < j → q ≤ q1 → q1 + i ≤ q + j → (∀ k, k < q → st1 k = st k) → VX s st1 q q1 (fun e => b2i (b e)) (D1 o + 4) → OkT n O B z T T0 s 2 o i j b → nAr (kdT B z j) → ResV B z T sc s I0 i q st (OT2 n O B z T T0 s o i) (FlT n O B z T T0 s 2 o i) (D1 o + 4) (f5_readBoth_c12 n O rec m I 324 (nI o) (nI c)) := by
  have hT := hx.2.2.2.2.2.1
  have hT2 := hx.2.2.2.2.2.2.1
  intro e
  induction e using Nat.strongRecOn with
  | _ e ih =>
    intro j m I q1 st1 b c he hm hK hij hc hq hq2 hst hv hok hna
    obtain ⟨m, rfl⟩ : ∃ m', m = m' + 1 := ⟨m - 1, by omega⟩
    have kl := kd_lt B z j hB
    have hjT := hK.2.1
    have k3 : I 324 3 = nI (kdT B z j) := hK.2.2.2.1
    have n300 : ¬ (300 : Int32) ≤ nI c := nle_i (a := 300) (by omega) (by omega) (by omega)
    by_cases y : kdT B z j = 21
    · have jT := kd_T hT2 hjT (show kdT B z j ≠ 27 by omega)
      obtain ⟨I1, c1, c2⟩ := x_nxt hx hK (by omega)
      rw [f5_readBoth_c12, if_neg n300, k3, if_pos (show nI (kdT B z j) = 21 by rw [y]; rfl), c1, qb]
      rcases hrec (j + 1) q1 st1 I1 c2 (by omega) with ⟨I2, j2, q2, st2, w, r1, r2, r3, r4, r5, r6, r7, b', r8, r9, r10⟩ | ⟨I2, f, j2, r1, r2, r3⟩
      · rw [r1, qb, if_neg (show ¬ (1 : Int32) = 0 by decide)]
        have j2T := r2.2.1
        obtain ⟨I3, a1, a2⟩ := x_add hx r2 (by omega) (by omega) (w := 21) (by omega)
        show ResV B z T sc s I0 i q st _ _ _ ((f7_add I2 O (rO O 324 1) 21).bind _)
        rw [show f7_add I2 O (rO O 324 1) 21 = _ from a1, qb, nI_1]
        rw [r8] at r7
        have vx := vx_bin (k := 21) (by unfold isTwo; omega) hv r7 r6 (by omega) r4
        have ea : (fun e => xS2 21 (b2i (b e)) (b2i (b' e))) = fun e => b2i (b e && b' e) := funext fun e => x_and _ _
        rw [ea] at vx
        exact ih (T - j2) (by omega) j2 m I3 (q2 + 1) _ (fun e => b e && b' e) (c + 1) rfl (by omega) a2 (by omega) (by omega) (by omega) (by omega) (fun k hk => by rw [upN_o _ (by omega), r6 k (by omega)]; exact hst k hk) vx (Ok_op (lv := 2) (op := 21) (Or.inr ⟨rfl, rfl, y⟩) hok r9) r10
      · rw [r1, qb, if_pos rfl]
        exact Res_f rfl r2 (Fl_op (lv := 2) (op := 21) (Or.inr ⟨rfl, rfl, y⟩) hok r3)
    · refine Or.inl ⟨I, j, q1, st1, fun e => b2i (b e), ?_, hK, hij, hq, hq2, hst, hv, b, rfl, hok, hna, y⟩
      rw [f5_readBoth_c12, if_neg n300, k3, if_neg (show ¬ nI (kdT B z j) = 21 from nI_nk (c := 21) kl (by omega) y)]
theorem x_eith (hx : Kx n O B z T sc s I0) (hB : ∀ p, p < z → B p < 256) {fu : Nat} (h1 : PX5 n O B z T T0 sc s I0 fu) : PX4 n O B z T T0 sc s I0 (fu + 1) := by
  intro o i q st I ho hf hK hqi
  have hrec : ∀ i q st I, KS B z T sc I0 I i q st → q ≤ i → ResV B z T sc s I0 i q st (OT2 n O B z T T0 s o i) (FlT n O B z T T0 s 2 o i) (D1 o + 4) (f5_rec n O fu 5 I 324 (nI o)) := fun i q st I hK hq => h1 o i q st I ho (by omega) hK hq
  show ResV B z T sc s I0 i q st _ _ (D1 o + 5) (f5_readEither_b n I O (f5_rec n O fu) 324 (nI o))
  rw [f5_readEither_b]
  have hT := hx.2.2.2.2.2.1
  have hn := hx.1
  rcases hrec i q st I hK hqi with ⟨I2, j2, q2, st2, w, r1, r2, r3, r4, r5, r6, r7, b', r8, r9, r10, r11⟩ | ⟨I2, f, j2, r1, r2, r3⟩
  · rw [r1, qb, if_neg (show ¬ (1 : Int32) = 0 by decide)]
    rw [r8] at r7
    exact x_eithL hx hrec hB hqi (T - j2) j2 n I2 q2 st2 b' 0 rfl (by omega) r2 r3 (by omega) r4 r5 r6 (VX_mono r7 (by omega)) (Ok_T (Or.inl rfl) r9) r10 r11
  · rw [r1, qb, if_pos rfl]
    exact Res_f rfl r2 (Fl_T (Or.inl rfl) r3)
theorem x_both (hx : Kx n O B z T sc s I0) (hB : ∀ p, p < z → B p < 256) {fu : Nat} (h1 : PX6 n O B z T T0 sc s I0 fu) : PX5 n O B z T T0 sc s I0 (fu + 1) := by
  intro o i q st I ho hf hK hqi
  have hrec : ∀ i q st I, KS B z T sc I0 I i q st → q ≤ i → ResV B z T sc s I0 i q st (OT3 n O B z T T0 s o i) (FlT n O B z T T0 s 3 o i) (D1 o + 3) (f5_rec n O fu 6 I 324 (nI o)) := fun i q st I hK hq => h1 o i q st I ho (by omega) hK hq
  show ResV B z T sc s I0 i q st _ _ (D1 o + 4) (f5_readBoth_b n I O (f5_rec n O fu) 324 (nI o))
  rw [f5_readBoth_b]
  have hT := hx.2.2.2.2.2.1
  have hn := hx.1
  rcases hrec i q st I hK hqi with ⟨I2, j2, q2, st2, w, r1, r2, r3, r4, r5, r6, r7, b', r8, r9, r10⟩ | ⟨I2, f, j2, r1, r2, r3⟩
  · rw [r1, qb, if_neg (show ¬ (1 : Int32) = 0 by decide)]
    rw [r8] at r7
    exact x_bothL hx hrec hB hqi (T - j2) j2 n I2 q2 st2 b' 0 rfl (by omega) r2 r3 (by omega) r4 r5 r6 (VX_mono r7 (by omega)) (Ok_T (Or.inr rfl) r9) r10
  · rw [r1, qb, if_pos rfl]
    exact Res_f rfl r2 (Fl_T (Or.inr rfl) r3)
theorem x_ask (hx : Kx n O B z T sc s I0) (hB : ∀ p, p < z → B p < 256) {fu : Nat} (h0 : PX0 n O B z T T0 sc s I0 fu) (h6 : PX6 n O B z T T0 sc s I0 fu) : PX6 n O B z T T0 sc s I0 (fu + 1) := by
  intro o i q st I ho hf hK hqi
  have hT := hx.2.2.2.2.2.1
  have hT2 := hx.2.2.2.2.2.2.1
  have kl := kd_lt B z i hB
  have k3 : I 324 3 = nI (kdT B z i) := hK.2.2.2.1
  show ResV B z T sc s I0 i q st (OT3 n O B z T T0 s o i) (FlT n O B z T T0 s 3 o i) (D1 o + 3) (f5_readAsk_b n I O (f5_rec n O fu) 324 (nI o))
  rw [f5_readAsk_b, k3]
  by_cases k22 : kdT B z i = 22
  · rw [if_pos (show nI (kdT B z i) = 22 by rw [k22]; rfl)]
    rcases x_ent hx hK (by omega) ho with ⟨e1, I1, e2, e3⟩ | ⟨e1, I1, e2, e3⟩
    · rw [e2, qb, if_neg (show ¬ (1 : Int32) = 0 by decide), nI_1]
      rcases h6 (o + 1) (i + 1) q st I1 (by omega) (by omega) e3 (by omega) with ⟨I2, j2, q2, st2, w, r1, r2, r3, r4, r5, r6, r7, b', r8, r9, r10⟩ | ⟨I2, f, j2, r1, r2, r3⟩
      · have r1' : f5_rec n O fu 6 (1, I1).2 324 (nI (o + 1)) = some (1, I2) := r1
        rw [r1', qb, if_neg (show ¬ (1 : Int32) = 0 by decide)]
        have j2T := r2.2.1
        obtain ⟨I3, a1, a2⟩ := x_add hx r2 (by omega) (by omega) (w := 22) (by omega)
        have a1' : f7_add (1, I2).2 O (rO O 324 1) 22 = some (nI q2, I3) := a1
        rw [a1', qb]
        rw [r8] at r7
        have vx := vx_un (k := 22) (d := D1 o + 3) (by omega) r7 (by show D1 (o + 1) + 3 ≤ D1 o + 3; unfold D1; omega) (by omega)
        have ea : (fun e => xS1 e 22 (b2i (b' e))) = fun e => b2i (!b' e) := funext fun e => x_not e _
        rw [ea] at vx
        exact Or.inl ⟨I3, j2, q2 + 1, upN st2 q2 22, _, rfl, a2, by omega, by omega, by omega, fun k hk => by rw [upN_o _ (by omega)]; exact r6 k hk, vx, _, rfl, Ok_not k22 e1 r9, r10⟩
      · have r1' : f5_rec n O fu 6 (1, I1).2 324 (nI (o + 1)) = some (0, I2) := r1
        rw [r1', qb, if_pos rfl]
        exact Res_f rfl r2 (Fl_not k22 e1 r3)
    · rw [e2, qb, if_pos rfl]
      subst e1
      exact Res_f rfl e3 (Fl_notd k22)
  · rw [if_neg (show ¬ nI (kdT B z i) = 22 from nI_nk (c := 22) kl (by omega) k22)]
    rcases h0 o i q st I ho (by omega) hK hqi with ⟨I2, j2, q2, st2, v, r1, r2, r3, r4, r5, r6, r7, r8, r9⟩ | ⟨I2, f, j2, r1, r2, r3⟩
    · rw [r1, qb, if_neg (show ¬ (1 : Int32) = 0 by decide)]
      have kl2 := kd_lt B z j2 hB
      have j2T := r2.2.1
      have k32 : I2 324 3 = nI (kdT B z j2) := r2.2.2.2.1
      have cm := cmp_ok (kdT B z j2) kl2
      show ResV B z T sc s I0 i q st _ _ _ ((f5_compares (I2 324 3)).bind fun r5 => (if r5 = 0 then (f5_refuse I2 O 324 (1 : Int32)).bind fun r16 => some (r16.1, r16.2) else (f5_comeTo I2 O 324 ((I2 324 2) + 1)).bind fun r8 => (f5_rec n O fu 0 r8 324 (nI o)).bind fun r10 => (if r10.1 = 0 then some ((0 : Int32), r10.2) else (f7_add r10.2 O (rO O 324 1) (I2 324 3)).bind fun r14 => some ((1 : Int32), r14.2))))
      rw [k32, cm, qb]
      by_cases y : isCm (kdT B z j2)
      · have y' : kdT B z j2 = 60 ∨ kdT B z j2 = 316 ∨ kdT B z j2 = 62 ∨ kdT B z j2 = 318 ∨ kdT B z j2 = 61 ∨ kdT B z j2 = 35 := y
        have jT := kd_T hT2 j2T (show kdT B z j2 ≠ 27 by omega)
        rw [if_pos y', if_neg (show ¬ (1 : Int32) = 0 by decide)]
        obtain ⟨I3, c1, c2⟩ := x_nxt hx r2 (by omega)
        rw [c1, qb]
        rcases h0 o (j2 + 1) q2 st2 I3 ho (by omega) c2 (by omega) with ⟨I4, j4, q4, st4, w, t1, t2, t3, t4, t5, t6, t7, t8, t9⟩ | ⟨I4, f, j4, t1, t2, t3⟩
        · rw [t1, qb, if_neg (show ¬ (1 : Int32) = 0 by decide)]
          have j4T := t2.2.1
          obtain ⟨I5, a1, a2⟩ := x_add hx t2 (by omega) (by omega) (w := kdT B z j2) (by omega)
          have a1' : f7_add (1, I4).2 O (rO O 324 1) (nI (kdT B z j2)) = some (nI q4, I5) := a1
          rw [a1', qb]
          have two : isTwo (kdT B z j2) := by unfold isTwo; omega
          have vx := vx_bin two (VX_mono r7 (show D1 o + 2 ≤ D1 o + 3 by omega)) t7 t6 (show D1 o + 2 + 1 ≤ D1 o + 3 by omega) t4
          have ea : (fun e => xS2 (kdT B z j2) (v e) (w e)) = fun e => b2i (cmpB (kdT B z j2) (v e) (w e)) := funext fun e => x_two_cmp (by rcases y' with g | g | g | g | g | g <;> rw [g] <;> rfl) _ _
          rw [ea] at vx
          exact Or.inl ⟨I5, j4, q4 + 1, _, _, rfl, a2, by omega, by omega, by omega, fun k hk => by rw [upN_o _ (by omega), t6 k (by omega)]; exact r6 k hk, vx, _, rfl, Ok_cmp k22 ho y r8 t8, t9⟩
        · rw [t1, qb, if_pos rfl]
          exact Res_f rfl t2 (Fl_cmp2 k22 y r8 t3)
      · have y' : ¬ (kdT B z j2 = 60 ∨ kdT B z j2 = 316 ∨ kdT B z j2 = 62 ∨ kdT B z j2 = 318 ∨ kdT B z j2 = 61 ∨ kdT B z j2 = 35) := y
        rw [if_neg y', if_pos rfl, bd_eta2]
        obtain ⟨I', p1, p2⟩ := x_ref hx r2 (f := 1) ⟨by omega, by omega⟩
        exact Res_f (I' := I') (by rw [show f5_refuse I2 O 324 1 = _ from p1]) p2 (Fl_cmp3 k22 r9 y r8)
    · rw [r1, qb, if_pos rfl]
      exact Res_f rfl r2 (Fl_cmp1 k22 r3)
theorem x_choice (hx : Kx n O B z T sc s I0) (hB : ∀ p, p < z → B p < 256) {fu : Nat} (h0 : PX0 n O B z T T0 sc s I0 fu) (h4 : PX4 n O B z T T0 sc s I0 fu) : PX3 n O B z T T0 sc s I0 (fu + 1) := by
  intro o i q st I ho hf hK hqi
  have hT := hx.2.2.2.2.2.1
  have hT2 := hx.2.2.2.2.2.2.1
  show ResV B z T sc s I0 i q st (OkC n O B z T T0 s o i) (FlC n O B z T T0 s o i) (D1 o + 5) (f5_readChoice_b n I O (f5_rec n O fu) 324 (nI o))
  rw [f5_readChoice_b]
  rcases h4 o i q st I ho (by omega) hK hqi with ⟨Ia, a, qa, sa, va, r1, r2, r3, r4, r5, r6, r7, b, rfl, r9, r10, r11, r12⟩ | ⟨I2, f, j2, r1, r2, r3⟩
  · rw [r1, qb, if_neg (show ¬ (1 : Int32) = 0 by decide)]
    have aT := r2.2.1
    rcases x_exp hx hB r2 (w := 17) (by omega) (by omega) with ⟨g1, I3, g2, g3⟩ | ⟨g1, I3, g2, g3⟩
    · have g2' : f5_expect (1, Ia).2 O 324 17 = some (1, I3) := g2
      rw [g2', qb, if_neg (show ¬ (1 : Int32) = 0 by decide)]
      have aT2 := kd_T hT2 aT (show kdT B z a ≠ 27 by omega)
      obtain ⟨I4, c1, c2⟩ := x_add hx g3 (by omega) (by omega) (w := 17) (by omega)
      have c1' : f7_add (1, I3).2 O (rO O 324 1) 17 = some (nI qa, I4) := c1
      rw [c1', qb]
      show ResV B z T sc s I0 i q st _ _ _ ((f5_rec n O fu 0 I4 324 (nI o)).bind fun r10 => (if r10.1 = 0 then some ((0 : Int32), r10.2) else (f5_expect r10.2 O 324 (18 : Int32)).bind fun r13 => (if r13.1 = 0 then some ((0 : Int32), r13.2) else (f7_add r13.2 O (rO O 324 1) (18 : Int32)).bind fun r16 => (f7_aim r16.2 O (rO O 324 1) (nI qa)).bind fun r18 => (f5_rec n O fu 0 r18 324 (nI o)).bind fun r20 => (if r20.1 = 0 then some ((0 : Int32), r20.2) else (f5_expect r20.2 O 324 (19 : Int32)).bind fun r23 => (if r23.1 = 0 then some ((0 : Int32), r23.2) else (f7_aim r23.2 O (rO O 324 1) r16.1).bind fun r26 => some ((1 : Int32), r26))))))
      rcases h0 o (a + 1) (qa + 1) _ I4 ho (by omega) c2 (by omega) with ⟨Ic, c, qc, sC, v, t1, t2, t3, t4, t5, t6, t7, t8, t9⟩ | ⟨I2, f, j2, t1, t2, t3⟩
      · rw [t1, qb, if_neg (show ¬ (1 : Int32) = 0 by decide)]
        have cT := t2.2.1
        rcases x_exp hx hB t2 (w := 18) (by omega) (by omega) with ⟨y1, I5, y2, y3⟩ | ⟨y1, I5, y2, y3⟩
        · have y2' : f5_expect (1, Ic).2 O 324 18 = some (1, I5) := y2
          rw [y2', qb, if_neg (show ¬ (1 : Int32) = 0 by decide)]
          have cT2 := kd_T hT2 cT (show kdT B z c ≠ 27 by omega)
          obtain ⟨I6, d1, d2⟩ := x_add hx y3 (by omega) (by omega) (w := 18) (by omega)
          have d1' : f7_add (1, I5).2 O (rO O 324 1) 18 = some (nI qc, I6) := d1
          rw [d1', qb]
          have s17 : upN sC qc 18 qa = 17 := by rw [upN_o _ (by omega), t6 qa (by omega), upN_s]
          obtain ⟨I7, e1, e2⟩ := x_aim hx d2 (p := qa) (by omega) (by omega) (by omega)
          have e1' : f7_aim (nI qc, I6).2 O (rO O 324 1) (nI qa) = some I7 := e1
          rw [e1', qb]
          rw [s17] at e2
          show ResV B z T sc s I0 i q st _ _ _ ((f5_rec n O fu 0 I7 324 (nI o)).bind fun r20 => (if r20.1 = 0 then some ((0 : Int32), r20.2) else (f5_expect r20.2 O 324 (19 : Int32)).bind fun r23 => (if r23.1 = 0 then some ((0 : Int32), r23.2) else (f7_aim r23.2 O (rO O 324 1) (nI qc)).bind fun r26 => some ((1 : Int32), r26))))
          rcases h0 o (c + 1) (qc + 1) _ I7 ho (by omega) e2 (by omega) with ⟨Id, d, qd, sd, w, u1, u2, u3, u4, u5, u6, u7, u8, u9⟩ | ⟨I2, f, j2, u1, u2, u3⟩
          · rw [u1, qb, if_neg (show ¬ (1 : Int32) = 0 by decide)]
            have dT := u2.2.1
            rcases x_exp hx hB u2 (w := 19) (by omega) (by omega) with ⟨m1, I8, m2, m3⟩ | ⟨m1, I8, m2, m3⟩
            · have m2' : f5_expect (1, Id).2 O 324 19 = some (1, I8) := m2
              rw [m2', qb, if_neg (show ¬ (1 : Int32) = 0 by decide)]
              have dT2 := kd_T hT2 dT (show kdT B z d ≠ 27 by omega)
              have s18 : sd qc = 18 := by rw [u6 qc (by omega), upN_o _ (by omega), upN_s]
              obtain ⟨I9, p1, p2⟩ := x_aim hx m3 (p := qc) (by omega) (by omega) (by omega)
              have p1' : f7_aim (1, I8).2 O (rO O 324 1) (nI qc) = some I9 := p1
              rw [p1', qb]
              rw [s18] at p2
              have f17 : upN sd qc (18 + qd * 1024) qa = 17 + (qc + 1) * 1024 := by rw [upN_o _ (by omega), u6 qa (by omega), upN_s]
              have fa : ∀ k, k < qa → upN sd qc (18 + qd * 1024) k = sa k := fun k hk => by
                rw [upN_o _ (by omega), u6 k (by omega), upN_o _ (by omega), upN_o _ (by omega), t6 k (by omega), upN_o _ (by omega)]
              have fc : ∀ k, qa + 1 ≤ k → k < qc → upN sd qc (18 + qd * 1024) k = sC k := fun k h1 hk => by
                rw [upN_o _ (by omega), u6 k (by omega), upN_o _ (by omega), upN_o _ (by omega)]
              have fd : ∀ k, qc + 1 ≤ k → k < qd → upN sd qc (18 + qd * 1024) k = sd k := fun k h1 hk => upN_o _ (by omega)
              refine Or.inl ⟨I9, d + 1, qd, upN sd qc (18 + qd * 1024), fun e => if b e then v e else w e, rfl, p2, by omega, by omega, by omega, fun k hk => by rw [fa k (by omega)]; exact r6 k hk, ?_, Ok_ch r10 t9 u9 r9 g1 t8 y1 u8 m1⟩
              exact VX_if (z1 := qa) (z2 := qc) (VX_ext r7 (fun k _ hk => fa k hk)) (VX_mono (VX_ext t7 fc) (show D1 o + 2 ≤ D1 o + 5 by omega)) (VX_mono (VX_ext u7 fd) (show D1 o + 2 ≤ D1 o + 5 by omega)) f17 (upN_s _ _ _) (by omega) (by omega) (by omega)
            · have m2' : f5_expect (1, Id).2 O 324 19 = some (0, I8) := m2
              rw [m2', qb, if_pos rfl]
              exact Res_f rfl m3 (Fl_ch5 r10 t9 u9 r9 g1 t8 y1 u8 m1)
          · rw [u1, qb, if_pos rfl]
            exact Res_f rfl u2 (Fl_ch4 r10 t9 r9 g1 t8 y1 u3)
        · have y2' : f5_expect (1, Ic).2 O 324 18 = some (0, I5) := y2
          rw [y2', qb, if_pos rfl]
          exact Res_f rfl y3 (Fl_ch3 r10 t9 r9 g1 t8 y1)
      · rw [t1, qb, if_pos rfl]
        exact Res_f rfl t2 (Fl_ch2 r10 r9 g1 t3)
    · have g2' : f5_expect (1, Ia).2 O 324 17 = some (0, I3) := g2
      rw [g2', qb, if_pos rfl]
      exact Res_f rfl g3 (Fl_ch1 r10 r9 g1 r11 r12)
  · rw [r1, qb, if_pos rfl]
    exact Res_f rfl r2 (Fl_ch0 r3)
theorem x_rec (hx : Kx n O B z T sc s I0) (hB : ∀ p, p < z → B p < 256) : ∀ fu, PX0 n O B z T T0 sc s I0 fu ∧ PX1 n O B z T T0 sc s I0 fu ∧ PX2 n O B z T T0 sc s I0 fu ∧ PX3 n O B z T T0 sc s I0 fu ∧ PX4 n O B z T T0 sc s I0 fu ∧ PX5 n O B z T T0 sc s I0 fu ∧ PX6 n O B z T T0 sc s I0 fu := by
  intro fu
  induction fu with
  | zero =>
    refine ⟨?_, ?_, ?_, ?_, ?_, ?_, ?_⟩
    all_goals (intro o i q st I ho hf; exfalso; omega)
  | succ fu ih =>
    obtain ⟨p0, p1, p2, p3, p4, p5, p6⟩ := ih
    exact ⟨x_sum hx hB p1, x_prod hx hB p2, x_one hx hB p0 p2 p3, x_choice hx hB p0 p4, x_eith hx hB p5, x_both hx hB p6, x_ask hx hB p0 p6⟩
end RO
