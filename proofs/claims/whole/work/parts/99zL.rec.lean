/-! the class reads a law: the recursion -/
theorem vx_bin {s k q q1 q2 d d2 : Nat} {st1 st2 : TN} {v w : lEnv → Int} (hk : isTwo k) (h : VX s st1 q q1 v d) (g : VX s st2 q1 q2 w d2) (e : ∀ x, x < q1 → st2 x = st1 x) (hd : d2 + 1 ≤ d) (h2 : q1 ≤ q2) : VX s (upN st2 q2 k) q (q2 + 1) (fun e => xS2 k (v e) (w e)) d :=
  VX_two (VX_ext h (fun x _ hx => by rw [upN_o _ (by omega)]; exact e x hx)) (VX_ext g (fun x _ hx => upN_o _ (by omega))) (upN_s _ _ _) hk (Nat.le_refl _) hd
theorem vx_un {s k q q2 d d2 : Nat} {st2 : TN} {v : lEnv → Int} (hk : k = 14 ∨ k = 15 ∨ k = 29 ∨ k = 22) (h : VX s st2 q q2 v d2) (hd : d2 ≤ d) (h1 : 1 ≤ d) : VX s (upN st2 q2 k) q (q2 + 1) (fun e => xS1 e k (v e)) d :=
  VX_one (VX_mono (VX_ext h (fun x _ hx => upN_o _ (by omega))) hd) (upN_s _ _ _) hk h1
def D1 (o : Nat) : Nat := 5 * (8 - o) + 1
section RR
variable (n : Nat) (O : TO) (B : TN) (z T T0 sc s : Nat) (I0 : TI)
def OV5 (o i : Nat) : Nat → (lEnv → Int) → Prop := fun j v => OkV n O B z T T0 s 5 o i j v ∧ nAr (kdT B z j)
def OV6 (o i : Nat) : Nat → (lEnv → Int) → Prop := fun j v => OkV n O B z T T0 s 6 o i j v ∧ kdT B z j ≠ 42 ∧ kdT B z j ≠ 47
def OT1 (o i : Nat) : Nat → (lEnv → Int) → Prop := fun j v => ∃ b, v = (fun e => b2i (b e)) ∧ OkT n O B z T T0 s 1 o i j b ∧ nAr (kdT B z j) ∧ kdT B z j ≠ 20 ∧ kdT B z j ≠ 21
def OT2 (o i : Nat) : Nat → (lEnv → Int) → Prop := fun j v => ∃ b, v = (fun e => b2i (b e)) ∧ OkT n O B z T T0 s 2 o i j b ∧ nAr (kdT B z j) ∧ kdT B z j ≠ 21
def OT3 (o i : Nat) : Nat → (lEnv → Int) → Prop := fun j v => ∃ b, v = (fun e => b2i (b e)) ∧ OkT n O B z T T0 s 3 o i j b ∧ nAr (kdT B z j)
def PX (X nd : Nat) (dd : Nat → Nat) (OK : Nat → Nat → Nat → (lEnv → Int) → Prop) (FL : Nat → Nat → Nat → Nat → Prop) (fu : Nat) : Prop := ∀ o i q st I, o ≤ 8 → 7 * (8 - o) + nd ≤ fu → KS B z T sc I0 I i q st → q ≤ i → ResV B z T sc s I0 i q st (OK o i) (FL o i) (dd o) (f5_rec n O fu X I 324 (nI o))
def PX0 (fu : Nat) : Prop := PX n O B z T sc s I0 0 3 (fun o => D1 o + 2) (OV5 n O B z T T0 s) (FlV n O B z T T0 s 5) fu
def PX1 (fu : Nat) : Prop := PX n O B z T sc s I0 1 2 (fun o => D1 o + 1) (OV6 n O B z T T0 s) (FlV n O B z T T0 s 6) fu
def PX2 (fu : Nat) : Prop := PX n O B z T sc s I0 2 1 D1 (Ok1 n O B z T T0 s) (Fl1 n O B z T T0 s) fu
def PX3 (fu : Nat) : Prop := PX n O B z T sc s I0 3 7 (fun o => D1 o + 5) (OkC n O B z T T0 s) (FlC n O B z T T0 s) fu
def PX4 (fu : Nat) : Prop := PX n O B z T sc s I0 4 6 (fun o => D1 o + 5) (OT1 n O B z T T0 s) (FlT n O B z T T0 s 1) fu
def PX5 (fu : Nat) : Prop := PX n O B z T sc s I0 5 5 (fun o => D1 o + 4) (OT2 n O B z T T0 s) (FlT n O B z T T0 s 2) fu
def PX6 (fu : Nat) : Prop := PX n O B z T sc s I0 6 4 (fun o => D1 o + 3) (OT3 n O B z T T0 s) (FlT n O B z T T0 s 3) fu
end RR
section RQ
variable {n : Nat} {O : TO} {B : TN} {z T T0 sc s : Nat} {I0 : TI}
theorem x_sumL (hx : Kx n O B z T sc s I0) {o : Nat} {rec : Nat → TI → Nat → Int32 → Option (Int32 × TI)} (hrec : ∀ i q st I, KS B z T sc I0 I i q st → q ≤ i → ResV B z T sc s I0 i q st (OV6 n O B z T T0 s o i) (FlV n O B z T T0 s 6 o i) (D1 o + 1) (rec 1 I 324 (nI o))) (hB : ∀ p, p < z → B p < 256) {i q : Nat} {st : TN} (hqi : q ≤ i) : ∀ e j m I q1 st1 v c, T - j = e → e < m → KS B z T sc I0 I j q1 st1 → i < j → c + i < j → q ≤ q1 → q1 + i ≤ q + j → (∀ k, k < q → st1 k = st k) → VX s st1 q q1 v (D1 o + 2) → OkV n O B z T T0 s 5 o i j v → kdT B z j ≠ 42 ∧ kdT B z j ≠ 47 → ResV B z T sc s I0 i q st (OV5 n O B z T T0 s o i) (FlV n O B z T T0 s 5 o i) (D1 o + 2) (f5_readSum_c12 n O rec m I 324 (nI o) (nI c)) := by
  have hT := hx.2.2.2.2.2.1
  have hT2 := hx.2.2.2.2.2.2.1
  intro e
  induction e using Nat.strongRecOn with
  | _ e ih =>
    intro j m I q1 st1 v c he hm hK hij hc hq hq2 hst hv hok hk
    obtain ⟨m, rfl⟩ : ∃ m', m = m' + 1 := ⟨m - 1, by omega⟩
    have kl := kd_lt B z j hB
    have hjT := hK.2.1
    have k3 : I 324 3 = nI (kdT B z j) := hK.2.2.2.1
    have n300 : ¬ (300 : Int32) ≤ nI c := nle_i (a := 300) (by omega) (by omega) (by omega)
    by_cases y : kdT B z j = 43 ∨ kdT B z j = 45
    · have pre : f5_readSum_c12 n O rec (m + 1) I 324 (nI o) (nI c) = f5_readSum_c37 n O rec (f5_readSum_c12 n O rec m) I 324 (nI o) (nI c) := by
        rw [f5_readSum_c12, if_neg n300, k3]
        rcases y with g | g
        · rw [if_pos (show nI (kdT B z j) = 43 by rw [g]; rfl)]
        · rw [if_neg (show ¬ nI (kdT B z j) = 43 by rw [g]; decide), if_pos (show nI (kdT B z j) = 45 by rw [g]; rfl)]
      have jT := kd_T hT2 hjT (show kdT B z j ≠ 27 by omega)
      obtain ⟨I1, c1, c2⟩ := x_nxt hx hK (by omega)
      obtain ⟨op, o1, o2⟩ : ∃ op, (op = 6 ∨ op = 7) ∧ kdT B z j = kxo op := by
        rcases y with g | g
        · exact ⟨6, Or.inl rfl, g⟩
        · exact ⟨7, Or.inr rfl, g⟩
      rw [pre, f5_readSum_c37, c1, qb]
      rcases hrec (j + 1) q1 st1 I1 c2 (by omega) with ⟨I2, j2, q2, st2, w, r1, r2, r3, r4, r5, r6, r7, r8, r9⟩ | ⟨I2, f, j2, r1, r2, r3⟩
      · rw [r1, qb, if_neg (show ¬ (1 : Int32) = 0 by decide)]
        have j2T := r2.2.1
        obtain ⟨I3, a1, a2⟩ := x_add hx r2 (by omega) (by omega) (w := kdT B z j) (by omega)
        show ResV B z T sc s I0 i q st _ _ _ ((f7_add I2 O (rO O 324 1) (I 324 3)).bind _)
        rw [k3, a1, qb, nI_1]
        have two : isTwo (kdT B z j) := by unfold isTwo; omega
        have vx := vx_bin two hv r7 r6 (by omega) r4
        have ea : (fun e => xS2 (kdT B z j) (v e) (w e)) = fun e => ar (kxo op) (v e) (w e) := funext fun e => by
          rw [← o2]; exact x_two_ar (by rcases y with g | g <;> rw [g] <;> rfl) _ _
        rw [ea] at vx
        exact ih (T - j2) (by omega) j2 m I3 (q2 + 1) _ _ (c + 1) rfl (by omega) a2 (by omega) (by omega) (by omega) (by omega) (fun k hk => by rw [upN_o _ (by omega), r6 k (by omega)]; exact hst k hk) vx (Ok_sum o1 o2 hok r8) r9
      · rw [r1, qb, if_pos rfl]
        exact Res_f rfl r2 (Fl_sum o1 o2 hok r3)
    · refine Or.inl ⟨I, j, q1, st1, v, ?_, hK, hij, hq, hq2, hst, hv, hok, ?_⟩
      · rw [f5_readSum_c12, if_neg n300, k3, if_neg (show ¬ nI (kdT B z j) = 43 from fun g => y (Or.inl (by rw [show (43 : Int32) = nI 43 from rfl, nI_eq (by omega) (by omega)] at g; exact g))), if_neg (show ¬ nI (kdT B z j) = 45 from fun g => y (Or.inr (by rw [show (45 : Int32) = nI 45 from rfl, nI_eq (by omega) (by omega)] at g; exact g)))]
      · exact ⟨by omega, by omega, hk.1, hk.2⟩
theorem x_prodL (hx : Kx n O B z T sc s I0) {o : Nat} {rec : Nat → TI → Nat → Int32 → Option (Int32 × TI)} (hrec : ∀ i q st I, KS B z T sc I0 I i q st → q ≤ i → ResV B z T sc s I0 i q st (Ok1 n O B z T T0 s o i) (Fl1 n O B z T T0 s o i) (D1 o) (rec 2 I 324 (nI o))) (hB : ∀ p, p < z → B p < 256) {i q : Nat} {st : TN} (hqi : q ≤ i) : ∀ e j m I q1 st1 v c, T - j = e → e < m → KS B z T sc I0 I j q1 st1 → i < j → c + i < j → q ≤ q1 → q1 + i ≤ q + j → (∀ k, k < q → st1 k = st k) → VX s st1 q q1 v (D1 o + 1) → OkV n O B z T T0 s 6 o i j v → ResV B z T sc s I0 i q st (OV6 n O B z T T0 s o i) (FlV n O B z T T0 s 6 o i) (D1 o + 1) (f5_readProduct_c12 n O rec m I 324 (nI o) (nI c)) := by
  have hT := hx.2.2.2.2.2.1
  have hT2 := hx.2.2.2.2.2.2.1
  intro e
  induction e using Nat.strongRecOn with
  | _ e ih =>
    intro j m I q1 st1 v c he hm hK hij hc hq hq2 hst hv hok
    obtain ⟨m, rfl⟩ : ∃ m', m = m' + 1 := ⟨m - 1, by omega⟩
    have kl := kd_lt B z j hB
    have hjT := hK.2.1
    have k3 : I 324 3 = nI (kdT B z j) := hK.2.2.2.1
    have n300 : ¬ (300 : Int32) ≤ nI c := nle_i (a := 300) (by omega) (by omega) (by omega)
    by_cases y : kdT B z j = 42 ∨ kdT B z j = 47
    · have pre : f5_readProduct_c12 n O rec (m + 1) I 324 (nI o) (nI c) = f5_readProduct_c37 n O rec (f5_readProduct_c12 n O rec m) I 324 (nI o) (nI c) := by
        rw [f5_readProduct_c12, if_neg n300, k3]
        rcases y with g | g
        · rw [if_pos (show nI (kdT B z j) = 42 by rw [g]; rfl)]
        · rw [if_neg (show ¬ nI (kdT B z j) = 42 by rw [g]; decide), if_pos (show nI (kdT B z j) = 47 by rw [g]; rfl)]
      have jT := kd_T hT2 hjT (show kdT B z j ≠ 27 by omega)
      obtain ⟨I1, c1, c2⟩ := x_nxt hx hK (by omega)
      obtain ⟨op, o1, o2⟩ : ∃ op, (op = 8 ∨ op = 9) ∧ kdT B z j = kxo op := by
        rcases y with g | g
        · exact ⟨8, Or.inl rfl, g⟩
        · exact ⟨9, Or.inr rfl, g⟩
      rw [pre, f5_readProduct_c37, c1, qb]
      rcases hrec (j + 1) q1 st1 I1 c2 (by omega) with ⟨I2, j2, q2, st2, w, r1, r2, r3, r4, r5, r6, r7, r8⟩ | ⟨I2, f, j2, r1, r2, r3⟩
      · rw [r1, qb, if_neg (show ¬ (1 : Int32) = 0 by decide)]
        have j2T := r2.2.1
        obtain ⟨I3, a1, a2⟩ := x_add hx r2 (by omega) (by omega) (w := kdT B z j) (by omega)
        show ResV B z T sc s I0 i q st _ _ _ ((f7_add I2 O (rO O 324 1) (I 324 3)).bind _)
        rw [k3, a1, qb, nI_1]
        have two : isTwo (kdT B z j) := by unfold isTwo; omega
        have vx := vx_bin two hv r7 r6 (by omega) r4
        have ea : (fun e => xS2 (kdT B z j) (v e) (w e)) = fun e => ar (kxo op) (v e) (w e) := funext fun e => by
          rw [← o2]; exact x_two_ar (by rcases y with g | g <;> rw [g] <;> rfl) _ _
        rw [ea] at vx
        exact ih (T - j2) (by omega) j2 m I3 (q2 + 1) _ _ (c + 1) rfl (by omega) a2 (by omega) (by omega) (by omega) (by omega) (fun k hk => by rw [upN_o _ (by omega), r6 k (by omega)]; exact hst k hk) vx (Ok_prod o1 o2 hok r8)
      · rw [r1, qb, if_pos rfl]
        exact Res_f rfl r2 (Fl_prod o1 o2 hok r3)
    · refine Or.inl ⟨I, j, q1, st1, v, ?_, hK, hij, hq, hq2, hst, hv, hok, by omega, by omega⟩
      rw [f5_readProduct_c12, if_neg n300, k3, if_neg (show ¬ nI (kdT B z j) = 42 from fun g => y (Or.inl (by rw [show (42 : Int32) = nI 42 from rfl, nI_eq (by omega) (by omega)] at g; exact g))), if_neg (show ¬ nI (kdT B z j) = 47 from fun g => y (Or.inr (by rw [show (47 : Int32) = nI 47 from rfl, nI_eq (by omega) (by omega)] at g; exact g)))]
theorem x_sum (hx : Kx n O B z T sc s I0) (hB : ∀ p, p < z → B p < 256) {fu : Nat} (h1 : PX1 n O B z T T0 sc s I0 fu) : PX0 n O B z T T0 sc s I0 (fu + 1) := by
  intro o i q st I ho hf hK hqi
  have hrec : ∀ i q st I, KS B z T sc I0 I i q st → q ≤ i → ResV B z T sc s I0 i q st (OV6 n O B z T T0 s o i) (FlV n O B z T T0 s 6 o i) (D1 o + 1) (f5_rec n O fu 1 I 324 (nI o)) := fun i q st I hK hq => h1 o i q st I ho (by omega) hK hq
  show ResV B z T sc s I0 i q st _ _ (D1 o + 2) (f5_readSum_b n I O (f5_rec n O fu) 324 (nI o))
  rw [f5_readSum_b]
  have hT := hx.2.2.2.2.2.1
  have hn := hx.1
  rcases hrec i q st I hK hqi with ⟨I2, j2, q2, st2, w, r1, r2, r3, r4, r5, r6, r7, r8, r9⟩ | ⟨I2, f, j2, r1, r2, r3⟩
  · rw [r1, qb, if_neg (show ¬ (1 : Int32) = 0 by decide)]
    exact x_sumL hx hrec hB hqi (T - j2) j2 n I2 q2 st2 w 0 rfl (by omega) r2 r3 (by omega) r4 r5 r6 (VX_mono r7 (by omega)) (Ok_65 r8) r9
  · rw [r1, qb, if_pos rfl]
    exact Res_f rfl r2 (Fl_65 r3)
theorem x_prod (hx : Kx n O B z T sc s I0) (hB : ∀ p, p < z → B p < 256) {fu : Nat} (h1 : PX2 n O B z T T0 sc s I0 fu) : PX1 n O B z T T0 sc s I0 (fu + 1) := by
  intro o i q st I ho hf hK hqi
  have hrec : ∀ i q st I, KS B z T sc I0 I i q st → q ≤ i → ResV B z T sc s I0 i q st (Ok1 n O B z T T0 s o i) (Fl1 n O B z T T0 s o i) (D1 o) (f5_rec n O fu 2 I 324 (nI o)) := fun i q st I hK hq => h1 o i q st I ho (by omega) hK hq
  show ResV B z T sc s I0 i q st _ _ (D1 o + 1) (f5_readProduct_b n I O (f5_rec n O fu) 324 (nI o))
  rw [f5_readProduct_b]
  have hT := hx.2.2.2.2.2.1
  have hn := hx.1
  rcases hrec i q st I hK hqi with ⟨I2, j2, q2, st2, w, r1, r2, r3, r4, r5, r6, r7, r8⟩ | ⟨I2, f, j2, r1, r2, r3⟩
  · rw [r1, qb, if_neg (show ¬ (1 : Int32) = 0 by decide)]
    exact x_prodL hx hrec hB hqi (T - j2) j2 n I2 q2 st2 w 0 rfl (by omega) r2 r3 (by omega) r4 r5 r6 (VX_mono r7 (by omega)) (Ok_1V r8)
  · rw [r1, qb, if_pos rfl]
    exact Res_f rfl r2 (Fl_1V r3)
end RQ
