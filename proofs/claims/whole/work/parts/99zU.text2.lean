/-! the step text -/
theorem rO_sO {O : TO} {a k b j : Nat} {v : Option Nat} (h : ¬ (b = a ∧ j = k)) : rO (sO O a k v) b j = rO O b j := by
  unfold rO sO va_up
  by_cases w : b = a
  · rw [if_pos w, if_neg (fun g => h ⟨w, g⟩), w]
  · rw [if_neg w]
theorem rO_sO_s {O : TO} {a k t : Nat} : rO (sO O a k (some t)) a k = t := by
  unfold rO sO va_up
  rw [if_pos rfl, if_pos rfl]; rfl
theorem oTab_no : ∀ q, q ∈ oTab → ¬ (q.1 = 324 ∧ q.2.1 = 1) := by decide
theorem OF_sO {O : TO} (h : OF O) (v : Option Nat) : OF (sO O 324 1 v) := by
  obtain ⟨h1, h2, h3, h4⟩ := h
  refine ⟨fun q hq => by rw [rO_sO (oTab_no q hq)]; exact h1 q hq, fun k hk => ?_, fun k hk => ?_, fun k hk => ?_⟩
  · rw [rO_sO (by omega), rO_sO (by omega), rO_sO (by omega), rO_sO (by omega)]; exact h2 k hk
  · rw [rO_sO (by omega), rO_sO (by omega), rO_sO (by omega), rO_sO (by omega)]; exact h3 k hk
  · rw [rO_sO (by omega), rO_sO (by omega), rO_sO (by omega), rO_sO (by omega), rO_sO (by omega), rO_sO (by omega)]; exact h4 k hk
section SX
variable {n : Nat} {I : TI} {O : TO}
theorem s_text (hn : 100000 ≤ n) (h : RE tX I O) (L : TL) : ∃ (v : Int32) (I1 I2 : TI) (L2 : TL) (O1 : TO), f11_text n I O 1 = some (v, I1, O1) ∧ f12_text n I1 L O1 331 = some (v, I2, L2) ∧ RE tX I2 O1 ∧ (O1 = O ∨ ∃ t, t < 4 ∧ O1 = sO O 324 1 (some (300 + 6 * t))) := by
  have h0 := h
  obtain ⟨N, G, e, f, tp, h⟩ := h
  have hO := h.1
  have hV := RW_WV hO h.2.2.2.2.2.2.1
  have hN := h.2.2.2.1
  have hB := NB_WB hN
  have hM := h.2.1
  have hF := RW_fd h.2.2.2.2.2.2.1
  have b0 : N 0 ≤ 5 := hB.1
  have b1 : N 1 ≤ 4 := hB.2.1
  have f2 : I 2 8 = nI (N 2) := hF.2.2.2.1
  have m2 := hM.2 2 (by omega)
  have b2 : N 2 ≤ 4 := hN.2.2.1
  have e1 := o_1_0 hO
  have n0 : ¬ nI (N 2) < 0 := fun g => by have := (nI_ltI (b := 0) (by omega) (by omega)).mp g; omega
  by_cases t4 : N 2 = 4
  · refine ⟨-1, I, I, L, O, ?_, ?_, h0, Or.inl rfl⟩
    · rw [f11_text, e1, f2, if_neg n0, if_neg (show ¬ nI (N 2) < 4 from fun g => by have := (nI_ltI (b := 4) (by omega) (by omega)).mp g; omega)]
    · rw [f12_text, hM.1, m2, if_pos (show nI (N 2) = 4 by rw [t4]; rfl)]
  · have ht : N 2 < 4 := by omega
    obtain ⟨c1, c2, c3, c4, c5, c6, c7, c8, c9, c10, c11, c12⟩ := h
    obtain ⟨p1, p2, p3, p4⟩ := c9
    -- the bytes
    have hby : ∀ p, p < tp → (I 279 p).toNatClampNeg < 256 ∧ I 279 p = nI (I 279 p).toNatClampNeg ∧ I 335 p = nI (I 279 p).toNatClampNeg := fun p hp => by
      obtain ⟨b, g1, g2, g3⟩ := p4 p hp
      have : (I 279 p).toNatClampNeg = b := by rw [g2]; exact qcl (by omega)
      rw [this]; exact ⟨g1, g2, g3⟩
    have hBX : BX0 I (fun p => (I 279 p).toNatClampNeg) tp := ⟨p1, p2, fun p hp => ⟨(hby p hp).1, (hby p hp).2.1⟩⟩
    have hBM : BM0 I (fun p => (I 279 p).toNatClampNeg) tp := ⟨p1, p3, fun p hp => ⟨(hby p hp).1, (hby p hp).2.2⟩⟩
    generalize (fun p => (I 279 p).toNatClampNeg) = B at hBX hBM
    have hB8 : ∀ p, p < tp → B p < 256 := fun p hp => (hBX.2.2 p hp).1
    obtain ⟨Ic, T, q1, q2, q3, q4, q5⟩ := x_cut hn hO hBX
    obtain ⟨ct1, ct2, ct3, ct4⟩ := q2
    obtain ⟨os0, os1, os2, os3, os4, os5⟩ := hO.2.2.2 (N 2) ht
    -- the reader begins
    let O1 := sO O 324 1 (some (300 + 6 * N 2))
    have hO1 : OF O1 := OF_sO hO _
    have r1 : rO O1 324 1 = 300 + 6 * N 2 := rO_sO_s
    obtain ⟨-, ps0, ps1, ps2, ps3, ps4⟩ := hO1.2.2.2 (N 2) ht
    let Id := sI (sI (flI (sI (sI Ic (300 + 6 * N 2) 5 0) (300 + 6 * N 2) 6 0) (300 + 6 * N 2 + 5) 3 (-1)) 324 6 0) 324 7 (-1)
    have dO : ∀ a, a ≠ 324 → a ≠ 300 + 6 * N 2 → a ≠ 300 + 6 * N 2 + 5 → Id a = Ic a := fun a g1 g2 g3 => by
      show sI _ _ _ _ a = _
      rw [sI_o _ _ g1, sI_o _ _ g1]
      unfold flI va_up
      rw [if_neg g3, sI_o _ _ g2, sI_o _ _ g2]
    have d5 : Id (300 + 6 * N 2) 5 = nI 0 := by
      show sI _ _ _ _ _ _ = _
      rw [sI_o _ _ (by omega), sI_o _ _ (by omega)]
      unfold flI va_up
      rw [if_neg (by omega), sI_k _ _ (by omega), sI_s]; rfl
    have d6 : Id (300 + 6 * N 2) 6 = nI 0 := by
      show sI _ _ _ _ _ _ = _
      rw [sI_o _ _ (by omega), sI_o _ _ (by omega)]
      unfold flI va_up
      rw [if_neg (by omega), sI_s]; rfl
    have dl : ∀ s, s < 3 → Id (300 + 6 * N 2 + 5) s = -1 := fun s hs => by
      show sI _ _ _ _ _ _ = _
      rw [sI_o _ _ (by omega), sI_o _ _ (by omega)]
      unfold flI va_up
      rw [if_pos rfl, if_pos hs]
    have d324 : ∀ k, k ≠ 6 → k ≠ 7 → Id 324 k = Ic 324 k := fun k g1 g2 => by
      show sI _ _ _ _ _ _ = _
      rw [sI_k _ _ g2, sI_k _ _ g1]
      unfold flI va_up
      rw [if_neg (by omega), sI_o _ _ (by omega), sI_o _ _ (by omega)]
    have rd : ∀ (m : Nat), f5_read n Ic O 324 (300 + 6 * N 2) = (f5_comeTo Id O1 324 0).bind fun r8 => f5_read_c29 n n r8 O1 324 (0 : Int32) := fun _ => by
      rw [f5_read, qbl]
      show (f7_clear Ic O1 (rO O1 324 1)).bind _ = _
      rw [r1, f7_clear, qbl, qbl, ps4, qbl, qb, qbl, qbl]
    -- a state at the first token
    have x278 : Ic 278 = Ic 278 := rfl
    have tk0 : Kx0 n O1 B tp T (300 + 6 * N 2) Id := by
      refine ⟨hn, hO1, r1, ps0, by omega, q4, q3, p1, ?_⟩
      rw [dO 278 (by omega) (by omega) (by omega), dO 280 (by omega) (by omega) (by omega), dO 281 (by omega) (by omega) (by omega), dO 282 (by omega) (by omega) (by omega)]
      exact ⟨by rw [ct2 4 (by omega)]; exact p2, ct3, ct4⟩
    obtain ⟨t1, t2, t3⟩ := ct4 0 (by omega)
    have come0 : f5_comeTo Id O1 324 (nI 0) = some (sI (sI (sI Id 324 2 (nI 0)) 324 3 (nI (kdT B tp 0))) 324 4 (nI (min 10000 (nvT B tp 0)))) := by
      have x1 : Id 278 5 = nI (T + 1) := by rw [dO 278 (by omega) (by omega) (by omega)]; exact ct3
      have x2 : Id 280 0 = nI (kdT B tp 0) := by rw [dO 280 (by omega) (by omega) (by omega)]; exact t1
      have x3 : Id 282 0 = nI (min 10000 (nvT B tp 0)) := by rw [dO 282 (by omega) (by omega) (by omega)]; exact t3
      have ng : ¬ (nI 0 < 0 ∨ 301 ≤ (nI 0).toNatClampNeg) := nI_in (by omega) (by omega)
      rw [f5_comeTo, qbl, if_neg (by decide), o_324_0 hO1, sI_o _ _ (show 278 ≠ 324 by omega), x1, if_neg (nle_i (by omega) (by omega) (by omega)), if_neg (by decide), f5_comeTo_c32, if_neg (by decide), if_neg ng, o_324_0 hO1, o_278_1 hO1, sI_o _ _ (show 280 ≠ 324 by omega), qcl (by omega), x2, f5_comeTo_c52, qbl, if_neg (by decide), if_neg (nI_in (by omega) (by omega)), o_324_0 hO1, o_278_3 hO1, sI_o _ _ (show 282 ≠ 324 by omega), sI_o _ _ (show 282 ≠ 324 by omega), qcl (by omega), x3, qbl]
    let Ie := sI (sI (sI Id 324 2 (nI 0)) 324 3 (nI (kdT B tp 0))) 324 4 (nI (min 10000 (nvT B tp 0)))
    have eO : ∀ a, a ≠ 324 → Ie a = Id a := fun a ha => by show sI _ _ _ _ a = _; rw [sI_o _ _ ha, sI_o _ _ ha, sI_o _ _ ha]
    have e6 : Ie 324 6 = 0 := by show sI _ _ _ _ _ _ = _; rw [sI_k _ _ (by omega), sI_k _ _ (by omega), sI_k _ _ (by omega)]; show sI _ _ _ _ _ _ = _; rw [sI_k _ _ (by omega), sI_s]
    have e7 : Ie 324 7 = -1 := by show sI _ _ _ _ _ _ = _; rw [sI_k _ _ (by omega), sI_k _ _ (by omega), sI_k _ _ (by omega)]; exact sI_s _ _ _ _
    have hcl : Cl0 n O1 B tp T (1065 * N 2) (300 + 6 * N 2) Ie := by
      refine ⟨hn, hO1, r1, ⟨N 2, ht, rfl⟩, by omega, q4, q3, p1, hB8, ?_⟩
      rw [eO 278 (by omega), eO 280 (by omega), eO 281 (by omega), eO 282 (by omega)]
      exact tk0.2.2.2.2.2.2.2.2
    have hkc : KC B tp T (300 + 6 * N 2) Ie Ie 0 0 0 (fun _ => 0) (fun _ => 0) (fun _ _ => 0) (fun _ => none) := by
      refine ⟨⟨fun _ _ _ => rfl, fun _ _ => rfl⟩, ⟨KF_self _ _, Nat.zero_le _, ?_, ?_, sI_s _ _ _ _, by rw [eO _ (by omega)]; exact d5, ⟨by omega, rfl, rfl⟩, fun k hk => absurd hk (Nat.not_lt_zero _)⟩, ⟨Nat.le_refl _, rfl, rfl⟩, by rw [eO _ (by omega)]; exact d6, by omega, fun k hk => absurd hk (Nat.not_lt_zero _), fun s hs => Or.inl ⟨rfl, by rw [eO _ (by omega)]; exact dl s hs⟩⟩
      · show sI _ _ _ _ _ _ = _; rw [sI_k _ _ (by omega), sI_k _ _ (by omega), sI_s]
      · show sI _ _ _ _ _ _ = _; rw [sI_k _ _ (by omega), sI_s]
    -- what the class leaves alone
    have cls : ∀ I', CFr (300 + 6 * N 2) Ie I' → ∀ a, a ≠ 324 → a ≠ 278 → a ≠ 280 → a ≠ 281 → a ≠ 282 → (a < 300 + 6 * N 2 ∨ 300 + 6 * N 2 + 5 < a) → I' a = I a := fun I' hf a g1 g2 g3 g4 g5 g6 => by
      rw [hf.1 a g1 g6, eO a g1, dO a g1 (by omega) (by omega), ct1 a g2 g3 g4 g5]
    have txt : ∀ (b : Int32) (I' : TI), f5_read_c29 n n Ie O1 324 (nI 0) = some (b, I', O1) → f11_text n I O 1 = (if b = 0 then some (((-1) : Int32), sI (sI I' 278 4 0) 1 10 1, O1) else some (nI (N 2), sI (sI (sI I' 278 4 0) 1 10 1) 2 8 (nI (N 2 + 1)), O1)) := fun b I' g => by
      have rd' := rd 0
      rw [show f5_comeTo Id O1 324 0 = some Ie from come0, qb, show f5_read_c29 n n Ie O1 324 0 = _ from g] at rd'
      rw [f11_text, e1, f2, if_neg n0, if_pos (show nI (N 2) < 4 from (nI_ltI (b := 4) (by omega) (by omega)).mpr ht), o_1_4 hO, q1, qb, if_neg (nI_in (by omega) (by omega)), o_1_5 hO, o_1_3 hO, qcl (by omega), os0, rd', qb]
      show bl (sI I' (rO O1 1 4) 4 0) _ = _
      rw [o_1_4 hO1, qbl, qbl, o_1_0 hO1, nI_1, qbl]
    -- the reference begins
    have ref0 : ∀ J, (∀ k, k ≠ 10 → k ≠ 8 → True) → J 331 = I 331 → J 334 = I 334 → J 335 = I 335 → J 332 = I 332 → ∃ J2 L2, f12_text n J L O1 331 = ((f12_readText_c43 n O1 n J2 L2 331).bind fun r3 => bl (sI r3.2.1 331 5 r3.1) fun I5 => (if (I5 331 5) = 0 then f12_text_c36 n O1 I5 r3.2.2 331 (-1 : Int32) 331 else f12_text_c36 n O1 I5 r3.2.2 331 (I5 331 8) 331)) ∧ RS B tp T (1065 * N 2) J J2 L2 0 0 [] (fun _ => 0) (fun _ _ => 0) (fun _ => none) := by
      intro J _ j1 j2 j3 j4
      let K1 := sI (sI (sI (sI (sI J 331 12 (nI (1065 * N 2))) 334 (1065 * N 2) 0) 331 13 0) 331 19 0) 331 7 0
      have k1 : ∀ a, a ≠ 331 → a ≠ 334 → K1 a = J a := fun a g1 g2 => by show sI _ _ _ _ a = _; rw [sI_o _ _ g1, sI_o _ _ g1, sI_o _ _ g1, sI_o _ _ g2, sI_o _ _ g1]
      have k2 : ∀ k, k ≠ 12 → k ≠ 13 → k ≠ 19 → k ≠ 7 → K1 331 k = J 331 k := fun k g1 g2 g3 g4 => by show sI _ _ _ _ _ _ = _; rw [sI_k _ _ g4, sI_k _ _ g3, sI_k _ _ g2, sI_o _ _ (by omega), sI_k _ _ g1]
      have k3 : ∀ x, x ≠ 1065 * N 2 → K1 334 x = J 334 x := fun x g => by show sI _ _ _ _ _ _ = _; rw [sI_o _ _ (by omega), sI_o _ _ (by omega), sI_o _ _ (by omega), sI_k _ _ g, sI_o _ _ (by omega)]
      have k4 : K1 334 (1065 * N 2) = nI 0 := by show sI _ _ _ _ _ _ = _; rw [sI_o _ _ (by omega), sI_o _ _ (by omega), sI_o _ _ (by omega), sI_s]; rfl
      have k5 : K1 331 12 = nI (1065 * N 2) := by show sI _ _ _ _ _ _ = _; rw [sI_k _ _ (by omega), sI_k _ _ (by omega), sI_k _ _ (by omega), sI_o _ _ (by omega), sI_s]
      have k6 : K1 331 13 = nI 0 := by show sI _ _ _ _ _ _ = _; rw [sI_k _ _ (by omega), sI_k _ _ (by omega), sI_s]; rfl
      have k7 : K1 331 19 = nI 0 := by show sI _ _ _ _ _ _ = _; rw [sI_k _ _ (by omega), sI_s]; rfl
      have hbm : BM0 K1 B tp := ⟨p1, by rw [k2 4 (by omega) (by omega) (by omega) (by omega), j1]; exact p3, fun p hp => by rw [k1 335 (by omega) (by omega), j3]; exact hBM.2.2 p hp⟩
      obtain ⟨J2, L2, u1, u2, u3⟩ := m_tok0 (n := n) (L := L) hn hO1 hbm (sI_s _ _ _ _)
      have e334 : J2 334 = K1 334 := u3.1 334 (by omega)
      refine ⟨J2, L2, ?_, u2, Nat.zero_le _, Nat.le_refl _, ⟨⟨by rw [u3.2 13 (by omega) (by omega) (by omega) (by omega)]; exact k6, fun k hk => absurd hk (Nat.not_lt_zero _)⟩, fun p hp => absurd hp List.not_mem_nil, by rw [u3.2 12 (by omega) (by omega) (by omega) (by omega)]; exact k5, by rw [e334]; exact k4, by omega, fun k hk => absurd hk (Nat.not_lt_zero _), fun s hs => Or.inl ⟨rfl, fun k hk => absurd hk (Nat.not_lt_zero _)⟩⟩, by rw [u3.2 19 (by omega) (by omega) (by omega) (by omega)]; exact k7, ⟨fun a g1 g2 g3 => by rw [u3.1 a g1]; exact k1 a g1 g2, fun k hk => by rw [u3.2 k (by omega) (by omega) (by omega) (by omega)]; exact k2 k (by omega) (by omega) (by omega) (by omega), fun x hx => by rw [e334]; exact k3 x (by omega)⟩⟩
      have em : J 332 2 = nI (N 2) := by rw [j4]; exact m2
      have hM1 : rO O1 331 0 = 332 := o_331_0 hO1
      rw [f12_text, hM1, em, if_neg (show ¬ nI (N 2) = 4 from fun g => t4 (by rw [show (4 : Int32) = nI 4 from rfl, nI_eq (by omega) (by omega)] at g; exact g)), f12_readText, hM1, em, show (1065 : Int32) * nI (N 2) = nI (1065 * N 2) from qmul 1065 _, qbl, sI_s, if_neg (nI_in (by omega) (by omega)), o_331_2 hO1, qcl (by omega), qbl, qbl, qbl, qbl, show f12_nextToken n (sI (sI (sI (sI (sI J 331 12 (nI (1065 * N 2))) 334 (1065 * N 2) 0) 331 13 0) 331 19 0) 331 7 0) L O1 331 = _ from u1, qb]
    rcases x_loop hcl (T - 0) 0 0 0 _ _ _ _ Ie n rfl (by omega) hkc with ⟨I', i', nc', q', st', so', pa', lw', a1, a2, a3⟩ | ⟨I', f', j, a1, a2, a3, a4, a5, a6, a7⟩
    · -- a good text
      have cf := cls I' a2.1
      let I1 := sI (sI (sI I' 278 4 0) 1 10 1) 2 8 (nI (N 2 + 1))
      have i1O : ∀ a, a ≠ 278 → a ≠ 1 → a ≠ 2 → I1 a = I' a := fun a g1 g2 g3 => by show sI _ _ _ _ a = _; rw [sI_o _ _ g3, sI_o _ _ g2, sI_o _ _ g1]
      have i1f : ∀ a, a ≠ 278 → a ≠ 1 → a ≠ 2 → a ≠ 324 → a ≠ 280 → a ≠ 281 → a ≠ 282 → (a < 300 + 6 * N 2 ∨ 300 + 6 * N 2 + 5 < a) → I1 a = I a := fun a g1 g2 g3 g4 g5 g6 g7 g8 => by rw [i1O a g1 g2 g3]; exact cf a g4 g1 g5 g6 g7 g8
      obtain ⟨J2, L2, b1, b2⟩ := ref0 I1 (fun _ _ _ => trivial) (i1f 331 (by omega) (by omega) (by omega) (by omega) (by omega) (by omega) (by omega) (by omega)) (i1f 334 (by omega) (by omega) (by omega) (by omega) (by omega) (by omega) (by omega) (by omega)) (i1f 335 (by omega) (by omega) (by omega) (by omega) (by omega) (by omega) (by omega) (by omega)) (i1f 332 (by omega) (by omega) (by omega) (by omega) (by omega) (by omega) (by omega) (by omega))
      obtain ⟨J3, L3, cd, b3, b4⟩ := a3 I1 J2 L2 [] n b2 (by omega)
      have rf := b4.2.2.2.2.2
      let I2 := sI (sI (sI (sI J3 331 5 0) 331 6 (-1)) 331 4 0) 332 2 (nI (N 2 + 1))
      have i2O : ∀ a, a ≠ 331 → a ≠ 332 → I2 a = J3 a := fun a g1 g2 => by show sI _ _ _ _ a = _; rw [sI_o _ _ g2, sI_o _ _ g1, sI_o _ _ g1, sI_o _ _ g1]
      have i2f : ∀ a, a ≠ 331 → a ≠ 332 → a ≠ 334 → a ≠ 336 → I2 a = I1 a := fun a g1 g2 g3 g4 => by rw [i2O a g1 g2]; exact rf.1 a g1 g3 g4
      have x332 : J3 332 = I 332 := by rw [rf.1 332 (by omega) (by omega) (by omega)]; exact i1f 332 (by omega) (by omega) (by omega) (by omega) (by omega) (by omega) (by omega) (by omega)
      refine ⟨nI (N 2), I1, I2, L3, O1, by rw [txt 1 I' a1, if_neg (by decide)], ?_, ⟨upN N 2 (N 2 + 1), G, e, f, 0, hO1, ?_, fun t ht' => ?_, ?_, c5, ?_, ?_, ?_, ?_, ?_, ?_, fun t ht' => ?_⟩, Or.inr ⟨N 2, ht, rfl⟩⟩
      · rw [b1, b3, qb]
        show bl (sI J3 331 5 0) _ = _
        rw [qbl, sI_s, if_pos rfl, f12_text_c36, qbl, qbl, sI_k _ _ (by omega), sI_k _ _ (by omega), sI_s, if_pos rfl, o_331_0 hO1, sI_o _ _ (by omega), sI_o _ _ (by omega), sI_o _ _ (by omega), x332, m2, nI_1, qbl, sI_s, show nI (N 2 + 1) - 1 = nI (N 2) from qsub (b := 1) (by omega)]
      · have : MV (sI (sI (sI J3 331 5 0) 331 6 (-1)) 331 4 0) O1 N := ⟨o_331_0 hO1, fun t ht' => by rw [sI_o _ _ (by omega), sI_o _ _ (by omega), sI_o _ _ (by omega), x332]; exact hM.2 t ht'⟩
        exact MV_up this
      · rw [i2f 333 (by omega) (by omega) (by omega) (by omega), i1f 333 (by omega) (by omega) (by omega) (by omega) (by omega) (by omega) (by omega) (by omega)]; exact c3 t ht'
      · exact NB_up hN ⟨fun g => by omega, fun g => by omega, fun _ => ⟨by omega, by omega⟩, fun g => by omega, by omega, fun g => by omega, fun g => by omega⟩ ⟨fun g => by omega, fun g => by omega, fun g => by omega, fun g => by omega, fun g => by omega, fun g => by omega, fun g => by omega, fun g => by omega, fun g => by omega, by omega, fun g => by omega⟩
      · rw [upN_s]; omega
      · refine RW_fr (I := sI I 2 8 (nI (N 2 + 1))) (RW_up c7 hN.2.2.2.2.1 (Or.inl (by omega)) (by omega) 2 8 (by simp (disch := omega) only [la, qL, qb, qbl, qadd, qmul, qsubm, qdm, qsub, qdiv, qcl, qlt, qle, qeq, nltT, nltF, nleT, nleF, neqT, neqF, or_false, false_or, or_true, true_or, or_self, and_true, true_and, and_false, false_and, and_self, not_true_eq_false, not_false_eq_true, ↓reduceIte]) (by simp (disch := omega) only [lk, qL, qb, qbl, qadd, qmul, qsubm, qdm, qsub, qdiv, qcl, qlt, qle, qeq, nltT, nltF, nleT, nleF, neqT, neqF, or_false, false_or, or_true, true_or, or_self, and_true, true_and, and_false, false_and, and_self, not_true_eq_false, not_false_eq_true, ↓reduceIte])) (fun a g1 g2 => ?_)
        rw [i2f a (by omega) (by omega) (by omega) (by omega)]
        by_cases w : a = 2
        · subst w
          funext k
          by_cases v : k = 8
          · subst v
            rw [sI_s]; exact sI_s _ _ _ _
          · rw [sI_k _ _ v]
            show sI _ _ _ _ _ _ = _
            rw [sI_k _ _ v, sI_o _ _ (by omega), sI_o _ _ (by omega), cf 2 (by omega) (by omega) (by omega) (by omega) (by omega) (by omega)]
        · rw [sI_o _ _ w]
          exact i1f a (by omega) (by omega) w (by omega) (by omega) (by omega) (by omega) (by omega)
      · exact RW_fr c8 (fun a g1 g2 => by rw [i2f a (by omega) (by omega) (by omega) (by omega)]; exact i1f a (by omega) (by omega) (by omega) (by omega) (by omega) (by omega) (by omega) (by omega))
      · refine ⟨by omega, ?_, ?_, fun k hk => absurd hk (Nat.not_lt_zero _)⟩
        · rw [i2f 278 (by omega) (by omega) (by omega) (by omega)]
          show sI _ _ _ _ _ _ = _
          rw [sI_o _ _ (by omega), sI_o _ _ (by omega), sI_s]; rfl
        · show sI _ _ _ _ _ _ = _
          rw [sI_o _ _ (by omega), sI_s]; rfl
      · refine Or.inr ⟨?_, ?_, ?_⟩
        · rw [i2f 1 (by omega) (by omega) (by omega) (by omega)]
          show sI _ _ _ _ _ _ = _
          rw [sI_o _ _ (by omega), sI_s]
        · rw [i2f 324 (by omega) (by omega) (by omega) (by omega), i1O 324 (by omega) (by omega) (by omega), a2.2.2.1.2.1, e6]
          show _ = sI _ _ _ _ _ _
          rw [sI_o _ _ (by omega), sI_k _ _ (by omega), sI_k _ _ (by omega), sI_s]
        · rw [i2f 324 (by omega) (by omega) (by omega) (by omega), i1O 324 (by omega) (by omega) (by omega), a2.2.2.1.2.2, e7]
          show _ = sI _ _ _ _ _ _
          rw [sI_o _ _ (by omega), sI_k _ _ (by omega), sI_s]
      · show sI _ _ _ _ _ _ = _
        rw [sI_o _ _ (by omega), sI_k _ _ (by omega), sI_k _ _ (by omega), sI_k _ _ (by omega), rf.2.1 23 (by omega), i1f 331 (by omega) (by omega) (by omega) (by omega) (by omega) (by omega) (by omega) (by omega)]; exact c11
      · rw [upN_s] at ht'
        by_cases w : t = N 2
        · rw [w]
          exact tX_new (I2 := I2) ht q4 a2 b4 (fun a g1 g2 => by rw [i2f a (by omega) (by omega) (by omega) (by omega)]; exact i1O a (by omega) (by omega) (by omega)) (i2O 334 (by omega) (by omega))
        · refine tX_fr (fun a g1 g2 => ?_) (fun x g1 g2 => ?_) (c12 t (by omega))
          · rw [i2f a (by omega) (by omega) (by omega) (by omega)]; exact i1f a (by omega) (by omega) (by omega) (by omega) (by omega) (by omega) (by omega) (by omega)
          · rw [i2O 334 (by omega) (by omega), rf.2.2 x (by omega), i1f 334 (by omega) (by omega) (by omega) (by omega) (by omega) (by omega) (by omega) (by omega)]
    · -- a fault
      have cf := cls I' a2
      let I1 := sI (sI I' 278 4 0) 1 10 1
      have i1O : ∀ a, a ≠ 278 → a ≠ 1 → I1 a = I' a := fun a g1 g2 => by show sI _ _ _ _ a = _; rw [sI_o _ _ g2, sI_o _ _ g1]
      have i1f : ∀ a, a ≠ 278 → a ≠ 1 → a ≠ 324 → a ≠ 280 → a ≠ 281 → a ≠ 282 → (a < 300 + 6 * N 2 ∨ 300 + 6 * N 2 + 5 < a) → I1 a = I a := fun a g1 g2 g4 g5 g6 g7 g8 => by rw [i1O a g1 g2]; exact cf a g4 g1 g5 g6 g7 g8
      obtain ⟨J2, L2, b1, b2⟩ := ref0 I1 (fun _ _ _ => trivial) (i1f 331 (by omega) (by omega) (by omega) (by omega) (by omega) (by omega) (by omega)) (i1f 334 (by omega) (by omega) (by omega) (by omega) (by omega) (by omega) (by omega)) (i1f 335 (by omega) (by omega) (by omega) (by omega) (by omega) (by omega) (by omega)) (i1f 332 (by omega) (by omega) (by omega) (by omega) (by omega) (by omega) (by omega))
      obtain ⟨J3, L3, b3, b4, rf⟩ := a7 I1 J2 L2 [] n b2 (by omega)
      let I2 := sI (sI (sI J3 331 5 (nI f')) 331 6 (nI (stT B tp j))) 331 4 0
      have i2O : ∀ a, a ≠ 331 → I2 a = J3 a := fun a g1 => by show sI _ _ _ _ a = _; rw [sI_o _ _ g1, sI_o _ _ g1, sI_o _ _ g1]
      have i2f : ∀ a, a ≠ 331 → a ≠ 334 → a ≠ 336 → I2 a = I1 a := fun a g1 g3 g4 => by rw [i2O a g1]; exact rf.1 a g1 g3 g4
      have f0 : ¬ nI f' = 0 := nI_ne0 (by omega) (by omega)
      refine ⟨-1, I1, I2, L3, O1, by rw [txt 0 I' a1, if_pos rfl], ?_, ⟨N, G, e, f, 0, hO1, ?_, fun t ht' => ?_, hN, c5, c6, ?_, ?_, ?_, ?_, ?_, fun t ht' => ?_⟩, Or.inr ⟨N 2, ht, rfl⟩⟩
      · rw [b1, b3, qb]
        show bl (sI J3 331 5 (nI f')) _ = _
        rw [qbl, sI_s, if_neg f0, sI_k _ _ (show (8 : Nat) ≠ 5 by omega), b4, f12_text_c36, qbl, qbl, sI_k _ _ (show (5 : Nat) ≠ 4 by omega), sI_k _ _ (show (5 : Nat) ≠ 6 by omega), sI_s, if_neg f0]
      · exact ⟨o_331_0 hO1, fun t ht' => by rw [i2f 332 (by omega) (by omega) (by omega), i1f 332 (by omega) (by omega) (by omega) (by omega) (by omega) (by omega) (by omega)]; exact hM.2 t ht'⟩
      · rw [i2f 333 (by omega) (by omega) (by omega), i1f 333 (by omega) (by omega) (by omega) (by omega) (by omega) (by omega) (by omega)]; exact c3 t ht'
      · exact RW_fr c7 (fun a g1 g2 => by rw [i2f a (by omega) (by omega) (by omega)]; exact i1f a (by omega) (by omega) (by omega) (by omega) (by omega) (by omega) (by omega))
      · exact RW_fr c8 (fun a g1 g2 => by rw [i2f a (by omega) (by omega) (by omega)]; exact i1f a (by omega) (by omega) (by omega) (by omega) (by omega) (by omega) (by omega))
      · refine ⟨by omega, ?_, ?_, fun k hk => absurd hk (Nat.not_lt_zero _)⟩
        · rw [i2f 278 (by omega) (by omega) (by omega)]
          show sI _ _ _ _ _ _ = _
          rw [sI_o _ _ (by omega), sI_s]; rfl
        · exact sI_s _ _ _ _
      · refine Or.inr ⟨?_, ?_, ?_⟩
        · rw [i2f 1 (by omega) (by omega) (by omega)]; exact sI_s _ _ _ _
        · rw [i2f 324 (by omega) (by omega) (by omega), i1O 324 (by omega) (by omega), a5]
          show _ = sI _ _ _ _ _ _
          rw [sI_k _ _ (by omega), sI_k _ _ (by omega), sI_s]
        · rw [i2f 324 (by omega) (by omega) (by omega), i1O 324 (by omega) (by omega), a6]
          show _ = sI _ _ _ _ _ _
          rw [sI_k _ _ (by omega), sI_s]
      · show sI _ _ _ _ _ _ = _
        rw [sI_k _ _ (by omega), sI_k _ _ (by omega), sI_k _ _ (by omega), rf.2.1 23 (by omega), i1f 331 (by omega) (by omega) (by omega) (by omega) (by omega) (by omega) (by omega)]; exact c11
      · refine tX_fr (fun a g1 g2 => ?_) (fun x g1 g2 => ?_) (c12 t ht')
        · rw [i2f a (by omega) (by omega) (by omega)]; exact i1f a (by omega) (by omega) (by omega) (by omega) (by omega) (by omega) (by omega)
        · rw [i2O 334 (by omega), rf.2.2 x (by omega), i1f 334 (by omega) (by omega) (by omega) (by omega) (by omega) (by omega) (by omega)]
end SX
