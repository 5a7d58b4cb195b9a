/-! foretold: both -/
section FS
variable {n : Nat} {I : TI} {O : TO} {N : TN} {G : TN}
theorem take_e (hO : OF O) (hN : NB N) {e : Nat} (h : RW I 2 e N) : ∃ I', f10_take I O 270 3 = some I' ∧ PWe O I I' N := by
  obtain ⟨I1, t0, t1, t2, t3, t4, t5, t6⟩ := takeW (I := I) (O := O) (wa := 270) (wb := 3) ⟨o_270_0 hO, o_270_1 hO, o_270_2 hO⟩ ⟨o_273_0 hO, o_273_1 hO, o_273_2 hO⟩ ⟨o_3_0 hO, o_3_1 hO, o_3_2 hO⟩ ⟨o_6_0 hO, o_6_1 hO, o_6_2 hO⟩ (Or.inr (by omega))
  obtain ⟨w0, w1, w2, w3, w4, w5, w6, w7, w8⟩ := RW_WV hO h
  have b9 := pg_le hN
  have v9 : I 6 3 = nI (N 9) := h.1 9 (Or.inl (by omega))
  refine ⟨I1, t0, ⟨⟨o_270_0 hO, o_270_1 hO, o_270_2 hO, o_273_0 hO, o_273_1 hO⟩, by rw [t4]; exact w1, by rw [t5]; exact w2, fun r hr => by rw [t1 r hr]; exact w3 r hr, fun r p hr hp => by rw [t2 (r * 16 + p) (by omega)]; exact w4 r p hr hp, fun r p hr hp => ?_, fun c k hc hk => ?_, ?_, ?_⟩, ⟨N 9, b9, ?_⟩, fun a q1 q2 q3 q4 => t6 a (by omega)⟩
  · have := t3 (3 + (r * 16 + p)) (by omega)
    rw [show sa (3 + (r * 16 + p)) = 1 by unfold sa; rw [if_neg (by omega), if_pos (by omega)], show sk (3 + (r * 16 + p)) = r * 16 + p by unfold sk; rw [if_neg (by omega), if_neg (by omega), if_pos (by omega)]; omega] at this
    exact this.trans (w5 r p hr hp)
  · have := t3 (83 + (c * 6 + k)) (by omega)
    rw [show sa (83 + (c * 6 + k)) = 2 by unfold sa; rw [if_neg (by omega), if_neg (by omega), if_pos (by omega)], show sk (83 + (c * 6 + k)) = c * 6 + k by unfold sk; rw [if_neg (by omega), if_neg (by omega), if_neg (by omega), if_pos (by omega)]; omega] at this
    exact this.trans (w6 c k hc hk)
  · exact (t3 0 (by omega)).trans w7
  · exact (t3 1 (by omega)).trans w8
  · exact (t3 2 (by omega)).trans v9
theorem s_foretold (hn : 100000 ≤ n) (h : RE tX I O) (L : TL) (p1 p2 p3 : Int32) : ∃ (v : Int32) (I1 I2 : TI) (L2 : TL), f11_foretold n I O 1 p1 p2 p3 = some (v, I1) ∧ f12_foretold n I1 L O 331 p1 p2 p3 = some (v, I2, L2) ∧ RE tX I2 O := by
  obtain ⟨N, G, e, f, tp, h⟩ := h
  have hO := h.1
  have hV := RW_WV hO h.2.2.2.2.2.2.1
  have hN := h.2.2.2.1
  have hB := NB_WB hN
  have hM := h.2.1
  have hF := RW_fd h.2.2.2.2.2.2.1
  have b0 : N 0 ≤ 5 := hB.1
  have b1 : N 1 ≤ 4 := hB.2.1
  have e1 := o_1_0 hO
  have e2 := o_2_0 hO
  by_cases h1 : ((1 : Nat) : Int) ≤ p1.toInt ∧ p1.toInt ≤ ((60 : Nat) : Int)
  · obtain ⟨x, hx1, hx2, rfl⟩ := inB h1
    have n1 : ¬ nI x < 1 := fun q => by have := (nI_ltI (b := 1) (by omega) (by omega)).mp q; omega
    have n2 : ¬ (60 : Int32) < nI x := fun q => by have := (nI_ltI (a := 60) (by omega) (by omega)).mp q; omega
    have mi : f12_isIn (nI x) 1 60 = some (nI 1) := m_inT (a := 1) (b := 60) hx1 hx2 (by omega)
    by_cases h2 : inR p2 (N 1)
    · obtain ⟨c, hc, rfl⟩ := inR_of h2
      by_cases h3 : ((1 : Nat) : Int) ≤ p3.toInt ∧ p3.toInt ≤ ((5 : Nat) : Int)
      · obtain ⟨k, hk1, hk, rfl⟩ := inB h3
        have hb := hB.2.2.2.2.2.2.1 c k (by omega) (by omega)
        have hx := x_heardBy hV hB hc hk1 (show k < 6 by omega)
        obtain ⟨lw, l1, l2⟩ := R_lw h
        obtain ⟨Ia, t1, t2⟩ := take_e hO hN h.2.2.2.2.2.2.1
        obtain ⟨I1, q1, q2⟩ := x_fore hn hO hN hF l1 t2 hx2 hc hk1 (show k < 6 by omega)
        have r1 : R0 tX I1 O N G e f tp := R0_sc tXst h ⟨fun a ha => q2 a (by omega) (by omega) (by omega) (by omega), q2 279 (by omega) (by omega) (by omega) (by omega), by rw [q2 278 (by omega) (by omega) (by omega) (by omega)], fun a g1 g2 => q2 a (by omega) (by omega) (by omega) (by omega), ⟨by rw [q2 324 (by omega) (by omega) (by omega) (by omega)], by rw [q2 324 (by omega) (by omega) (by omega) (by omega)]⟩, ⟨by rw [q2 331 (by omega) (by omega) (by omega) (by omega)], by rw [q2 331 (by omega) (by omega) (by omega) (by omega)], by rw [q2 331 (by omega) (by omega) (by omega) (by omega)], by rw [q2 331 (by omega) (by omega) (by omega) (by omega)]⟩, fun a g1 g2 => q2 a (by omega) (by omega) (by omega) (by omega)⟩
        have hM1 := r1.2.1
        obtain ⟨Ja, u1, u2, u3⟩ := m_fore33 (n := n) (L := L) hO hM1 (x := nI x) (c := nI c) (k := nI k) 107 7 n I1 (by omega) (by omega) (by omega) (fun _ _ => rfl) (fun t g1 g2 => by omega)
        have hMa : MV (sI Ja 331 23 0) O N := MV_fr hM1 (by rw [sI_o _ _ (by omega)]; exact u2 332 (by omega))
        obtain ⟨I2, L2, y1, y2, y3, y4, y5⟩ := m_fore68 (n := n) (L := L) (lw := lw) (x := x) (c := c) (k := k) hn hO hN (J0 := sI Ja 331 23 0) (sI_s _ _ _ _) (LM_fr l2 (by rw [sI_o _ _ (by omega), u2 334 (by omega)]; exact q2 334 (by omega) (by omega) (by omega) (by omega))) ⟨hMa, hN, JM_r _⟩ (fun t g1 g2 => by rw [sI_o _ _ (by omega)]; exact u3 t g1 g2) hx2 (by omega) (by omega)
        refine ⟨nI (Hd (fo (fp1 lw) x 0 N) c k), I1, I2, L2, ?_, ?_, N, G, e, f, tp, R0_z tXst r1 y2 (fun a g1 g2 g3 => by rw [y5 a g1 g2 (by omega) (by omega), sI_o _ _ g1]; exact u2 a (by omega)) (fun j g => ?_)⟩
        · rw [f11_foretold, if_neg n1, if_neg n2, e1, e2, hx, qb, if_neg (show ¬ nI (Hd N c k) = -1 from neg_ne (by omega)), o_1_2 hO, t1, qb]
          exact q1
        · rw [f12_foretold, mi, qb, if_neg (by decide), m_isChild hM1 hB hc, qb, if_neg (by decide), show f12_isIn (nI k) 1 5 = some (nI 1) from m_inT (a := 1) (b := 5) hk1 hk (by omega), qb, if_neg (by decide)]
          exact u1.trans y1
        · by_cases z : j = 23
          · subst z; rw [y3]; exact r1.2.2.2.2.2.2.2.2.2.2.1.symm
          · rw [y4 j z (by omega), sI_k _ _ z, u2 331 (by omega)]
      · refine ⟨-1, I, I, L, ?_, ?_, N, G, e, f, tp, h⟩
        · rw [f11_foretold, if_neg n1, if_neg n2, e1, e2, x_noHeard hV hB hc h3, qb, if_pos rfl]
        · rw [f12_foretold, mi, qb, if_neg (by decide), m_isChild hM hB hc, qb, if_neg (by decide), show f12_isIn p3 1 5 = some (nI 0) from m_inF (a := 1) (b := 5) h3 (by omega) (by omega), qb, if_pos (show nI 0 = 0 from rfl)]
    · refine ⟨-1, I, I, L, ?_, ?_, N, G, e, f, tp, h⟩
      · rw [f11_foretold, if_neg n1, if_neg n2, e1, e2, x_noHeardC hV hB h2, qb, if_pos rfl]
      · rw [f12_foretold, mi, qb, if_neg (by decide), m_noChild hM hB h2, qb, if_pos rfl]
  · have mi : f12_isIn p1 1 60 = some (nI 0) := m_inF (a := 1) (b := 60) h1 (by omega) (by omega)
    refine ⟨-1, I, I, L, ?_, ?_, N, G, e, f, tp, h⟩
    · have z1 : p1 < 1 ↔ p1.toInt < 1 := by rw [i_lt]; rfl
      have z2 : 60 < p1 ↔ 60 < p1.toInt := by rw [i_lt]; rfl
      by_cases g : p1 < 1
      · rw [f11_foretold, if_pos g]
      · have g' : ¬ p1.toInt < 1 := fun w => g (z1.mpr w)
        rw [f11_foretold, if_neg g, if_pos (z2.mpr (by omega))]
    · rw [f12_foretold, mi, qb, if_pos (show nI 0 = 0 from rfl)]
end FS
