/-! a clause, read by both: keys, laws, all -/
section RD
variable {n : Nat} {O : TO} {B : TN} {z T T0 sc : Nat} {Ib I : TI} {i nc q : Nat} {st so : TN} {pa : Nat → TN} {lw : Lws}
theorem k_loop (hx : Kx0 n O B z T sc I) (hB : ∀ p, p < z → B p < 256) {i0 : Nat} (hq : q ≤ i0) : ∀ d r m I' st', r + d = 17 → d < m → KS B z T sc I I' (i0 + 2 * r) (q + r) st' → (∀ k, k < q → st' k = st k) → (∀ a, a < r → st' (q + a) = nvT B z (i0 + 2 * a)) → RlP B z i0 r → (∃ I3 st3 c, RlOk B z i0 c ∧ f5_readKeys_c12 n O m I' 324 (nI q) 1 (nI r) = f5_readKeys_c103 n O I3 324 (nI q) ∧ KS B z T sc I I3 (i0 + 2 * c + 1) (q + (c + 1)) st3 ∧ (∀ k, k < q → st3 k = st k) ∧ ∀ a, a < c + 1 → st3 (q + a) = nvT B z (i0 + 2 * a)) ∨ (∃ I3 f j, RlF B z i0 f j ∧ (1 ≤ f ∧ f ≤ 7) ∧ f5_readKeys_c12 n O m I' 324 (nI q) 1 (nI r) = some (0, I3) ∧ KFl B z T sc I I3 f j) := by
  have hT := hx.2.2.2.2.2.1
  have hT3 := hx.2.2.2.2.2.2.1
  intro d
  induction d with
  | zero =>
    intro r m I' st' hr hm hK h1 h2 hR
    have := hR.1
    omega
  | succ d ih =>
    intro r m I' st' hr hm hK h1 h2 hR
    obtain ⟨m, rfl⟩ : ∃ m', m = m' + 1 := ⟨m - 1, by omega⟩
    have r16 := hR.1
    have pre : f5_readKeys_c12 n O (m + 1) I' 324 (nI q) 1 (nI r) = (f5_isNumber I' O 324 (nI 0) (nI 5)).bind fun r3 => (if r3.1 = 0 then some ((0 : Int32), r3.2) else (if nI r = (16 : Int32) then (f5_refuse r3.2 O 324 (7 : Int32)).bind fun r13 => some (r13.1, r13.2) else (f7_add r3.2 O (rO O 324 1) (r3.2 324 4)).bind fun r8 => (f5_comeTo r8.2 O 324 ((r8.2 324 2) + 1)).bind fun r10 => (if (r10 324 3) = (44 : Int32) then f5_readKeys_c82 n O (f5_readKeys_c12 n O m) r10 324 (nI q) (nI r) (1 : Int32) else f5_readKeys_c82 n O (f5_readKeys_c12 n O m) r10 324 (nI q) (nI r) (0 : Int32)))) := by
      rw [f5_readKeys_c12, if_neg (show ¬ (16 : Int32) < nI r from fun g => by have := (nI_ltI (a := 16) (by omega) (by omega)).mp g; omega), if_neg (show ¬ (1 : Int32) = 0 by decide)]; rfl
    rw [pre]
    rcases y_isn hx hB hK (lo := 0) (hi := 5) (by omega) (by omega) with ⟨⟨a1, a2, a3⟩, a4⟩ | ⟨f, I3, a1, a2, a3⟩
    · rw [a4, qb, if_neg (show ¬ (1 : Int32) = 0 by decide)]
      by_cases w : r = 16
      · right
        obtain ⟨I3, q1, q2⟩ := y_ref hx hK (f := 7) ⟨by omega, by omega⟩
        refine ⟨I3, 7, i0 + 2 * r, ⟨r, hR, rfl, Or.inr ⟨w, ⟨a1, a3⟩, rfl⟩⟩, ⟨by omega, by omega⟩, ?_, q2⟩
        rw [if_pos (show nI r = 16 by rw [w]; rfl)]
        show (f5_refuse I' O 324 7).bind _ = _
        rw [show f5_refuse I' O 324 7 = _ from q1, qb]
      · have iT := kd_T hT3 hK.2.1 (show kdT B z (i0 + 2 * r) ≠ 27 by omega)
        have k4 : I' 324 4 = nI (nvT B z (i0 + 2 * r)) := by rw [hK.2.2.2.2.1, Nat.min_eq_right (by omega)]
        obtain ⟨I4, b1, b2⟩ := y_add hx hK (by omega) (by omega) (w := nvT B z (i0 + 2 * r)) (by omega)
        obtain ⟨I5, c1, c2⟩ := y_nxt hx b2 (by omega)
        have kl := kd_lt B z (i0 + 2 * r + 1) hB
        have k3 : I5 324 3 = nI (kdT B z (i0 + 2 * r + 1)) := c2.2.2.2.1
        rw [if_neg (show ¬ nI r = 16 from fun g => w (by rw [show (16 : Int32) = nI 16 from rfl, nI_eq (by omega) (by omega)] at g; exact g))]
        show (∃ I3 st3 c, RlOk B z i0 c ∧ ((f7_add I' O (rO O 324 1) (I' 324 4)).bind fun r8 => (f5_comeTo r8.2 O 324 ((r8.2 324 2) + 1)).bind fun r10 => (if (r10 324 3) = (44 : Int32) then f5_readKeys_c82 n O (f5_readKeys_c12 n O m) r10 324 (nI q) (nI r) (1 : Int32) else f5_readKeys_c82 n O (f5_readKeys_c12 n O m) r10 324 (nI q) (nI r) (0 : Int32))) = _ ∧ _) ∨ (∃ I3 f j, RlF B z i0 f j ∧ (1 ≤ f ∧ f ≤ 7) ∧ ((f7_add I' O (rO O 324 1) (I' 324 4)).bind fun r8 => (f5_comeTo r8.2 O 324 ((r8.2 324 2) + 1)).bind fun r10 => (if (r10 324 3) = (44 : Int32) then f5_readKeys_c82 n O (f5_readKeys_c12 n O m) r10 324 (nI q) (nI r) (1 : Int32) else f5_readKeys_c82 n O (f5_readKeys_c12 n O m) r10 324 (nI q) (nI r) (0 : Int32))) = _ ∧ _)
        rw [k4, b1, qb]
        have c1' : f5_comeTo (nI (q + r), I4).2 O 324 ((nI (q + r), I4).2 324 2 + 1) = some I5 := c1
        rw [c1', qb, k3]
        have s1 : ∀ k, k < q → upN st' (q + r) (nvT B z (i0 + 2 * r)) k = st k := fun k hk => by rw [upN_o _ (by omega)]; exact h1 k hk
        have s2 : ∀ a, a < r + 1 → upN st' (q + r) (nvT B z (i0 + 2 * r)) (q + a) = nvT B z (i0 + 2 * a) := fun a ha => by
          by_cases y : a = r
          · rw [y, upN_s]
          · rw [upN_o _ (by omega)]; exact h2 a (by omega)
        by_cases y : kdT B z (i0 + 2 * r + 1) = 44
        · obtain ⟨I6, e1, e2⟩ := y_nxt hx c2 (by omega)
          rw [if_pos (show nI (kdT B z (i0 + 2 * r + 1)) = 44 by rw [y]; rfl), f5_readKeys_c82, if_neg (show ¬ (1 : Int32) = 0 by decide), e1, qb, nI_1]
          exact ih (r + 1) m I6 (upN st' (q + r) (nvT B z (i0 + 2 * r))) (by omega) (by omega) (by rw [show i0 + 2 * (r + 1) = i0 + 2 * r + 1 + 1 by omega]; exact e2) s1 s2 ⟨by omega, fun a ha => by
            by_cases v : a = r
            · rw [v]; exact ⟨⟨a1, a3⟩, y⟩
            · exact hR.2 a (by omega)⟩
        · left
          obtain ⟨m', rfl⟩ : ∃ m', m = m' + 1 := ⟨m - 1, by omega⟩
          refine ⟨I5, upN st' (q + r) (nvT B z (i0 + 2 * r)), r, ⟨hR, by omega, ⟨a1, a3⟩, y⟩, ?_, c2, s1, s2⟩
          rw [if_neg (show ¬ nI (kdT B z (i0 + 2 * r + 1)) = 44 from nI_nk (c := 44) kl (by omega) y), f5_readKeys_c82, if_pos rfl, nI_1, f5_readKeys_c12]
          by_cases v : (16 : Int32) < nI (r + 1)
          · rw [if_pos v]
          · rw [if_neg v, if_pos rfl]
    · right
      have fr := NmF_r (B := B) (z := z) (i := i0 + 2 * r) (lo := 0) (hi := 5) (f := f) a3
      exact ⟨I3, f, i0 + 2 * r, ⟨r, hR, rfl, Or.inl a3⟩, fr, by rw [a1, qb, if_pos rfl], a2⟩
theorem b_roll (hx : Cl0 n O B z T T0 sc Ib) (hk : kdT B z i = 7) (hnc : nc < 24) {I1 : TI} (h : KC B z T sc Ib I1 (i + 1) nc q st so pa lw) : RcO n O B z T T0 sc Ib i nc so pa lw (f5_readKeys n I1 O 324) ∨ RcF n O B z T T0 sc Ib i nc so pa lw (f5_readKeys n I1 O 324) := by
  have hx0 := cl_kx hx h.1
  obtain ⟨s1, s2⟩ := cl_sc hx
  have hxx := hx
  obtain ⟨hn, hO, hs1, hsc, hT0, hT, hT3, hz, hB, -⟩ := hxx
  have h5 : I1 sc 5 = nI q := h.2.1.2.2.2.2.2.1
  have e0 : f5_readKeys n I1 O 324 = f5_readKeys_c12 n O n I1 324 (nI q) 1 (nI 0) := by rw [f5_readKeys, hs1, h5]; rfl
  rw [e0]
  rcases k_loop (n := n) (O := O) (st := st) hx0 hB (i0 := i + 1) (q := q) h.2.2.1.1 17 0 n I1 st (by omega) (by omega) h.2.1 (fun _ _ => rfl) (fun a ha => by omega) ⟨by omega, fun a ha => by omega⟩ with ⟨I3, st3, c, a1, a2, a3, a4, a5⟩ | ⟨I3, f, j, a1, a2, a3, a4⟩
  · left
    have c16 := a1.2.1
    have j3 := a3.2.1
    have hq1 := h.2.2.1
    have kc3 := kc_step s1 h a3 (by omega) (by omega) a4
    obtain ⟨I4, q1, q2⟩ := x_lay (P := fun a => if a = 0 then c + 1 else nvT B z (i + 1 + 2 * (a - 1))) hx kc3 hnc (k := 7) (by omega) (by omega) (f := nI q) (g := nI (c + 1)) (fun I' u1 u2 u3 => by
      unfold CxD
      rw [upN_s, paU_s]
      refine ⟨by decide, u1, fun _ => ⟨⟨by show 1 ≤ c + 1; omega, by show c + 1 ≤ 16; omega⟩, q, by show q + (c + 1) ≤ q + (c + 1); omega, u2, u3, fun a ha => ?_⟩, fun g => absurd g (by decide), fun g => absurd g (by decide)⟩
      have ha' : a < c + 1 := ha
      show (if 1 + a = 0 then c + 1 else nvT B z (i + 1 + 2 * (1 + a - 1))) ≤ 5 ∧ st3 (q + a) = if 1 + a = 0 then c + 1 else nvT B z (i + 1 + 2 * (1 + a - 1))
      rw [if_neg (by omega), show 1 + a - 1 = a by omega]
      refine ⟨?_, a5 a ha'⟩
      by_cases w : a = c
      · rw [w]; exact a1.2.2.1.2
      · exact (a1.1.2 a (by omega)).1.2)
    have e5 : I3 sc 5 = nI (q + (c + 1)) := a3.2.2.2.2.2.1
    refine ⟨I4, i + 1 + 2 * c + 1, q + (c + 1), st3, _, _, lw, ?_, q2, by omega, ?_⟩
    · rw [a2, f5_readKeys_c103, hs1, e5, qsub (by omega), show q + (c + 1) - q = c + 1 by omega, ← hs1, show f7_addClause I3 O (rO O 324 1) 7 (nI q) (nI (c + 1)) = _ from q1, qb]
    · have := bdO_b (i := i) (n := n) (O := O) (so := so) (pa := pa) (lw := lw) (P := fun a => if a = 0 then c + 1 else nvT B z (i + 1 + 2 * (a - 1))) (j := i + 1 + 2 * c + 1) hx (by omega) (by omega) hnc (fun Jb J1 L1 cd on hb => by
        obtain ⟨J', L', c1, c2, c3, c4⟩ := m_rollO hn hO hT0 hT3 hb hnc (x := T0 + 1 + 19 * nc) rfl a1
        refine ⟨J', L', ?_, c2, ?_⟩
        · rw [hk]
          show f12_body n J1 L1 O 331 3 (nI (T0 + 1 + 19 * nc)) = _
          rw [f12_body, if_pos rfl, c1, qb]
        · unfold MxD
          rw [upN_s, paU_s, hk]
          refine ⟨fun _ => ⟨by show c + 1 ≤ 16; omega, c3, fun a ha => ?_⟩, fun g => absurd g (by decide), fun g => absurd g (by decide)⟩
          have ha' : a < c + 1 := ha
          show _ = nI (if 1 + a = 0 then c + 1 else nvT B z (i + 1 + 2 * (1 + a - 1)))
          rw [if_neg (by omega), show 1 + a - 1 = a by omega]; exact c4 a ha')
      rw [hk] at this
      exact this
  · right
    refine rc_f hx h.1 (I' := I3) a3 a4 (bdF_b hx (by omega) (fun g => by omega) hnc a2 (fun Jb J1 L1 cd on hb => ?_))
    obtain ⟨J', L', c1, c2⟩ := m_rollF hn hO hT0 hT3 hb hnc (x := T0 + 1 + 19 * nc) rfl a1
    refine ⟨J', L', ?_, c2.1.2.2.1, c2.2.2.2.2.2.1⟩
    rw [hk]
    show f12_body n J1 L1 O 331 3 (nI (T0 + 1 + 19 * nc)) = _
    rw [f12_body, if_pos rfl, c1, qb]
theorem b_law (hx : Cl0 n O B z T T0 sc Ib) {s : Nat} (hk : kdT B z i = s) (hs : s < 3) (hl : lw s = none) (hnc : nc < 24) {I1 : TI} (h : KC B z T sc Ib I1 (i + 1) nc q st so pa lw) : RcO n O B z T T0 sc Ib i nc so pa lw (f5_readLaw n I1 O 324 (nI s)) ∨ RcF n O B z T T0 sc Ib i nc so pa lw (f5_readLaw n I1 O 324 (nI s)) := by
  obtain ⟨s1, s2⟩ := cl_sc hx
  have hxx := hx
  obtain ⟨hn, hO, hs1, hsc, hT0, hT, hT3, hz, hB, -⟩ := hxx
  have es : srt (kdT B z i) = s := by rw [(srt_ok (kdT B z i) (by omega)).2.2.2 (by omega), hk]
  -- the law's number is noted
  have h' : KC B z T sc Ib (sI I1 324 5 (nI s)) (i + 1) nc q st so pa lw := by
    obtain ⟨h1, h2, h3, h4, h5, h6, h7⟩ := h
    have eo : ∀ a, a ≠ 324 → sI I1 324 5 (nI s) a = I1 a := fun a ha => sI_o _ _ ha
    refine ⟨⟨fun a g1 g2 => by rw [eo a g1]; exact h1.1 a g1 g2, fun k hk => by rw [sI_k _ _ (by omega)]; exact h1.2 k hk⟩, ⟨KF_self _ _, h2.2.1, by rw [sI_k _ _ (by omega)]; exact h2.2.2.1, by rw [sI_k _ _ (by omega)]; exact h2.2.2.2.1, by rw [sI_k _ _ (by omega)]; exact h2.2.2.2.2.1, by rw [eo sc (by omega)]; exact h2.2.2.2.2.2.1, ⟨h2.2.2.2.2.2.2.1.1, rfl, rfl⟩, fun k hk => by rw [eo (sc + 1) (by omega)]; exact h2.2.2.2.2.2.2.2 k hk⟩, ⟨h3.1, by rw [sI_k _ _ (by omega)]; exact h3.2.1, by rw [sI_k _ _ (by omega)]; exact h3.2.2⟩, by rw [eo sc (by omega)]; exact h4, h5, fun k hk => Cx_st (h6 k hk) (eo _ (by omega)) (eo _ (by omega)) (eo _ (by omega)) (Nat.le_refl _) (fun _ _ => rfl), fun s hs => Xl_st (h7 s hs) (eo _ (by omega)) (eo _ (by omega)) (eo _ (by omega)) (Nat.le_refl _) (fun _ _ => rfl)⟩
  obtain ⟨k1, k2, k3, k4, k5, k6, k7, k8, k9⟩ := cl_kx hx h'.1
  have kx : Kx n O B z T sc s (sI I1 324 5 (nI s)) := ⟨k1, k2, k3, k4, k5, k6, k7, k8, k9, sI_s _ _ _ _, hs⟩
  have h5 : sI I1 324 5 (nI s) sc 5 = nI q := h'.2.1.2.2.2.2.2.1
  have pre : f5_readLaw n I1 O 324 (nI s) = (f5_rec n O 100 0 (sI I1 324 5 (nI s)) 324 (nI 0)).bind fun r3 => (if r3.1 = 0 then some ((0 : Int32), r3.2) else (f7_addClause r3.2 O (rO O 324 1) (nI s) (nI q) (r3.2 sc 5)).bind fun r6 => some ((1 : Int32), r6)) := by
    rw [f5_readLaw, qbl, hs1, h5, f5_readSum]; rfl
  rw [pre]
  rcases (x_rec (T0 := T0) kx hB 100).1 0 (i + 1) q st _ (by omega) (by omega) h'.2.1 h'.2.2.1.1 with ⟨I2, j, q2, st2, v, r1, r2, r3, r4, r5, r6, r7, r8, r9⟩ | ⟨I2, f, j, r1, r2, r3⟩
  · left
    rw [r1, qb, if_neg (show ¬ (1 : Int32) = 0 by decide)]
    have hq := h'.2.2.1
    have kc2 := kc_step s1 h' r2 r4 (by omega) r6
    have e5 : I2 sc 5 = nI q2 := r2.2.2.2.2.2.1
    obtain ⟨I3, q1, u2, u3, u4, u5, u6, u7, u8⟩ := y_addC (f := nI q) (g := nI q2) hO hs1 hsc kc2.2.2.2.1 hnc (show s ≤ 8 by omega)
    show RcO n O B z T T0 sc Ib i nc so pa lw ((f7_addClause I2 O (rO O 324 1) (nI s) (nI q) (I2 sc 5)).bind _)
    rw [e5, q1, qb]
    refine ⟨I3, j, q2, st2, upN so nc s, paU pa nc (fun _ => 0), lwU lw s v, rfl, kc_add s1 kc2 hnc u2 u3 u4 u5 u8 ?_ (fun s' hs' => ?_), by omega, fun Jb J L cd hR => ?_⟩
    · unfold CxD
      rw [upN_s]
      have kx : kxs s = s := by
        have : s = 0 ∨ s = 1 ∨ s = 2 := by omega
        rcases this with rfl | rfl | rfl <;> rfl
      exact ⟨by omega, by rw [kx]; exact u2.1, fun g => by omega, fun g => by omega, fun g => by omega⟩
    · by_cases w : s' = s
      · rw [w]
        exact Or.inr ⟨v, nc, q, q2, if_pos rfl, by omega, u6 hs, u2.2.1, u2.2.2, r4, Nat.le_refl _, VX_mono r7 (by show D1 0 + 2 ≤ 64; decide)⟩
      · exact Xl_old (kc2.2.2.2.2.2.2 s' hs') (if_neg w) (u7 s' (by omega)) u3
    · obtain ⟨J1, L1, on, b1, b2, b3, b4⟩ := bd_pre hx (show kdT B z i ≤ 8 by omega) (fun _ => by rw [hk]; exact hl) hnc hR
      rw [es] at b1 b2
      have bo := b4 (by omega) v
      rw [hk] at bo
      obtain ⟨J2, L2, C, c1, c2, c3, c4, c5⟩ := m_lawO hn hO hT0 hT hT3 hs b2 hnc (x := T0 + 1 + 19 * nc) rfl r8 r9
      rw [bo] at c3
      refine ⟨J2, L2, cd ++ C, s, ?_, c3, rfl, by omega, fun k hk => paU_o _ _ hk, ?_, fun s' hs' => ?_⟩
      · rw [b1]
        have : f12_body n J1 L1 O 331 (nI s) (nI (T0 + 1 + 19 * nc)) = some (0, J2, L2) := by
          have nn : ∀ c, 3 ≤ c → c < 600 → ¬ nI s = nI c := fun c g1 g2 => nI_nk (by omega) g2 (by omega)
          rw [f12_body, if_neg (show ¬ nI s = 3 from nn 3 (by omega) (by omega)), if_neg (show ¬ nI s = 4 from nn 4 (by omega) (by omega)), if_neg (show ¬ nI s = 5 from nn 5 (by omega) (by omega)), if_neg (show ¬ nI s = 6 from nn 6 (by omega) (by omega)), if_neg (show ¬ nI s = 7 from nn 7 (by omega) (by omega)), if_neg (show ¬ nI s = 8 from nn 8 (by omega) (by omega)), c1, qb]
        rw [this, qb]
      · unfold MxD
        rw [upN_s]
        exact ⟨fun g => by omega, fun g => by omega, fun g => by omega⟩
      · by_cases w : s' = s
        · rw [w]
          have old := hR.2.2.2.1.2.2.2.2.2.2 s hs
          rcases old with ⟨o1, o2⟩ | ⟨v', k, X, C', Y, o1, -⟩
          · exact Or.inr ⟨v, nc, cd, C, [], if_pos rfl, by omega, upN_s _ _ _, fun j hj => by rw [upN_o _ (by omega)]; exact o2 j hj, by rw [List.append_nil], c4, c5, c2⟩
          · rw [hl] at o1; exact absurd o1 (by intro g; cases g)
        · exact Ml_old (c3.2.2.2.1.2.2.2.2.2.2 s' hs') (fun g => w g.symm) (if_neg w)
  · right
    rw [r1, qb, if_pos rfl]
    have fr := r2.2.1
    have jT := r2.2.2.1
    refine rc_f hx h'.1 rfl r2 (bdF_b hx (by omega) (fun _ => by rw [hk]; exact hl) hnc fr (fun Jb J1 L1 cd on hb => ?_))
    rw [es] at hb ⊢
    obtain ⟨J', L', c1, c2, c3⟩ := m_lawF hn hO hT0 hT hT3 hs hb hnc (x := T0 + 1 + 19 * nc) rfl jT r3
    refine ⟨J', L', ?_, c2, c3⟩
    have nn : ∀ c, 3 ≤ c → c < 600 → ¬ nI s = nI c := fun c g1 g2 => nI_nk (by omega) g2 (by omega)
    rw [f12_body, if_neg (show ¬ nI s = 3 from nn 3 (by omega) (by omega)), if_neg (show ¬ nI s = 4 from nn 4 (by omega) (by omega)), if_neg (show ¬ nI s = 5 from nn 5 (by omega) (by omega)), if_neg (show ¬ nI s = 6 from nn 6 (by omega) (by omega)), if_neg (show ¬ nI s = 7 from nn 7 (by omega) (by omega)), if_neg (show ¬ nI s = 8 from nn 8 (by omega) (by omega)), c1, qb]
theorem x_rc (hx : Cl0 n O B z T T0 sc Ib) (h : KC B z T sc Ib I i nc q st so pa lw) : (nc < 24 ∧ RcO n O B z T T0 sc Ib i nc so pa lw (f5_readClause n I O 324)) ∨ RcF n O B z T T0 sc Ib i nc so pa lw (f5_readClause n I O 324) := by
  obtain ⟨s1, s2⟩ := cl_sc hx
  have hB := hx.2.2.2.2.2.2.2.2.1
  rcases x_begin hx h with ⟨I', f, j, a1, a2, a3, a4, a5, a6, a7⟩ | ⟨b1, b2, b3, b4⟩
  · right
    exact ⟨I', f, j, by rw [f5_readClause, a1, qb, if_pos rfl], a2, a3, a4, a5, a6, a7⟩
  · have kl := kd_lt B z i hB
    have k3 : I 324 3 = nI (kdT B z i) := h.2.1.2.2.2.1
    obtain ⟨I1, c1, c2⟩ := y_nxt (cl_kx hx h.1) h.2.1 (show kdT B z i ≠ 27 by omega)
    have kc1 := kc_step s1 h c2 (Nat.le_refl _) (by have := h.2.2.1; omega) (fun _ _ => rfl)
    have pre : f5_readClause n I O 324 = (if nI (kdT B z i) = 3 then (f7_addClause I1 O (rO O 324 1) (3 : Int32) (0 : Int32) (0 : Int32)).bind fun r8 => some ((1 : Int32), r8) else (if nI (kdT B z i) = 4 then f5_readPair I1 O 324 (4 : Int32) (0 : Int32) (4 : Int32) (23 : Int32) (3 : Int32) else (if nI (kdT B z i) = 5 then f5_readPair I1 O 324 (5 : Int32) (0 : Int32) (15 : Int32) (24 : Int32) (4 : Int32) else (if nI (kdT B z i) = 6 then f5_readPair I1 O 324 (6 : Int32) (1 : Int32) (5 : Int32) (25 : Int32) (3 : Int32) else (if nI (kdT B z i) = 7 then f5_readKeys n I1 O 324 else (if nI (kdT B z i) = 8 then f5_readSundays I1 O 324 else f5_readLaw n I1 O 324 (nI (kdT B z i)))))))) := by
      rw [f5_readClause, b4, qb, if_neg (show ¬ (1 : Int32) = 0 by decide)]
      show (f5_comeTo I O 324 (I 324 2 + 1)).bind _ = _
      rw [c1, qb, k3, bd_eta2, bd_eta2, bd_eta2, bd_eta2, bd_eta2, bd_eta2]
    rw [pre]
    have wrap : ∀ res, RcO n O B z T T0 sc Ib i nc so pa lw res ∨ RcF n O B z T T0 sc Ib i nc so pa lw res → (nc < 24 ∧ RcO n O B z T T0 sc Ib i nc so pa lw res) ∨ RcF n O B z T T0 sc Ib i nc so pa lw res := fun res g => by
      rcases g with g | g
      · exact Or.inl ⟨b3, g⟩
      · exact Or.inr g
    by_cases y3 : kdT B z i = 3
    · rw [if_pos (show nI (kdT B z i) = 3 by rw [y3]; rfl)]
      exact Or.inl ⟨b3, b_child hx y3 b3 kc1⟩
    rw [if_neg (show ¬ nI (kdT B z i) = 3 from nI_nk (c := 3) kl (by omega) y3)]
    by_cases y4 : kdT B z i = 4
    · rw [if_pos (show nI (kdT B z i) = 4 by rw [y4]; rfl)]
      exact wrap _ (b_pair hx y4 (Or.inl ⟨rfl, rfl, rfl, rfl, rfl⟩) b3 kc1)
    rw [if_neg (show ¬ nI (kdT B z i) = 4 from nI_nk (c := 4) kl (by omega) y4)]
    by_cases y5 : kdT B z i = 5
    · rw [if_pos (show nI (kdT B z i) = 5 by rw [y5]; rfl)]
      exact wrap _ (b_pair hx y5 (Or.inr (Or.inl ⟨rfl, rfl, rfl, rfl, rfl⟩)) b3 kc1)
    rw [if_neg (show ¬ nI (kdT B z i) = 5 from nI_nk (c := 5) kl (by omega) y5)]
    by_cases y6 : kdT B z i = 6
    · rw [if_pos (show nI (kdT B z i) = 6 by rw [y6]; rfl)]
      exact wrap _ (b_pair hx y6 (Or.inr (Or.inr ⟨rfl, rfl, rfl, rfl, rfl⟩)) b3 kc1)
    rw [if_neg (show ¬ nI (kdT B z i) = 6 from nI_nk (c := 6) kl (by omega) y6)]
    by_cases y7 : kdT B z i = 7
    · rw [if_pos (show nI (kdT B z i) = 7 by rw [y7]; rfl)]
      exact wrap _ (b_roll hx y7 b3 kc1)
    rw [if_neg (show ¬ nI (kdT B z i) = 7 from nI_nk (c := 7) kl (by omega) y7)]
    by_cases y8 : kdT B z i = 8
    · rw [if_pos (show nI (kdT B z i) = 8 by rw [y8]; rfl)]
      exact wrap _ (b_sund hx y8 b3 kc1)
    rw [if_neg (show ¬ nI (kdT B z i) = 8 from nI_nk (c := 8) kl (by omega) y8)]
    exact wrap _ (b_law hx rfl (by omega) (b2 (by omega)) b3 kc1)
end RD
