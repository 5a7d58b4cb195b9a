/-! a roll played by the reference -/
def JM (J J' : TI) : Prop := (∀ a, a ≠ 331 → a ≠ 332 → a ≠ 337 → a ≠ 339 → J' a = J a) ∧ ∀ k, k ≠ 24 → J' 331 k = J 331 k
theorem JM_r (J : TI) : JM J J := ⟨fun _ _ _ _ _ => rfl, fun _ _ => rfl⟩
theorem JM_t {I J H : TI} (h : JM I J) (k : JM J H) : JM I H := ⟨fun a h1 h2 h3 h4 => (k.1 a h1 h2 h3 h4).trans (h.1 a h1 h2 h3 h4), fun j hj => (k.2 j hj).trans (h.2 j hj)⟩
theorem JM_k {J J' : TI} (h : KN J J') : JM J J' := ⟨fun a h1 h2 h3 h4 => h a h3 h4, fun k _ => by rw [h 331 (by omega) (by omega)]⟩
theorem JM_s {J : TI} {k : Nat} {v : Int32} : JM J (sI J 332 k v) := ⟨fun a h1 h2 h3 h4 => sI_o _ _ h2, fun j _ => by rw [sI_o _ _ (by omega)]⟩
theorem JM_w {J J' : TI} (h : ∀ a, a ≠ 332 → J' a = J a) : JM J J' := ⟨fun a h1 h2 h3 h4 => h a h2, fun k _ => by rw [h 331 (by omega)]⟩
def JP (J J' : TI) : Prop := ∀ a, a ≠ 332 → a ≠ 337 → a ≠ 339 → J' a = J a
theorem JP_r (J : TI) : JP J J := fun _ _ _ _ => rfl
theorem JP_t {I J H : TI} (h : JP I J) (k : JP J H) : JP I H := fun a h1 h2 h3 => (k a h1 h2 h3).trans (h a h1 h2 h3)
theorem JP_k {J J' : TI} (h : KN J J') : JP J J' := fun a _ h2 h3 => h a h2 h3
theorem JP_s {J : TI} {k : Nat} {v : Int32} : JP J (sI J 332 k v) := fun a h1 _ _ => sI_o _ _ h1
section PM
variable {n : Nat} {J : TI} {L : TL} {O : TO} {N : TN} {lw : Lws}
theorem m_cutN {a M : Nat} (ha : a < 1000) (hM : M < 1000) : f12_cut (nI a).toInt64 0 (nI M) = some (nI (min M a)) := by
  have t := m_cut hM (x := (a : Int)) ⟨by omega, by omega⟩
  rw [lV_n, ← nI_l (by omega)] at t
  rw [t]
  unfold ct
  rw [if_neg (by omega)]
  by_cases q : (M : Int) < (a : Int)
  · rw [if_pos q, show min M a = M by omega]
  · rw [if_neg q, show min M a = a by omega, Int.toNat_natCast]
theorem m_anew (hM : MV J O N) (hB : WB N) : f12_anew J O 331 = some (sI J 332 8 (nI (anX (N 8)))) := by
  have v8 := hM.2 8 (by omega)
  have b8 := hB.2.2.2.2.2.2.2.2.2
  unfold f12_anew anX
  rw [hM.1, v8, nI_l (by omega), qbl, show lN (N 8) * 509 + 397 = lN (N 8 * 509 + 397) by
    rw [show (509 : Int64) = lN 509 from rfl, lN_mul, show (397 : Int64) = lN 397 from rfl, lN_add]]
  have t := pk_lRem (a := N 8 * 509 + 397) (b := 30697) (by omega) (by omega) (by omega)
  rw [show lN (N 8 * 509 + 397) - lN (N 8 * 509 + 397) / 30697 * 30697 = lN ((N 8 * 509 + 397) % 30697) from t, lN_i]
theorem m_drawnBy (hM : MV J O N) (hB : WB N) {k : Nat} (h0 : 0 < k) (hk : k < 1000) : f12_drawnBy J O 331 (nI k) = some (nI (N 8 % k), sI J 332 8 (nI (anX (N 8)))) := by
  have v8 := hM.2 8 (by omega)
  have b8 := hB.2.2.2.2.2.2.2.2.2
  have e := m_anew hM hB
  simp (disch := omega) only [f12_drawnBy, hM.1, v8, e, qL, qb, qbl, qadd, qmul, qsubm, qdm, qsub, qdiv, qcl, qlt, qle, qeq, nltT, nltF, nleT, nleF, neqT, neqF, or_false, false_or, or_true, true_or, or_self, and_true, true_and, and_false, false_and, and_self, not_true_eq_false, not_false_eq_true, ↓reduceIte]
theorem m_play96 (hn : 100000 ≤ n) (hO : OF O) (hN : NB N) (hM : MV J O N) (hL : LM0 J (N 3) lw) {r p c : Nat} (hr : r < N 0) (hp : p < Ln N r) {k5 : TI → TL → Nat → Int32 → Int32 → Int32 → Int32 → Option (TI × TL)} {y : Int32} : ∃ J' L', MV J' O (upN N (10 + 16 * r + p) (min 9 (Wr N r p + weN N lw r p (Wr N r p)))) ∧ JP J J' ∧ f12_playNow_c96 n O k5 J L 331 (nI r) (nI c) y (nI p) = k5 J' L' 331 (nI r) (nI c) y (nI (p + 1)) := by
  have hB := NB_WB hN
  obtain ⟨p5, p16⟩ := place_lt hB hr hp
  have wb := hB.2.2.2.2.2.1 r p p5 p16
  have wl := weN_le (N := N) (lw := lw) (r := r) (p := p) (w := Wr N r p)
  obtain ⟨J1, L1, q1, q2⟩ := m_wearsOf (L := L) hn hO hB hM hL hr hp
  have hM1 : MV J1 O N := MV_fr hM (q2 332 (by omega) (by omega))
  have ec := m_cutN (a := Wr N r p + weN N lw r p (Wr N r p)) (M := 9) (by omega) (by omega)
  have ec' : f12_cut (nI (Wr N r p + weN N lw r p (Wr N r p))).toInt64 0 9 = some (nI (min 9 (Wr N r p + weN N lw r p (Wr N r p)))) := ec
  have y1 : (10 : Int32) + 16 * nI r + nI p = nI (10 + 16 * r + p) := by
    rw [show (16 : Int32) * nI r = nI (16 * r) from qmul 16 r, show (10 : Int32) + nI (16 * r) = nI (10 + 16 * r) from qadd 10 (16 * r), qadd]
  refine ⟨_, L1, MV_up hM1, JP_t (JP_k q2) JP_s, ?_⟩
  unfold f12_playNow_c96
  rw [m_wearOf hM p5 p16, qb, q1, qb]
  dsimp only
  rw [qadd, ec', qb, y1, if_neg (nI_in (by omega) (by omega)), hM.1, qcl (by omega), qbl, nI_1]
theorem m_play (hn : 100000 ≤ n) (hO : OF O) (hN : NB N) (hM : MV J O N) (hL : LM0 J (N 3) lw) {r c : Nat} (hr : r < N 0) (hc : c < N 1) : ∃ J' L', MV J' O (plN lw r c N).1 ∧ JM J J' ∧ J' 331 24 = J 331 24 + nI (plN lw r c N).2 ∧ f12_playNow n J L O 331 (nI r) (nI c) = (f12_write n J' O 331 (nI r) (nI c) (nI (plN lw r c N).2)).bind fun r5 => some (r5, L') := by
  have hB := NB_WB hN
  have b1 := hB.1
  have b2 := hB.2.1
  have l1 := hB.2.2.1 r (by omega)
  refine lpR (L := fun m k (s : TI × TL × TN × Nat) => f12_playNow_c5 n O m s.1 s.2.1 331 (nI r) (nI c) (nI s.2.2.2) (nI k)) (fun k s => MV s.1 O s.2.2.1 ∧ JP J s.1 ∧ PI N s.2.2.1 ∧ s.2.2 = fo (pl1 lw r c) k 0 (N, 0) ∧ s.2.2.2 ≤ k) (fun res => ∃ J' L', MV J' O (plN lw r c N).1 ∧ JM J J' ∧ J' 331 24 = J 331 24 + nI (plN lw r c N).2 ∧ res = (f12_write n J' O 331 (nI r) (nI c) (nI (plN lw r c N).2)).bind fun r5 => some (r5, L')) (Ln N r) ?_ ?_ (Ln N r) 0 n (J, L, N, 0) (by omega) (by omega) ⟨hM, JP_r J, PI_r hN, rfl, Nat.le_refl _⟩
  · intro m p s hp ⟨k1, k1b, k2, k3, k4⟩
    left
    have hBs := NB_WB k2.2
    have e0 : s.2.2.1 0 = N 0 := k2.1 0 (by omega) (by omega)
    have e1 : s.2.2.1 1 = N 1 := k2.1 1 (by omega) (by omega)
    have e3 : s.2.2.1 3 = N 3 := k2.1 3 (by omega) (by omega)
    have el : Ln s.2.2.1 r = Ln N r := Ln_of k2 (by omega)
    have hrs : r < s.2.2.1 0 := by omega
    have hcs : c < s.2.2.1 1 := by omega
    have hps : p < Ln s.2.2.1 r := by omega
    have hLs : LM0 s.1 (s.2.2.1 3) lw := by rw [e3]; exact LM_fr hL (k1b 334 (by omega) (by omega) (by omega))
    have gl := m_len k1 (r := r) (by omega)
    have y1 : (114 : Int32) + nI r = nI (114 + r) := qadd 114 r
    have eso := m_isHole k1 hBs (r := r) (p := p) (by omega) (by omega)
    have hs : fo (pl1 lw r c) (p + 1) 0 (N, 0) = pl1 lw r c p s.2.2 := by rw [fo_s, ← k3, Nat.zero_add]
    have hlt : ¬ nI (Ln s.2.2.1 r) ≤ nI p := fun q => by rw [nI_leI (by omega) (by omega)] at q; omega
    cases hh : holeB s.2.2.1 r p
    · have hz : pl1 lw r c p s.2.2 = s.2.2 := by unfold pl1; rw [hh]; rfl
      refine ⟨s, ⟨k1, k1b, k2, by rw [hs, hz], by omega⟩, ?_⟩
      rw [hh] at eso
      rw [f12_playNow_c5, y1, if_neg (nI_in (by omega) (by omega)), hM.1, qcl (by omega), gl, if_neg hlt, eso, qb, if_pos (by rfl), nI_1]
    · have kk := hole_K hh
      have kb := hBs.2.2.2.2.1 r p (by omega) (by omega)
      obtain ⟨J1, L1, q1, q2⟩ := m_blursOf (L := s.2.1) hn hO hBs k1 hLs hrs hps hcs
      have hM1 : MV J1 O s.2.2.1 := MV_fr k1 (q2 332 (by omega) (by omega))
      have bl := blN_le hBs (lw := lw) (r := r) (p := p) (c := c) (by omega) (by omega)
      have ed := m_drawnBy hM1 hBs (k := 10) (by omega) (by omega)
      have ed' : f12_drawnBy J1 O 331 10 = some (nI (s.2.2.1 8 % 10), sI J1 332 8 (nI (anX (s.2.2.1 8)))) := ed
      have ek := m_keyOf hM1 (r := r) (p := p) (by omega) (by omega)
      have hM2 : MV (sI J1 332 8 (nI (anX (s.2.2.1 8)))) O (upN s.2.2.1 8 (anX (s.2.2.1 8))) := MV_up hM1
      have hP8 : PI N (upN s.2.2.1 8 (anX (s.2.2.1 8))) := PI_8 k2 (anX_lt _)
      rw [hh] at eso
      have hz1 : ¬ ((if true = true then (1 : Int32) else 0) = 0) := by
        show ¬ ((1 : Int32) = 0)
        decide
      have fr1 : JP J (sI J1 332 8 (nI (anX (s.2.2.1 8)))) := JP_t k1b (JP_t (JP_k q2) JP_s)
      have yh : (90 : Int32) + 6 * nI c + nI (K s.2.2.1 r p) = nI (90 + 6 * c + K s.2.2.1 r p) := by
        rw [show (6 : Int32) * nI c = nI (6 * c) from qmul 6 c, show (90 : Int32) + nI (6 * c) = nI (90 + 6 * c) from qadd 90 (6 * c), qadd]
      cases hb : plB lw r c p s.2.2.1
      · have hb' : ¬ (s.2.2.1 8 % 10 < blN s.2.2.1 lw r p c) := of_decide_eq_false hb
        have hz : pl1 lw r c p s.2.2 = (upN (plH lw r c p s.2.2.1) (10 + 16 * r + p) (min 9 (Wr (plH lw r c p s.2.2.1) r p + weN (plH lw r c p s.2.2.1) lw r p (Wr (plH lw r c p s.2.2.1) r p))), s.2.2.2 + 1) := by unfold pl1; rw [hh, hb]; rfl
        have hH : plH lw r c p s.2.2.1 = upN (upN s.2.2.1 8 (anX (s.2.2.1 8))) (90 + 6 * c + K s.2.2.1 r p) (min 99 (Hd s.2.2.1 c (K s.2.2.1 r p) + 1)) := by unfold plH; rw [hb]; rfl
        have hPH : PI N (plH lw r c p s.2.2.1) := PI_plH k2 (by omega) (by omega) (by omega) hh
        have hM3 := MV_up (t := 90 + 6 * c + K s.2.2.1 r p) (v := min 99 (Hd s.2.2.1 c (K s.2.2.1 r p) + 1)) hM2
        rw [← hH] at hM3
        have hd := hBs.2.2.2.2.2.2.1 c (K s.2.2.1 r p) (by omega) (by omega)
        have gh : sI J1 332 8 (nI (anX (s.2.2.1 8))) 332 (90 + 6 * c + K s.2.2.1 r p) = nI (Hd s.2.2.1 c (K s.2.2.1 r p)) := by
          rw [sI_k _ _ (by omega)]; exact hM1.2 _ (by omega)
        have ec := m_cutN (a := Hd s.2.2.1 c (K s.2.2.1 r p) + 1) (M := 99) (by omega) (by omega)
        have ec' : f12_cut (nI (Hd s.2.2.1 c (K s.2.2.1 r p) + 1)).toInt64 0 99 = some (nI (min 99 (Hd s.2.2.1 c (K s.2.2.1 r p) + 1))) := ec
        have fr2 : JP J (sI (sI J1 332 8 (nI (anX (s.2.2.1 8)))) 332 (90 + 6 * c + K s.2.2.1 r p) (nI (min 99 (Hd s.2.2.1 c (K s.2.2.1 r p) + 1)))) := JP_t fr1 JP_s
        have hL3 : LM0 (sI (sI J1 332 8 (nI (anX (s.2.2.1 8)))) 332 (90 + 6 * c + K s.2.2.1 r p) (nI (min 99 (Hd s.2.2.1 c (K s.2.2.1 r p) + 1)))) (plH lw r c p s.2.2.1 3) lw := by
          rw [hPH.1 3 (by omega) (by omega)]
          exact LM_fr hL (fr2 334 (by omega) (by omega) (by omega))
        obtain ⟨J4, L4, g1, g2, g3⟩ := m_play96 (n := n) (L := L1) (k5 := f12_playNow_c5 n O m) (y := nI (s.2.2.2 + 1)) (c := c) hn hO hPH.2 hM3 hL3 (r := r) (p := p) (by rw [hPH.1 0 (by omega) (by omega)]; exact hr) (by rw [Ln_of hPH (by omega)]; exact hp)
        refine ⟨(J4, L4, pl1 lw r c p s.2.2), ⟨by rw [hz]; exact g1, JP_t fr2 g2, PI_pl1 k2 (by omega) (by omega) (by omega), hs.symm, pl1_le k4⟩, ?_⟩
        show f12_playNow_c5 n O (m + 1) s.1 s.2.1 331 (nI r) (nI c) (nI s.2.2.2) (nI p) = f12_playNow_c5 n O m J4 L4 331 (nI r) (nI c) (nI (pl1 lw r c p s.2.2).2) (nI (p + 1))
        rw [hz]
        rw [f12_playNow_c5, y1, if_neg (nI_in (by omega) (by omega)), hM.1, qcl (by omega), gl, if_neg hlt, eso, qb, if_neg hz1, q1, qb]
        dsimp only
        rw [ek, qb, yh, qbl, ed', qb]
        dsimp only
        rw [if_neg (fun q => hb' (by rw [nI_ltI (by omega) (by omega)] at q; exact q)), if_neg (nI_in (by omega) (by omega)), qcl (by omega), gh, nI_1, ec', qb, if_neg (ifin (by omega) (by omega)), qbl, nI_1]
        exact g3
      · have hb' : s.2.2.1 8 % 10 < blN s.2.2.1 lw r p c := of_decide_eq_true hb
        have hz : pl1 lw r c p s.2.2 = (upN (plH lw r c p s.2.2.1) (10 + 16 * r + p) (min 9 (Wr (plH lw r c p s.2.2.1) r p + weN (plH lw r c p s.2.2.1) lw r p (Wr (plH lw r c p s.2.2.1) r p))), s.2.2.2) := by unfold pl1; rw [hh, hb]; rfl
        have hH : plH lw r c p s.2.2.1 = upN s.2.2.1 8 (anX (s.2.2.1 8)) := by unfold plH; rw [hb]; rfl
        rw [← hH] at hM2 hP8
        have hL3 : LM0 (sI J1 332 8 (nI (anX (s.2.2.1 8)))) (plH lw r c p s.2.2.1 3) lw := by
          rw [hP8.1 3 (by omega) (by omega)]
          exact LM_fr hL (fr1 334 (by omega) (by omega) (by omega))
        obtain ⟨J4, L4, g1, g2, g3⟩ := m_play96 (n := n) (L := L1) (k5 := f12_playNow_c5 n O m) (y := nI s.2.2.2) (c := c) hn hO hP8.2 hM2 hL3 (r := r) (p := p) (by rw [hP8.1 0 (by omega) (by omega)]; exact hr) (by rw [Ln_of hP8 (by omega)]; exact hp)
        refine ⟨(J4, L4, pl1 lw r c p s.2.2), ⟨by rw [hz]; exact g1, JP_t fr1 g2, PI_pl1 k2 (by omega) (by omega) (by omega), hs.symm, pl1_le k4⟩, ?_⟩
        show f12_playNow_c5 n O (m + 1) s.1 s.2.1 331 (nI r) (nI c) (nI s.2.2.2) (nI p) = f12_playNow_c5 n O m J4 L4 331 (nI r) (nI c) (nI (pl1 lw r c p s.2.2).2) (nI (p + 1))
        rw [hz]
        rw [f12_playNow_c5, y1, if_neg (nI_in (by omega) (by omega)), hM.1, qcl (by omega), gl, if_neg hlt, eso, qb, if_neg hz1, q1, qb]
        dsimp only
        rw [ek, qb, yh, qbl, ed', qb]
        dsimp only
        rw [if_pos (show nI (s.2.2.1 8 % 10) < nI (blN s.2.2.1 lw r p c) by rw [nI_ltI (by omega) (by omega)]; exact hb')]
        exact g3
  · intro m s ⟨k1, k1b, k2, k3, k4⟩
    have el : Ln s.2.2.1 r = Ln N r := Ln_of k2 (by omega)
    have gl := m_len k1 (r := r) (by omega)
    have y1 : (114 : Int32) + nI r = nI (114 + r) := qadd 114 r
    have hz : plN lw r c N = s.2.2 := k3.symm
    have f331 := k1b 331 (by omega) (by omega) (by omega)
    refine ⟨sI s.1 331 24 (s.1 331 24 + nI s.2.2.2), s.2.1, by rw [hz]; exact MV_fr k1 (sI_o _ _ (by omega)), ⟨fun a h1 h2 h3 h4 => by rw [sI_o _ _ h1]; exact k1b a h2 h3 h4, fun k hk => by rw [sI_k _ _ hk, f331]⟩, by rw [sI_s, f331, hz], ?_⟩
    rw [hz]
    show f12_playNow_c5 n O (m + 1) s.1 s.2.1 331 (nI r) (nI c) (nI s.2.2.2) (nI (Ln N r)) = _
    rw [f12_playNow_c5, y1, if_neg (nI_in (by omega) (by omega)), hM.1, qcl (by omega), gl, if_pos (by rw [nI_leI (by omega) (by omega)]; omega), qbl]
end PM
/-! the main world -/
def PWm (e : Nat) (I0 : TI) (I : TI) (N : TN) : Prop := RW I 2 e N ∧ N 4 ≤ 30 ∧ ∀ a, (a < 2 ∨ 136 ≤ a) → a ≠ 283 → a ≠ 284 → a ≠ 285 → I a = I0 a
theorem PWm_ok {O : TO} (hO : OF O) (e : Nat) (I0 : TI) : PWok O 3 4 5 6 7 8 (PWm e I0) := by
  refine ⟨fun I N h => RW_WV hO h.1, fun I N v h => ?_, fun I N c k v hc hk h => ?_, fun I N r p v hr hp h => ?_, fun I I' N hj h => ?_, w3⟩
  · obtain ⟨⟨h1, h2⟩, h3, h4⟩ := h
    exact ⟨⟨RWn_up (t := 8) h1 (Or.inl (by omega)), RWs_up (t := 8) h2 h3 (Or.inl (by omega)) (by omega)⟩, by rw [upN_o _ (by omega)]; exact h3, fun a g1 g2 g3 g4 => by rw [sI_o _ _ (by omega)]; exact h4 a g1 g2 g3 g4⟩
  · obtain ⟨⟨h1, h2⟩, h3, h4⟩ := h
    have u1 := RWn_up (t := 90 + 6 * c + k) (v := v) h1 (Or.inl (by omega))
    have u2 := RWs_up (t := 90 + 6 * c + k) (v := v) h2 h3 (Or.inl (by omega)) (by omega)
    have e1 : la 2 (90 + 6 * c + k) = 8 := by simp (disch := omega) only [la, qL, qb, qbl, qadd, qmul, qsubm, qdm, qsub, qdiv, qcl, qlt, qle, qeq, nltT, nltF, nleT, nleF, neqT, neqF, or_false, false_or, or_true, true_or, or_self, and_true, true_and, and_false, false_and, and_self, not_true_eq_false, not_false_eq_true, ↓reduceIte]
    have e2 : lk (90 + 6 * c + k) = c * 6 + k := by simp (disch := omega) only [lk, qL, qb, qbl, qadd, qmul, qsubm, qdm, qsub, qdiv, qcl, qlt, qle, qeq, nltT, nltF, nleT, nleF, neqT, neqF, or_false, false_or, or_true, true_or, or_self, and_true, true_and, and_false, false_and, and_self, not_true_eq_false, not_false_eq_true, ↓reduceIte] <;> omega
    rw [e1, e2] at u1 u2
    exact ⟨⟨u1, u2⟩, by rw [upN_o _ (by omega)]; exact h3, fun a g1 g2 g3 g4 => by rw [sI_o _ _ (by omega)]; exact h4 a g1 g2 g3 g4⟩
  · obtain ⟨⟨h1, h2⟩, h3, h4⟩ := h
    have u1 := RWn_up (t := 10 + 16 * r + p) (v := v) h1 (Or.inl (by omega))
    have u2 := RWs_up (t := 10 + 16 * r + p) (v := v) h2 h3 (Or.inl (by omega)) (by omega)
    have e1 : la 2 (10 + 16 * r + p) = 7 := by simp (disch := omega) only [la, qL, qb, qbl, qadd, qmul, qsubm, qdm, qsub, qdiv, qcl, qlt, qle, qeq, nltT, nltF, nleT, nleF, neqT, neqF, or_false, false_or, or_true, true_or, or_self, and_true, true_and, and_false, false_and, and_self, not_true_eq_false, not_false_eq_true, ↓reduceIte]
    have e2 : lk (10 + 16 * r + p) = r * 16 + p := by simp (disch := omega) only [lk, qL, qb, qbl, qadd, qmul, qsubm, qdm, qsub, qdiv, qcl, qlt, qle, qeq, nltT, nltF, nleT, nleF, neqT, neqF, or_false, false_or, or_true, true_or, or_self, and_true, true_and, and_false, false_and, and_self, not_true_eq_false, not_false_eq_true, ↓reduceIte] <;> omega
    rw [e1, e2] at u1 u2
    exact ⟨⟨u1, u2⟩, by rw [upN_o _ (by omega)]; exact h3, fun a g1 g2 g3 g4 => by rw [sI_o _ _ (by omega)]; exact h4 a g1 g2 g3 g4⟩
  · obtain ⟨h1, h3, h4⟩ := h
    exact ⟨RW_fr h1 (fun a g1 g2 => hj a (by omega) (by omega) (by omega)), h3, fun a g1 g2 g3 g4 => by rw [hj a g2 g3 g4]; exact h4 a g1 g2 g3 g4⟩
