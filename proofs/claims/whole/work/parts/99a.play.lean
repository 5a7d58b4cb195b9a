/-! a roll played: what becomes of the world -/
def anX (x : Nat) : Nat := (x * 509 + 397) % 30697
def plB (lw : Lws) (r c p : Nat) (N : TN) : Bool := decide (N 8 % 10 < blN N lw r p c)
def plH (lw : Lws) (r c p : Nat) (N : TN) : TN := if plB lw r c p N then upN N 8 (anX (N 8)) else upN (upN N 8 (anX (N 8))) (90 + 6 * c + K N r p) (min 99 (Hd N c (K N r p) + 1))
def pl1 (lw : Lws) (r c p : Nat) (s : TN × Nat) : TN × Nat := if holeB s.1 r p then (upN (plH lw r c p s.1) (10 + 16 * r + p) (min 9 (Wr (plH lw r c p s.1) r p + weN (plH lw r c p s.1) lw r p (Wr (plH lw r c p s.1) r p))), if plB lw r c p s.1 then s.2 else s.2 + 1) else s
def plN (lw : Lws) (r c : Nat) (N : TN) : TN × Nat := fo (pl1 lw r c) (Ln N r) 0 (N, 0)
def PI (N0 N : TN) : Prop := (∀ t, t ≠ 8 → ¬ (10 ≤ t ∧ t < 114) → N t = N0 t) ∧ NB N
theorem PI_r {N : TN} (h : NB N) : PI N N := ⟨fun _ _ _ => rfl, h⟩
theorem anX_lt (x : Nat) : anX x < 30697 := Nat.mod_lt _ (by omega)
theorem blN_le {N : TN} (hB : WB N) {lw : Lws} {r p c : Nat} (hr : r < 5) (hp : p < 16) : blN N lw r p c ≤ 10 := by
  have := hB.2.2.2.2.2.1 r p hr hp
  unfold blN
  cases lw 0 with
  | none => show Wr N r p / 2 ≤ 10; omega
  | some v => exact ct_le _ _
theorem weN_le {N : TN} {lw : Lws} {r p w : Nat} : weN N lw r p w ≤ 9 := by
  unfold weN
  cases lw 2 with
  | none => show 1 ≤ 9; omega
  | some v => exact ct_le _ _
section PL
variable {lw : Lws} {r c p : Nat} {N0 N : TN}
theorem PI_u {t v : Nat} (h : PI N0 N) (ht : t = 8 ∨ (10 ≤ t ∧ t < 114)) (hB : NB (upN N t v)) : PI N0 (upN N t v) := ⟨fun t' h1 h2 => by rw [upN_o N (by omega)]; exact h.1 t' h1 h2, hB⟩
theorem PI_8 (h : PI N0 N) {v : Nat} (hv : v < 30697) : PI N0 (upN N 8 v) := PI_u h (Or.inl rfl) (NB_up h.2 ⟨by omega, by omega, by omega, by omega, by omega, by omega, by omega⟩ ⟨by omega, by omega, by omega, by omega, by omega, by omega, by omega, by omega, by omega, by omega, by omega⟩)
theorem PI_h (h : PI N0 N) {k v : Nat} (hc : c < 4) (h1 : 1 ≤ k) (hk : k < 6) (hv : v ≤ 99) : PI N0 (upN N (90 + 6 * c + k) v) := PI_u h (Or.inr ⟨by omega, by omega⟩) (NB_up h.2 ⟨by omega, by omega, by omega, by omega, by omega, by omega, by omega⟩ ⟨by omega, by omega, by omega, by omega, by omega, by omega, by omega, by omega, by omega, by omega, by omega⟩)
theorem PI_w (h : PI N0 N) {v : Nat} (hr : r < 5) (hp : p < 16) (hv : v ≤ 9) : PI N0 (upN N (10 + 16 * r + p) v) := PI_u h (Or.inr ⟨by omega, by omega⟩) (NB_up h.2 ⟨by omega, by omega, by omega, by omega, by omega, by omega, by omega⟩ ⟨by omega, by omega, by omega, by omega, by omega, by omega, by omega, by omega, by omega, by omega, by omega⟩)
theorem K_of (h : PI N0 N) (hr : r < 5) (hp : p < 16) : K N r p = K N0 r p := h.1 _ (by omega) (by omega)
theorem Ln_of (h : PI N0 N) (hr : r < 5) : Ln N r = Ln N0 r := h.1 _ (by omega) (by omega)
theorem hole_K (h : holeB N r p = true) : 1 ≤ K N r p := by
  unfold holeB at h
  rw [Bool.and_eq_true, bne_iff_ne] at h
  omega
theorem PI_plH (h : PI N0 N) (hr : r < 5) (hp : p < 16) (hc : c < 4) (hh : holeB N r p = true) : PI N0 (plH lw r c p N) := by
  have k1 := hole_K hh
  have k2 := (NB_WB h.2).2.2.2.2.1 r p hr hp
  unfold plH
  split
  · exact PI_8 h (anX_lt _)
  · exact PI_h (PI_8 h (anX_lt _)) hc k1 (by omega) (by omega)
theorem PI_pl1 {s : TN × Nat} (h : PI N0 s.1) (hr : r < 5) (hp : p < 16) (hc : c < 4) : PI N0 (pl1 lw r c p s).1 := by
  unfold pl1
  split
  · next hh => exact PI_w (PI_plH h hr hp hc hh) hr hp (by omega)
  · exact h
theorem pl1_le {s : TN × Nat} {M : Nat} (h : s.2 ≤ M) : (pl1 lw r c p s).2 ≤ M + 1 := by
  unfold pl1
  split
  · show (if plB lw r c p s.1 = true then s.2 else s.2 + 1) ≤ M + 1
    split <;> omega
  · omega
theorem PI_plN (h : NB N) (hr : r < N 0) (hc : c < N 1) : PI N (plN lw r c N).1 ∧ (plN lw r c N).2 ≤ 16 := by
  have hB := NB_WB h
  have b1 := hB.1
  have b2 := hB.2.1
  have l1 := hB.2.2.1 r (by omega)
  have := foI (pl1 lw r c) (fun k s => PI N s.1 ∧ s.2 ≤ k) (Ln N r) (fun k s hk hs => ⟨PI_pl1 hs.1 (by omega) (by omega) (by omega), pl1_le hs.2⟩) (Ln N r) 0 (N, 0) (by omega) ⟨PI_r h, Nat.le_refl _⟩
  exact ⟨this.1, by have := this.2; show _ ≤ 16; unfold plN; omega⟩
end PL
/-- a world of the class that may be played in -/
def PWok (O : TO) (wa sz ky mo wr hr : Nat) (PW : TI → TN → Prop) : Prop := (∀ I N, PW I N → WV I O wa sz ky mo wr hr N) ∧ (∀ I N v, PW I N → PW (sI I mo 5 (nI v)) (upN N 8 v)) ∧ (∀ I N c k v, c < 4 → k < 6 → PW I N → PW (sI I hr (c * 6 + k) (nI v)) (upN N (90 + 6 * c + k) v)) ∧ (∀ I N r p v, r < 5 → p < 16 → PW I N → PW (sI I wr (r * 16 + p) (nI v)) (upN N (10 + 16 * r + p) v)) ∧ (∀ I I' N, JN I I' → PW I N → PW I' N) ∧ (wa < 283 ∧ sz < 283 ∧ ky < 283 ∧ mo < 283 ∧ wr < 283 ∧ hr < 283)
section PX2
variable {n : Nat} {I : TI} {O : TO} {N : TN} {wa sz ky mo wr hr : Nat} {PW : TI → TN → Prop} {sx : Option Nat} {lw : Lws}
theorem x_anew (hP : PWok O wa sz ky mo wr hr PW) (hB : WB N) (hI : PW I N) : f3_drawAnew I mo = some (sI I mo 5 (nI (anX (N 8)))) := by
  have v8 : I mo 5 = nI (N 8) := (hP.1 I N hI).2.2.2.2.2.2.2.2
  have b8 := hB.2.2.2.2.2.2.2.2.2
  unfold anX
  simp (disch := omega) only [f3_drawAnew, v8, qL, qb, qbl, qadd, qmul, qsubm, qdm, qsub, qdiv, qcl, qlt, qle, qeq, nltT, nltF, nleT, nleF, neqT, neqF, or_false, false_or, or_true, true_or, or_self, and_true, true_and, and_false, false_and, and_self, not_true_eq_false, not_false_eq_true, ↓reduceIte]
theorem x_draw (hP : PWok O wa sz ky mo wr hr PW) (hB : WB N) (hI : PW I N) {k : Nat} (h0 : 0 < k) (hk : k < 1000) : f3_draw I mo (nI k) = some (nI (N 8 % k), sI I mo 5 (nI (anX (N 8)))) := by
  have v8 : I mo 5 = nI (N 8) := (hP.1 I N hI).2.2.2.2.2.2.2.2
  have b8 := hB.2.2.2.2.2.2.2.2.2
  have e := x_anew hP hB hI
  simp (disch := omega) only [f3_draw, v8, e, qL, qb, qbl, qadd, qmul, qsubm, qdm, qsub, qdiv, qcl, qlt, qle, qeq, nltT, nltF, nleT, nleF, neqT, neqF, or_false, false_or, or_true, true_or, or_self, and_true, true_and, and_false, false_and, and_self, not_true_eq_false, not_false_eq_true, ↓reduceIte]
theorem x_hear (hP : PWok O wa sz ky mo wr hr PW) (hB : WB N) (hI : PW I N) {c k : Nat} (hc : c < N 1) (h1 : 1 ≤ k) (hk : k < 6) : f10_hear I O wa (nI c) (nI k) = some (sI I hr (c * 6 + k) (nI (min 99 (Hd N c k + 1)))) := by
  have hV := hP.1 I N hI
  have e := x_hasChild hV hB hc
  have b2 := hB.2.1
  obtain ⟨⟨-, -, o2, -, o4⟩, -, -, -, -, -, vh, -⟩ := hV
  have eh := vh c k (by omega) hk
  have hb := hB.2.2.2.2.2.2.1 c k (by omega) hk
  by_cases z : Hd N c k + 1 < 99
  · rw [show min 99 (Hd N c k + 1) = Hd N c k + 1 by omega]
    simp (disch := omega) only [f10_hear, e, o2, o4, eh, fJ9_min_7cf53, qL, qb, qbl, qadd, qmul, qsubm, qdm, qsub, qdiv, qcl, qlt, qle, qeq, nltT, nltF, nleT, nleF, neqT, neqF, or_false, false_or, or_true, true_or, or_self, and_true, true_and, and_false, false_and, and_self, not_true_eq_false, not_false_eq_true, ↓reduceIte]
  · rw [show min 99 (Hd N c k + 1) = 99 by omega]
    simp (disch := omega) only [f10_hear, e, o2, o4, eh, fJ9_min_7cf53, qL, qb, qbl, qadd, qmul, qsubm, qdm, qsub, qdiv, qcl, qlt, qle, qeq, nltT, nltF, nleT, nleF, neqT, neqF, or_false, false_or, or_true, true_or, or_self, and_true, true_and, and_false, false_and, and_self, not_true_eq_false, not_false_eq_true, ↓reduceIte]
theorem x_wearMore (hP : PWok O wa sz ky mo wr hr PW) (hB : WB N) (hI : PW I N) {r p w : Nat} (hr' : r < N 0) (hp : p < Ln N r) (hw : w ≤ 9) : f10_wearMore I O wa (nI r) (nI p) (nI w) = some (sI I wr (r * 16 + p) (nI (min 9 (Wr N r p + w)))) := by
  have hV := hP.1 I N hI
  have e := x_hasPlace hV hB hr' hp
  obtain ⟨p5, p16⟩ := place_lt hB hr' hp
  obtain ⟨⟨-, -, o2, o3, -⟩, -, -, -, -, vw, -⟩ := hV
  have ew := vw r p p5 p16
  have hb := hB.2.2.2.2.2.1 r p p5 p16
  by_cases z : Wr N r p + w < 9
  · rw [show min 9 (Wr N r p + w) = Wr N r p + w by omega]
    simp (disch := omega) only [f10_wearMore, e, o2, o3, ew, fJ9_min_7cf53, qL, qb, qbl, qadd, qmul, qsubm, qdm, qsub, qdiv, qcl, qlt, qle, qeq, nltT, nltF, nleT, nleF, neqT, neqF, or_false, false_or, or_true, true_or, or_self, and_true, true_and, and_false, false_and, and_self, not_true_eq_false, not_false_eq_true, ↓reduceIte]
  · rw [show min 9 (Wr N r p + w) = 9 by omega]
    simp (disch := omega) only [f10_wearMore, e, o2, o3, ew, fJ9_min_7cf53, qL, qb, qbl, qadd, qmul, qsubm, qdm, qsub, qdiv, qcl, qlt, qle, qeq, nltT, nltF, nleT, nleF, neqT, neqF, or_false, false_or, or_true, true_or, or_self, and_true, true_and, and_false, false_and, and_self, not_true_eq_false, not_false_eq_true, ↓reduceIte]
/-- behind the hearing: the wear -/
theorem x_play72 (hn : 100000 ≤ n) (hO : OF O) (hP : PWok O wa sz ky mo wr hr PW) (hL : ∀ I N, PW I N → LX0 I sx lw) (hN : NB N) (hI : PW I N) {r p c : Nat} (hr' : r < N 0) (hp : p < Ln N r) {k6 : TI → Nat → Nat → Option Nat → Int32 → Int32 → Int32 → Int32 → Option (Int32 × TI)} {y : Int32} : ∃ I', PW I' (upN N (10 + 16 * r + p) (min 9 (Wr N r p + weN N lw r p (Wr N r p)))) ∧ f4_playRoll_c72 n O k6 I 286 wa sx (nI r) (nI c) y (nI p) = k6 I' 286 wa sx (nI r) (nI c) y (nI (p + 1)) := by
  have hB := NB_WB hN
  have hV := hP.1 I N hI
  obtain ⟨p5, p16⟩ := place_lt hB hr' hp
  have wb := hB.2.2.2.2.2.1 r p p5 p16
  obtain ⟨I1, q1, q2⟩ := x_wears hn hO hB (hL I N hI) hV hP.2.2.2.2.2 hr' hp (w := Wr N r p) (by omega)
  have hI1 := hP.2.2.2.2.1 I I1 N q2 hI
  have e3 := x_wearMore hP hB hI1 hr' hp (w := weN N lw r p (Wr N r p)) weN_le
  refine ⟨_, hP.2.2.2.1 I1 N r p _ p5 p16 hI1, ?_⟩
  unfold f4_playRoll_c72
  rw [x_wearAt hV hB hr' hp, qb, o_286_0 hO, q1, qb]
  dsimp only
  rw [e3, qb, nI_1]
theorem x_play (hn : 100000 ≤ n) (hO : OF O) (hP : PWok O wa sz ky mo wr hr PW) (hL : ∀ I N, PW I N → LX0 I sx lw) (hN : NB N) (hI : PW I N) {r c : Nat} (hr' : r < N 0) (hc : c < N 1) : ∃ I', PW I' (plN lw r c N).1 ∧ f4_playRoll n I O 286 wa sx (nI r) (nI c) = (f3_write I' O mo (nI r) (nI c) (nI (plN lw r c N).2)).bind fun r5 => some (nI (plN lw r c N).2, r5) := by
  have hB := NB_WB hN
  have b1 := hB.1
  have b2 := hB.2.1
  have l1 := hB.2.2.1 r (by omega)
  refine lpR (L := fun m k (s : TI × TN × Nat) => f4_playRoll_c6 n O m s.1 286 wa sx (nI r) (nI c) (nI s.2.2) (nI k)) (fun k s => PW s.1 s.2.1 ∧ PI N s.2.1 ∧ s.2 = fo (pl1 lw r c) k 0 (N, 0) ∧ s.2.2 ≤ k) (fun res => ∃ I', PW I' (plN lw r c N).1 ∧ res = (f3_write I' O mo (nI r) (nI c) (nI (plN lw r c N).2)).bind fun r5 => some (nI (plN lw r c N).2, r5)) (Ln N r) ?_ ?_ (Ln N r) 0 n (I, N, 0) (by omega) (by omega) ⟨hI, PI_r hN, rfl, Nat.le_refl _⟩
  · intro m p s hp ⟨k1, k2, k3, k4⟩
    left
    have hBs := NB_WB k2.2
    have hV := hP.1 _ _ k1
    have e0 : s.2.1 0 = N 0 := k2.1 0 (by omega) (by omega)
    have e1 : s.2.1 1 = N 1 := k2.1 1 (by omega) (by omega)
    have el : Ln s.2.1 r = Ln N r := Ln_of k2 (by omega)
    have hrs : r < s.2.1 0 := by omega
    have hcs : c < s.2.1 1 := by omega
    have hps : p < Ln s.2.1 r := by omega
    have es := x_size hV hBs hrs
    have eso := x_sounds hV hBs hrs hps
    have hs : fo (pl1 lw r c) (p + 1) 0 (N, 0) = pl1 lw r c p s.2 := by rw [fo_s, ← k3, Nat.zero_add]
    have hlt : ¬ nI (Ln s.2.1 r) ≤ nI p := fun q => by rw [nI_leI (by omega) (by omega)] at q; omega
    cases hh : holeB s.2.1 r p
    · have hz : pl1 lw r c p s.2 = s.2 := by unfold pl1; rw [hh]; rfl
      refine ⟨s, ⟨k1, k2, by rw [hs, hz], by omega⟩, ?_⟩
      rw [hh] at eso
      rw [f4_playRoll_c6, es, qb, if_neg hlt, eso, qb, if_pos (by rfl), nI_1]
    · have kk := hole_K hh
      have kb := hBs.2.2.2.2.1 r p (by omega) (by omega)
      obtain ⟨I1, q1, q2⟩ := x_blurs hn hO hBs (hL _ _ k1) hV hP.2.2.2.2.2 hrs hps hcs
      have hI1 := hP.2.2.2.2.1 _ I1 _ q2 k1
      have bl := blN_le hBs (lw := lw) (r := r) (p := p) (c := c) (by omega) (by omega)
      have ed := x_draw hP hBs hI1 (k := 10) (by omega) (by omega)
      have hI2 := hP.2.1 I1 s.2.1 (anX (s.2.1 8)) hI1
      have om : rO O wa 2 = mo := hV.1.2.2.1
      rw [hh] at eso
      have hz1 : ¬ ((if true = true then (1 : Int32) else 0) = 0) := by
        show ¬ ((1 : Int32) = 0)
        decide
      have hP8 : PI N (upN s.2.1 8 (anX (s.2.1 8))) := PI_8 k2 (anX_lt _)
      have ed' : f3_draw I1 mo 10 = some (nI (s.2.1 8 % 10), sI I1 mo 5 (nI (anX (s.2.1 8)))) := ed
      cases hb : plB lw r c p s.2.1
      · have hb' : ¬ (s.2.1 8 % 10 < blN s.2.1 lw r p c) := of_decide_eq_false hb
        have hz : pl1 lw r c p s.2 = (upN (plH lw r c p s.2.1) (10 + 16 * r + p) (min 9 (Wr (plH lw r c p s.2.1) r p + weN (plH lw r c p s.2.1) lw r p (Wr (plH lw r c p s.2.1) r p))), s.2.2 + 1) := by unfold pl1; rw [hh, hb]; rfl
        have hH : plH lw r c p s.2.1 = upN (upN s.2.1 8 (anX (s.2.1 8))) (90 + 6 * c + K s.2.1 r p) (min 99 (Hd s.2.1 c (K s.2.1 r p) + 1)) := by unfold plH; rw [hb]; rfl
        have kk8 : K (upN s.2.1 8 (anX (s.2.1 8))) r p = K s.2.1 r p := upN_o _ (by omega)
        have hd8 : Hd (upN s.2.1 8 (anX (s.2.1 8))) c (K s.2.1 r p) = Hd s.2.1 c (K s.2.1 r p) := upN_o _ (by omega)
        have eh := x_hear hP (NB_WB hP8.2) hI2 (c := c) (k := K s.2.1 r p) (by rw [upN_o _ (by omega)]; exact hcs) kk (by omega)
        rw [hd8] at eh
        have hI3 := hP.2.2.1 _ _ c (K s.2.1 r p) (min 99 (Hd s.2.1 c (K s.2.1 r p) + 1)) (by omega) (by omega) hI2
        rw [← hH] at hI3
        have hPH : PI N (plH lw r c p s.2.1) := PI_plH k2 (by omega) (by omega) (by omega) hh
        have ek := x_keyAt (hP.1 _ _ hI2) (NB_WB hP8.2) (r := r) (p := p) (by rw [upN_o _ (by omega)]; exact hrs) (by rw [Ln_of hP8 (by omega)]; exact hp)
        rw [kk8] at ek
        obtain ⟨I4, g1, g2⟩ := x_play72 (n := n) (k6 := f4_playRoll_c6 n O m) (y := nI (s.2.2 + 1)) (c := c) hn hO hP hL hPH.2 hI3 (r := r) (p := p) (by rw [hPH.1 0 (by omega) (by omega)]; exact hr') (by rw [Ln_of hPH (by omega)]; exact hp)
        refine ⟨(I4, pl1 lw r c p s.2), ⟨by rw [hz]; exact g1, PI_pl1 k2 (by omega) (by omega) (by omega), hs.symm, pl1_le k4⟩, ?_⟩
        show f4_playRoll_c6 n O (m + 1) s.1 286 wa sx (nI r) (nI c) (nI s.2.2) (nI p) = f4_playRoll_c6 n O m I4 286 wa sx (nI r) (nI c) (nI (pl1 lw r c p s.2).2) (nI (p + 1))
        rw [hz]
        rw [f4_playRoll_c6, es, qb, if_neg hlt, eso, qb, if_neg hz1, o_286_0 hO, q1, qb, om]
        dsimp only
        rw [ed', qb]
        dsimp only
        rw [if_neg (fun q => hb' (by rw [nI_ltI (by omega) (by omega)] at q; exact q)), ek, qb, eh, qb, nI_1]
        exact g2
      · have hb' : s.2.1 8 % 10 < blN s.2.1 lw r p c := of_decide_eq_true hb
        have hz : pl1 lw r c p s.2 = (upN (plH lw r c p s.2.1) (10 + 16 * r + p) (min 9 (Wr (plH lw r c p s.2.1) r p + weN (plH lw r c p s.2.1) lw r p (Wr (plH lw r c p s.2.1) r p))), s.2.2) := by unfold pl1; rw [hh, hb]; rfl
        have hH : plH lw r c p s.2.1 = upN s.2.1 8 (anX (s.2.1 8)) := by unfold plH; rw [hb]; rfl
        rw [← hH] at hI2 hP8
        obtain ⟨I4, g1, g2⟩ := x_play72 (n := n) (k6 := f4_playRoll_c6 n O m) (y := nI s.2.2) (c := c) hn hO hP hL hP8.2 hI2 (r := r) (p := p) (by rw [hP8.1 0 (by omega) (by omega)]; exact hr') (by rw [Ln_of hP8 (by omega)]; exact hp)
        refine ⟨(I4, pl1 lw r c p s.2), ⟨by rw [hz]; exact g1, PI_pl1 k2 (by omega) (by omega) (by omega), hs.symm, pl1_le k4⟩, ?_⟩
        show f4_playRoll_c6 n O (m + 1) s.1 286 wa sx (nI r) (nI c) (nI s.2.2) (nI p) = f4_playRoll_c6 n O m I4 286 wa sx (nI r) (nI c) (nI (pl1 lw r c p s.2).2) (nI (p + 1))
        rw [hz]
        rw [f4_playRoll_c6, es, qb, if_neg hlt, eso, qb, if_neg hz1, o_286_0 hO, q1, qb, om]
        dsimp only
        rw [ed', qb]
        dsimp only
        rw [if_pos (show nI (s.2.1 8 % 10) < nI (blN s.2.1 lw r p c) by rw [nI_ltI (by omega) (by omega)]; exact hb')]
        exact g2
  · intro m s ⟨k1, k2, k3, k4⟩
    have hBs := NB_WB k2.2
    have hV := hP.1 _ _ k1
    have e0 : s.2.1 0 = N 0 := k2.1 0 (by omega) (by omega)
    have el : Ln s.2.1 r = Ln N r := Ln_of k2 (by omega)
    have es := x_size hV hBs (r := r) (by omega)
    have om : rO O wa 2 = mo := hV.1.2.2.1
    have hz : plN lw r c N = s.2 := k3.symm
    refine ⟨s.1, by rw [hz]; exact k1, ?_⟩
    rw [hz]
    rw [f4_playRoll_c6, es, qb, if_pos (by rw [nI_leI (by omega) (by omega)]; omega), om]
end PX2
