/-! a clause, read by both -/
section RC
variable {n : Nat} {O : TO} {B : TN} {z T T0 sc : Nat} {Ib I : TI} {i nc q : Nat} {st so : TN} {pa : Nat → TN} {lw : Lws}
def Cl0 (n : Nat) (O : TO) (B : TN) (z T T0 sc : Nat) (Ib : TI) : Prop := 100000 ≤ n ∧ OF O ∧ rO O 324 1 = sc ∧ (∃ t, t < 4 ∧ sc = 300 + 6 * t) ∧ T0 ≤ 3195 ∧ T ≤ 300 ∧ stT B z T = z ∧ z ≤ 300 ∧ (∀ p, p < z → B p < 256) ∧ (Ib 278 4 = nI z ∧ Ib 278 5 = nI (T + 1) ∧ ∀ k, k < T + 1 → Ib 280 k = nI (kdT B z k) ∧ Ib 281 k = nI (stT B z k) ∧ Ib 282 k = nI (min 10000 (nvT B z k)))
theorem cl_sc (hx : Cl0 n O B z T T0 sc Ib) : (300 ≤ sc ∧ sc + 5 < 324) ∧ rO O sc 0 = sc + 1 := by
  obtain ⟨-, hO, -, ⟨t, ht, rfl⟩, -⟩ := hx
  exact ⟨by omega, (hO.2.2.2 t ht).2.1⟩
theorem cl_kx (hx : Cl0 n O B z T T0 sc Ib) (h : CFr sc Ib I) : Kx0 n O B z T sc I := by
  obtain ⟨s1, s2⟩ := cl_sc hx
  obtain ⟨a1, a2, a3, a4, a5, a6, a7, a8, a9, a10⟩ := hx
  exact kc_Kx a1 a2 a3 s2 s1 a6 a7 a8 a10 h
def RcO (n : Nat) (O : TO) (B : TN) (z T T0 sc : Nat) (Ib : TI) (i nc : Nat) (so : TN) (pa : Nat → TN) (lw : Lws) (res : Option (Int32 × TI)) : Prop := ∃ I3 j q' st' so' pa' lw', res = some (1, I3) ∧ KC B z T sc Ib I3 j (nc + 1) q' st' so' pa' lw' ∧ i < j ∧ BdO n O B z T T0 i j nc so pa lw so' pa' lw'
def RcF (n : Nat) (O : TO) (B : TN) (z T T0 sc : Nat) (Ib : TI) (i nc : Nat) (so : TN) (pa : Nat → TN) (lw : Lws) (res : Option (Int32 × TI)) : Prop := ∃ I' f j, res = some (0, I') ∧ CFr sc Ib I' ∧ (1 ≤ f ∧ f ≤ 7) ∧ j ≤ T ∧ I' 324 6 = nI f ∧ I' 324 7 = nI (stT B z j) ∧ BdF n O B z T T0 i nc so pa lw f j
theorem rc_f (hx : Cl0 n O B z T T0 sc Ib) (hc : CFr sc Ib I) {I' : TI} {f j : Nat} {res : Option (Int32 × TI)} (e : res = some (0, I')) (h : KFl B z T sc I I' f j) (g : BdF n O B z T T0 i nc so pa lw f j) : RcF n O B z T T0 sc Ib i nc so pa lw res := by
  obtain ⟨h1, h2, h3, h4, h5⟩ := h
  exact ⟨I', f, j, e, CF_k (cl_sc hx).1 hc h1, h2, h3, h4, h5, g⟩
/-- the reference, before the body -/
theorem bd_pre (hx : Cl0 n O B z T T0 sc Ib) (hk : kdT B z i ≤ 8) (hl : kdT B z i < 3 → lw (kdT B z i) = none) (hnc : nc < 24) {Jb J : TI} {L : TL} {cd : List (Nat × Nat)} (hR : RS B z T T0 Jb J L i nc cd so pa lw) : ∃ J1 L1 on, f12_clause n J L O 331 = (f12_body n J1 L1 O 331 (nI (srt (kdT B z i))) (nI (T0 + 1 + 19 * nc))).bind (clE n O) ∧ BS B z T T0 Jb J1 L1 (i + 1) nc cd so pa lw (srt (kdT B z i)) on ∧ (3 ≤ kdT B z i → on = onB lw) ∧ (kdT B z i < 3 → ∀ v, on = onB (lwU lw (kdT B z i) v)) :=
  (m_clB hx.1 hx.2.1 hx.2.2.2.2.1 hx.2.2.2.2.2.2.1 hR hk hl).2 hnc
/-- no law: the laws stay -/
theorem bd_old {Jb J2 : TI} {L2 : TL} {cd : List (Nat × Nat)} {σ on j : Nat} (h : BS B z T T0 Jb J2 L2 j nc cd so pa lw σ on) (hσ : 3 ≤ σ) : ∀ s, s < 3 → MLw J2 T0 (nc + 1) cd (upN so nc σ) lw s := fun s hs => Ml_old (h.2.2.2.1.2.2.2.2.2.2 s hs) (by omega) rfl
theorem bdF_b (hx : Cl0 n O B z T T0 sc Ib) (hk : kdT B z i ≤ 8) (hl : kdT B z i < 3 → lw (kdT B z i) = none) (hnc : nc < 24) {f j : Nat} (hf : 1 ≤ f ∧ f ≤ 7) (hb : ∀ Jb J1 L1 cd on, BS B z T T0 Jb J1 L1 (i + 1) nc cd so pa lw (srt (kdT B z i)) on → ∃ J' L', f12_body n J1 L1 O 331 (nI (srt (kdT B z i))) (nI (T0 + 1 + 19 * nc)) = some (nI f, J', L') ∧ J' 331 8 = nI (stT B z j) ∧ RF T0 Jb J') : BdF n O B z T T0 i nc so pa lw f j := by
  intro Jb J L cd hR
  obtain ⟨J1, L1, on, b1, b2, b3, b4⟩ := bd_pre hx hk hl hnc hR
  obtain ⟨J', L', c1, c2, c3⟩ := hb Jb J1 L1 cd on b2
  refine ⟨J', L', ?_, c2, c3⟩
  rw [b1, c1, qb]
  unfold clE
  rw [if_neg (show ¬ nI f = 0 from nI_ne0 (by omega) (by omega))]
theorem x_begin (hx : Cl0 n O B z T T0 sc Ib) (h : KC B z T sc Ib I i nc q st so pa lw) : RcF n O B z T T0 sc Ib i nc so pa lw (f5_canBegin I O 324 (I 324 3)) ∨ (kdT B z i ≤ 8 ∧ (kdT B z i < 3 → lw (kdT B z i) = none) ∧ nc < 24 ∧ f5_canBegin I O 324 (I 324 3) = some (1, I)) := by
  have hx0 := cl_kx hx h.1
  obtain ⟨s1, s2⟩ := cl_sc hx
  have hxx := hx
  obtain ⟨hn, hO, hs1, hsc, hT0, hT, hT3, hz, hB, -⟩ := hxx
  obtain ⟨h1, h2, h3, h4, h5, h6, h7⟩ := h
  have kl := kd_lt B z i hB
  have k3 : I 324 3 = nI (kdT B z i) := h2.2.2.2.1
  rw [k3]
  by_cases k8 : kdT B z i ≤ 8
  · have pre : f5_canBegin I O 324 (nI (kdT B z i)) = (f7_hasLaw I O sc (nI (kdT B z i))).bind fun r6 => (if r6 = 0 then (if (I sc 6) < (24 : Int32) then some ((1 : Int32), I) else (f5_refuse I O 324 (6 : Int32)).bind fun r10 => (if r10.1 = 0 then some ((0 : Int32), r10.2) else some ((1 : Int32), r10.2))) else (f5_refuse I O 324 (4 : Int32)).bind fun r13 => some (r13.1, r13.2)) := by
      rw [f5_canBegin, if_neg (fun g => by have := (nI_ltI (b := 0) (by omega) (by omega)).mp g; omega), if_pos (show nI (kdT B z i) ≤ 8 from (nI_leI (b := 8) (by omega) (by omega)).mpr k8), hs1]
    have law : (∃ w, f7_hasLaw I O sc (nI (kdT B z i)) = some w ∧ ¬ w = 0 ∧ kdT B z i < 3 ∧ lw (kdT B z i) ≠ none) ∨ (f7_hasLaw I O sc (nI (kdT B z i)) = some 0 ∧ (kdT B z i < 3 → lw (kdT B z i) = none)) := by
      have n0 : ¬ nI (kdT B z i) < 0 := fun g => by have := (nI_ltI (b := 0) (by omega) (by omega)).mp g; omega
      by_cases w : kdT B z i < 3
      · obtain ⟨t, ht, et⟩ := hsc
        have o4 : rO O sc 4 = sc + 5 := by rw [et]; exact (hO.2.2.2 t ht).2.2.2.2.2
        have la : f7_lawAt I O sc (nI (kdT B z i)) = some (I (sc + 5) (kdT B z i)) := by
          rw [f7_lawAt, if_neg n0, if_neg (show ¬ (2 : Int32) < nI (kdT B z i) from fun g => by have := (nI_ltI (a := 2) (by omega) (by omega)).mp g; omega), if_neg (nI_in (by omega) (by omega)), o4, qcl (by omega)]
        rcases h7 (kdT B z i) w with ⟨a, b⟩ | ⟨v, k', z0, z1, a, b, c, -⟩
        · right
          exact ⟨by rw [f7_hasLaw, la, qb, b, if_pos rfl], fun _ => a⟩
        · left
          exact ⟨1, by rw [f7_hasLaw, la, qb, c, if_neg (nI_nm (by omega))], by decide, w, by rw [a]; intro g; cases g⟩
      · right
        refine ⟨?_, fun g => absurd g w⟩
        rw [f7_hasLaw, f7_lawAt, if_neg n0, if_pos (show (2 : Int32) < nI (kdT B z i) from (nI_ltI (a := 2) (by omega) (by omega)).mpr (by omega)), qb, if_pos rfl]
    rw [pre]
    rcases law with ⟨w, l1, l2, l3, l4⟩ | ⟨l1, l2⟩
    · left
      obtain ⟨I', q1, q2⟩ := y_ref hx0 h2 (f := 4) ⟨by omega, by omega⟩
      refine rc_f hx h1 (I' := I') ?_ q2 (fun Jb J L cd hR => ⟨J, L, m_clF4 hR l3 l4, hR.1.2.2.1, hR.2.2.2.2.2⟩)
      rw [l1, qb, if_neg l2, show f5_refuse I O 324 4 = _ from q1, qb]
    · rw [l1, qb, if_pos rfl, h4]
      by_cases w : nc < 24
      · right
        exact ⟨k8, l2, w, by rw [if_pos (show nI nc < 24 from (nI_ltI (b := 24) (by omega) (by omega)).mpr w)]⟩
      · left
        obtain ⟨I', q1, q2⟩ := y_ref hx0 h2 (f := 6) ⟨by omega, by omega⟩
        refine rc_f hx h1 (I' := I') ?_ q2 (fun Jb J L cd hR => ⟨J, L, (m_clB hn hO hT0 hT3 hR k8 l2).1 (by omega), hR.1.2.2.1, hR.2.2.2.2.2⟩)
        rw [if_neg (show ¬ nI nc < 24 from fun g => w ((nI_ltI (b := 24) (by omega) (by omega)).mp g)), show f5_refuse I O 324 6 = _ from q1, qb, if_pos rfl]
  · left
    obtain ⟨I', q1, q2⟩ := y_ref hx0 h2 (f := 1) ⟨by omega, by omega⟩
    refine rc_f hx h1 (I' := I') ?_ q2 (fun Jb J L cd hR => ⟨J, L, m_clF1 hR k8, hR.1.2.2.1, hR.2.2.2.2.2⟩)
    rw [f5_canBegin, if_neg (fun g => by have := (nI_ltI (b := 0) (by omega) (by omega)).mp g; omega), if_neg (show ¬ nI (kdT B z i) ≤ 8 from nle_i (b := 8) (by omega) (by omega) (by omega)), show f5_refuse I O 324 1 = _ from q1, qb]
/-- a clause that is no law is laid down -/
theorem x_lay (hx : Cl0 n O B z T T0 sc Ib) (h : KC B z T sc Ib I i nc q st so pa lw) (hnc : nc < 24) {k : Nat} (hk3 : 3 ≤ k) (hk8 : k ≤ 8) {P : TN} {f g : Int32} (hd : ∀ I' : TI, I' (sc + 2) nc = nI k → I' (sc + 3) nc = f → I' (sc + 4) nc = g → CxD I' sc q st (upN so nc (srt k)) (paU pa nc P) nc) : ∃ I', f7_addClause I O (rO O 324 1) (nI k) f g = some I' ∧ KC B z T sc Ib I' i (nc + 1) q st (upN so nc (srt k)) (paU pa nc P) lw := by
  obtain ⟨s1, s2⟩ := cl_sc hx
  obtain ⟨hn, hO, hs1, hsc, -⟩ := hx
  obtain ⟨I', q1, q2, q3, q4, q5, q6, q7, q8⟩ := y_addC (f := f) (g := g) hO hs1 hsc h.2.2.2.1 hnc hk8
  exact ⟨I', q1, kc_add s1 h hnc q2 q3 q4 q5 q8 (hd I' q2.1 q2.2.1 q2.2.2) (fun s hs => Xl_old (h.2.2.2.2.2.2 s hs) rfl (q7 s (by omega)) q3)⟩
theorem bdO_b (hx : Cl0 n O B z T T0 sc Ib) (hk : kdT B z i ≤ 8) (hk3 : 3 ≤ kdT B z i) (hnc : nc < 24) {j : Nat} {P : TN} (hb : ∀ Jb J1 L1 cd on, BS B z T T0 Jb J1 L1 (i + 1) nc cd so pa lw (srt (kdT B z i)) on → ∃ J' L', f12_body n J1 L1 O 331 (nI (srt (kdT B z i))) (nI (T0 + 1 + 19 * nc)) = some (0, J', L') ∧ BS B z T T0 Jb J' L' j nc cd so pa lw (srt (kdT B z i)) on ∧ MxD J' T0 (upN so nc (srt (kdT B z i))) (paU pa nc P) nc) : BdO n O B z T T0 i j nc so pa lw (upN so nc (srt (kdT B z i))) (paU pa nc P) lw := by
  obtain ⟨r1, r2, r3, r4⟩ := srt_ok (kdT B z i) hk
  intro Jb J L cd hR
  obtain ⟨J1, L1, on, b1, b2, b3, b4⟩ := bd_pre hx hk (fun g => by omega) hnc hR
  obtain ⟨J', L', c1, c2, c3⟩ := hb Jb J1 L1 cd on b2
  rw [b3 hk3] at c2
  refine ⟨J', L', cd, srt (kdT B z i), by rw [b1, c1, qb], c2, rfl, r2, fun k hk => paU_o _ _ hk, c3, bd_old c2 (by
    by_cases w : srt (kdT B z i) < 3
    · have := r3.mp w; omega
    · omega)⟩
theorem b_child (hx : Cl0 n O B z T T0 sc Ib) (hk : kdT B z i = 3) (hnc : nc < 24) {I1 : TI} (h : KC B z T sc Ib I1 (i + 1) nc q st so pa lw) : RcO n O B z T T0 sc Ib i nc so pa lw ((f7_addClause I1 O (rO O 324 1) (3 : Int32) (0 : Int32) (0 : Int32)).bind fun r8 => some ((1 : Int32), r8)) := by
  obtain ⟨I3, q1, q2⟩ := x_lay (P := fun _ => 0) hx h hnc (k := 3) (by omega) (by omega) (f := 0) (g := 0) (fun I' e1 e2 e3 => by
    unfold CxD
    rw [upN_s]
    exact ⟨by decide, e1, fun g => absurd g (by decide), fun g => absurd g (by decide), fun g => absurd g (by decide)⟩)
  refine ⟨I3, i + 1, q, st, _, _, lw, by rw [show f7_addClause I1 O (rO O 324 1) 3 0 0 = _ from q1, qb], q2, by omega, ?_⟩
  have := bdO_b (i := i) (n := n) (O := O) (so := so) (pa := pa) (lw := lw) (P := fun _ => 0) (j := i + 1) hx (by omega) (by omega) hnc (fun Jb J1 L1 cd on hb => ⟨J1, L1, by rw [hk]; rfl, hb, by
    unfold MxD
    rw [upN_s, hk]
    exact ⟨fun g => absurd g (by decide), fun g => absurd g (by decide), fun g => absurd g (by decide)⟩⟩)
  rw [hk] at this
  exact this
theorem b_sund (hx : Cl0 n O B z T T0 sc Ib) (hk : kdT B z i = 8) (hnc : nc < 24) {I1 : TI} (h : KC B z T sc Ib I1 (i + 1) nc q st so pa lw) : RcO n O B z T T0 sc Ib i nc so pa lw (f5_readSundays I1 O 324) ∨ RcF n O B z T T0 sc Ib i nc so pa lw (f5_readSundays I1 O 324) := by
  have hx0 := cl_kx hx h.1
  obtain ⟨s1, s2⟩ := cl_sc hx
  have hxx := hx
  obtain ⟨hn, hO, hs1, hsc, hT0, hT, hT3, hz, hB, -⟩ := hxx
  rcases y_isn hx0 hB h.2.1 (lo := 1) (hi := 60) (by omega) (by omega) with ⟨⟨a1, a2, a3⟩, a4⟩ | ⟨f, I', a1, a2, a3⟩
  · left
    have k4 : I1 324 4 = nI (nvT B z (i + 1)) := by rw [h.2.1.2.2.2.2.1, Nat.min_eq_right (by omega)]
    obtain ⟨I2, q1, q2⟩ := x_lay (P := fun _ => nvT B z (i + 1)) hx h hnc (k := 8) (by omega) (by omega) (f := nI (nvT B z (i + 1))) (g := 0) (fun I' e1 e2 e3 => by
      unfold CxD
      rw [upN_s, paU_s]
      exact ⟨by decide, e1, fun g => absurd g (by decide), fun g1 g2 => absurd g2 (by decide), fun _ => ⟨a2, a3, e2⟩⟩)
    obtain ⟨I3, r1, r2⟩ := y_nxt (cl_kx hx q2.1) q2.2.1 (by omega)
    refine ⟨I3, i + 2, q, st, _, _, lw, ?_, kc_step s1 q2 r2 (Nat.le_refl _) (by have := q2.2.2.1; omega) (fun _ _ => rfl), by omega, ?_⟩
    · rw [f5_readSundays, show f5_isNumber I1 O 324 1 60 = _ from a4, qb, if_neg (show ¬ (1 : Int32) = 0 by decide)]
      show (f7_addClause I1 O (rO O 324 1) 8 (I1 324 4) 0).bind _ = _
      rw [k4, show f7_addClause I1 O (rO O 324 1) 8 (nI (nvT B z (i + 1))) 0 = _ from q1, qb, r1, qb]
    · have := bdO_b (i := i) (n := n) (O := O) (so := so) (pa := pa) (lw := lw) (P := fun _ => nvT B z (i + 1)) (j := i + 2) hx (by omega) (by omega) hnc (fun Jb J1 L1 cd on hb => by
        obtain ⟨J', L', c1, c2, c3, c4⟩ := m_figO hn hO hT0 hT3 hb hnc (y := T0 + 1 + 19 * nc + 1) (lo := 1) (hi := 60) (by omega) (by omega) a1 a2 a3 (by omega)
        refine ⟨J', L', ?_, c2, ?_⟩
        · rw [hk]
          show f12_body n J1 L1 O 331 8 (nI (T0 + 1 + 19 * nc)) = _
          rw [f12_body, if_neg (by decide), if_neg (by decide), if_neg (by decide), if_neg (by decide), if_neg (by decide), if_pos rfl, nI_1, show f12_figure n J1 L1 O 331 (nI (T0 + 1 + 19 * nc + 1)) 1 60 = _ from c1, qb]
        · unfold MxD
          rw [upN_s, paU_s, hk]
          exact ⟨fun g => absurd g (by decide), fun g1 g2 => absurd g2 (by decide), fun _ => c3⟩)
      rw [hk] at this
      exact this
  · right
    have fr := NmF_r (B := B) (z := z) (i := i + 1) (lo := 1) (hi := 60) (f := f) a3
    refine rc_f hx h.1 (I' := I') ?_ a2 (bdF_b hx (by omega) (fun g => by omega) hnc fr (fun Jb J1 L1 cd on hb => ⟨J1, L1, ?_, hb.1.2.2.1, hb.2.2.2.2.2.1⟩))
    · rw [f5_readSundays, show f5_isNumber I1 O 324 1 60 = _ from a1, qb, if_pos rfl]
    · rw [hk]
      show f12_body n J1 L1 O 331 8 (nI (T0 + 1 + 19 * nc)) = _
      rw [f12_body, if_neg (by decide), if_neg (by decide), if_neg (by decide), if_neg (by decide), if_neg (by decide), if_pos rfl, show f12_figure n J1 L1 O 331 (nI (T0 + 1 + 19 * nc) + 1) 1 60 = _ from m_figF (lo := 1) (hi := 60) hb a3 (by omega) (by omega), qb]
theorem b_pair (hx : Cl0 n O B z T T0 sc Ib) {k lo hi w hi2 : Nat} (hkk : kdT B z i = k) (hk : (k = 4 ∧ lo = 0 ∧ hi = 4 ∧ w = 23 ∧ hi2 = 3) ∨ (k = 5 ∧ lo = 0 ∧ hi = 15 ∧ w = 24 ∧ hi2 = 4) ∨ (k = 6 ∧ lo = 1 ∧ hi = 5 ∧ w = 25 ∧ hi2 = 3)) (hnc : nc < 24) {I1 : TI} (h : KC B z T sc Ib I1 (i + 1) nc q st so pa lw) : RcO n O B z T T0 sc Ib i nc so pa lw (f5_readPair I1 O 324 (nI k) (nI lo) (nI hi) (nI w) (nI hi2)) ∨ RcF n O B z T T0 sc Ib i nc so pa lw (f5_readPair I1 O 324 (nI k) (nI lo) (nI hi) (nI w) (nI hi2)) := by
  have hx0 := cl_kx hx h.1
  obtain ⟨s1, s2⟩ := cl_sc hx
  have hxx := hx
  obtain ⟨hn, hO, hs1, hsc, hT0, hT, hT3, hz, hB, -⟩ := hxx
  have sk : 5 ≤ srt k ∧ srt k ≤ 7 ∧ kxs (srt k) = k := by rcases hk with ⟨rfl, -⟩ | ⟨rfl, -⟩ | ⟨rfl, -⟩ <;> decide
  have body : ∀ (J1 : TI) (L1 : TL) (y : Int32), f12_body n J1 L1 O 331 (nI (srt k)) y = f12_pair n J1 L1 O 331 y (nI lo) (nI hi) (lN (pkW w)) (nI hi2) := by
    intro J1 L1 y
    obtain ⟨-, -, -, -, -, -, -, -, -, d23, d24, d25⟩ := w_d
    rcases hk with ⟨rfl, rfl, rfl, rfl, rfl⟩ | ⟨rfl, rfl, rfl, rfl, rfl⟩ | ⟨rfl, rfl, rfl, rfl, rfl⟩
    · show f12_body n J1 L1 O 331 5 y = _
      rw [f12_body, if_neg (by decide), if_neg (by decide), if_pos rfl, d23, qb, bd_eta]; rfl
    · show f12_body n J1 L1 O 331 6 y = _
      rw [f12_body, if_neg (by decide), if_neg (by decide), if_neg (by decide), if_pos rfl, d24, qb, bd_eta]; rfl
    · show f12_body n J1 L1 O 331 7 y = _
      rw [f12_body, if_neg (by decide), if_neg (by decide), if_neg (by decide), if_neg (by decide), if_pos rfl, d25, qb, bd_eta]; rfl
  have flt : ∀ f j, 1 ≤ f ∧ f ≤ 7 → PrF B z (i + 1) lo hi w hi2 f j → BdF n O B z T T0 i nc so pa lw f j := fun f j hf hp => bdF_b hx (by omega) (fun g => by omega) hnc hf (fun Jb J1 L1 cd on hb => by
    obtain ⟨J', L', c1, c2⟩ := m_pairF hn hO hT0 hT3 hb hnc (x := T0 + 1 + 19 * nc) rfl (w := w) (by omega) (by omega) (by omega) (by omega) hp
    exact ⟨J', L', by rw [hkk, body]; exact c1, c2.1.2.2.1, c2.2.2.2.2.2.1⟩)
  rcases y_isn hx0 hB h.2.1 (lo := lo) (hi := hi) (by omega) (by omega) with ⟨⟨a1, a2, a3⟩, a4⟩ | ⟨f, I', a1, a2, a3⟩
  · obtain ⟨I2, c1, c2⟩ := y_nxt hx0 h.2.1 (by omega)
    have pre : f5_readPair I1 O 324 (nI k) (nI lo) (nI hi) (nI w) (nI hi2) = (f5_expect I2 O 324 (nI w)).bind fun r6 => (if r6.1 = 0 then some ((0 : Int32), r6.2) else (f5_isNumber r6.2 O 324 (0 : Int32) (nI hi2)).bind fun r9 => (if r9.1 = 0 then some ((0 : Int32), r9.2) else (f7_addClause r9.2 O (rO O 324 1) (nI k) (nI (nvT B z (i + 1))) (r9.2 324 4)).bind fun r13 => (f5_comeTo r13 O 324 ((r13 324 2) + 1)).bind fun r15 => some ((1 : Int32), r15))) := by
      have k4 : I1 324 4 = nI (nvT B z (i + 1)) := by rw [h.2.1.2.2.2.2.1, Nat.min_eq_right (by omega)]
      rw [f5_readPair, a4, qb, if_neg (show ¬ (1 : Int32) = 0 by decide)]
      show (f5_comeTo I1 O 324 (I1 324 2 + 1)).bind _ = _
      rw [c1, qb]
      show (f5_expect I2 O 324 (nI w)).bind (fun r6 => (if r6.1 = 0 then some ((0 : Int32), r6.2) else (f5_isNumber r6.2 O 324 (0 : Int32) (nI hi2)).bind fun r9 => (if r9.1 = 0 then some ((0 : Int32), r9.2) else (f7_addClause r9.2 O (rO O 324 1) (nI k) (I1 324 4) (r9.2 324 4)).bind fun r13 => (f5_comeTo r13 O 324 ((r13 324 2) + 1)).bind fun r15 => some ((1 : Int32), r15)))) = _
      rw [k4]
    rw [pre]
    rcases y_exp hx0 hB c2 (w := w) (by omega) (by omega) with ⟨e1, I3, e2, e3⟩ | ⟨e1, I3, e2, e3⟩
    · rw [e2, qb, if_neg (show ¬ (1 : Int32) = 0 by decide)]
      rcases y_isn hx0 hB e3 (lo := 0) (hi := hi2) (by omega) (by omega) with ⟨⟨g1, g2, g3⟩, g4⟩ | ⟨f, I', g1, g2, g3⟩
      · left
        have k4 : I3 324 4 = nI (nvT B z (i + 1 + 1 + 1)) := by rw [e3.2.2.2.2.1, Nat.min_eq_right (by omega)]
        have g4' : f5_isNumber (1, I3).2 O 324 0 (nI hi2) = some (1, I3) := g4
        rw [g4', qb, if_neg (show ¬ (1 : Int32) = 0 by decide)]
        show RcO n O B z T T0 sc Ib i nc so pa lw ((f7_addClause I3 O (rO O 324 1) (nI k) (nI (nvT B z (i + 1))) (I3 324 4)).bind _)
        rw [k4]
        have kc3 := kc_step s1 h e3 (Nat.le_refl _) (by have := h.2.2.1; omega) (fun _ _ => rfl)
        obtain ⟨I4, q1, q2⟩ := x_lay (P := fun a => if a = 0 then nvT B z (i + 1) else nvT B z (i + 1 + 1 + 1)) hx kc3 hnc (k := k) (by omega) (by omega) (f := nI (nvT B z (i + 1))) (g := nI (nvT B z (i + 1 + 1 + 1))) (fun I' u1 u2 u3 => by
          unfold CxD
          rw [upN_s, paU_s]
          exact ⟨by omega, by rw [sk.2.2]; exact u1, fun g => by omega, fun _ _ => ⟨by show nvT B z (i + 1) < 100; omega, by show nvT B z (i + 1 + 1 + 1) < 100; omega, u2, u3⟩, fun g => by omega⟩)
        rw [q1, qb]
        obtain ⟨I5, r1, r2⟩ := y_nxt (cl_kx hx q2.1) q2.2.1 (by omega)
        rw [r1, qb]
        refine ⟨I5, i + 4, q, st, _, _, lw, rfl, kc_step s1 q2 r2 (Nat.le_refl _) (by have := q2.2.2.1; omega) (fun _ _ => rfl), by omega, ?_⟩
        have := bdO_b (i := i) (n := n) (O := O) (so := so) (pa := pa) (lw := lw) (P := fun a => if a = 0 then nvT B z (i + 1) else nvT B z (i + 1 + 1 + 1)) (j := i + 4) hx (by omega) (by omega) hnc (fun Jb J1 L1 cd on hb => by
          obtain ⟨J', L', c1, c2, c3, c4⟩ := m_pairO hn hO hT0 hT3 hb hnc (x := T0 + 1 + 19 * nc) rfl (w := w) (lo := lo) (hi := hi) (hi2 := hi2) (by omega) (by omega) (by omega) ⟨⟨a1, a2, a3⟩, e1, g1, g3⟩
          refine ⟨J', L', by rw [hkk, body]; exact c1, c2, ?_⟩
          unfold MxD
          rw [upN_s, paU_s, hkk]
          exact ⟨fun g => by omega, fun _ _ => ⟨c3, c4⟩, fun g => by omega⟩)
        rw [hkk] at this
        exact this
      · right
        have g1' : f5_isNumber (1, I3).2 O 324 0 (nI hi2) = some (0, I') := g1
        have fr := NmF_r (B := B) (z := z) (i := i + 1 + 1 + 1) (lo := 0) (hi := hi2) (f := f) g3
        exact rc_f hx h.1 (I' := I') (by rw [g1', qb, if_pos rfl]) g2 (flt f _ fr (Or.inr ⟨⟨a1, a2, a3⟩, Or.inr ⟨e1, g3, rfl⟩⟩))
    · right
      exact rc_f hx h.1 (I' := I3) (by rw [e2, qb, if_pos rfl]) e3 (flt 1 _ ⟨by omega, by omega⟩ (Or.inr ⟨⟨a1, a2, a3⟩, Or.inl ⟨e1, rfl, rfl⟩⟩))
  · right
    have fr := NmF_r (B := B) (z := z) (i := i + 1) (lo := lo) (hi := hi) (f := f) a3
    exact rc_f hx h.1 (I' := I') (by rw [f5_readPair, a1, qb, if_pos rfl]) a2 (flt f _ fr (Or.inl ⟨a3, rfl⟩))
end RC
