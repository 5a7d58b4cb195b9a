/-! a clause: what both hold -/
def paU (pa : Nat → TN) (nc : Nat) (P : TN) : Nat → TN := fun k => if k = nc then P else pa k
theorem paU_s (pa : Nat → TN) (nc : Nat) (P : TN) : paU pa nc P nc = P := if_pos rfl
theorem paU_o (pa : Nat → TN) {nc k : Nat} (P : TN) (h : k ≠ nc) : paU pa nc P k = pa k := if_neg h
def CxD (I : TI) (sc q : Nat) (st so : TN) (pa : Nat → TN) (k : Nat) : Prop := so k ≤ 8 ∧ I (sc + 2) k = nI (kxs (so k)) ∧ (so k = 3 → (1 ≤ pa k 0 ∧ pa k 0 ≤ 16) ∧ ∃ f, f + pa k 0 ≤ q ∧ I (sc + 3) k = nI f ∧ I (sc + 4) k = nI (pa k 0) ∧ ∀ a, a < pa k 0 → pa k (1 + a) ≤ 5 ∧ st (f + a) = pa k (1 + a)) ∧ (5 ≤ so k → so k ≤ 7 → pa k 0 < 100 ∧ pa k 1 < 100 ∧ I (sc + 3) k = nI (pa k 0) ∧ I (sc + 4) k = nI (pa k 1)) ∧ (so k = 8 → 1 ≤ pa k 0 ∧ pa k 0 ≤ 60 ∧ I (sc + 3) k = nI (pa k 0))
def XLw (I : TI) (sc nc q : Nat) (st : TN) (lw : Lws) (s : Nat) : Prop := (lw s = none ∧ I (sc + 5) s = -1) ∨ ∃ v k z0 z1, lw s = some v ∧ k < nc ∧ I (sc + 5) s = nI k ∧ I (sc + 3) k = nI z0 ∧ I (sc + 4) k = nI z1 ∧ z0 ≤ z1 ∧ z1 ≤ q ∧ VX s st z0 z1 v 64
def CFr (sc : Nat) (Ib I : TI) : Prop := (∀ a, a ≠ 324 → (a < sc ∨ sc + 5 < a) → I a = Ib a) ∧ ∀ k, (k < 2 ∨ 7 < k) → I 324 k = Ib 324 k
def KC (B : TN) (z T sc : Nat) (Ib I : TI) (i nc q : Nat) (st so : TN) (pa : Nat → TN) (lw : Lws) : Prop := CFr sc Ib I ∧ KS B z T sc I I i q st ∧ (q ≤ i ∧ I 324 6 = Ib 324 6 ∧ I 324 7 = Ib 324 7) ∧ I sc 6 = nI nc ∧ nc ≤ 24 ∧ (∀ k, k < nc → CxD I sc q st so pa k) ∧ ∀ s, s < 3 → XLw I sc nc q st lw s
theorem KF_self (sc : Nat) (I : TI) : KFr sc I I := ⟨fun _ _ _ _ => rfl, fun _ _ _ _ _ _ => rfl, fun _ _ => rfl⟩
theorem KS_self {B : TN} {z T sc : Nat} {I0 I : TI} {i q : Nat} {st : TN} (h : KS B z T sc I0 I i q st) : KS B z T sc I I i q st := ⟨KF_self sc I, h.2.1, h.2.2.1, h.2.2.2.1, h.2.2.2.2.1, h.2.2.2.2.2.1, ⟨h.2.2.2.2.2.2.1.1, rfl, rfl⟩, h.2.2.2.2.2.2.2⟩
section KD
variable {n : Nat} {O : TO} {B : TN} {z T T0 sc : Nat} {Ib I : TI} {i nc q : Nat} {st so : TN} {pa : Nat → TN} {lw : Lws}
theorem CF_k {I' : TI} (hsc : 300 ≤ sc ∧ sc + 5 < 324) (h : CFr sc Ib I) (g : KFr sc I I') : CFr sc Ib I' := ⟨fun a h1 h2 => (g.1 a h1 (by omega) (by omega)).trans (h.1 a h1 h2), fun k hk => (g.2.1 k (by omega) (by omega) (by omega) (by omega) (by omega)).trans (h.2 k hk)⟩
theorem Cx_st {I' : TI} {k q' : Nat} {st' : TN} (h : CxD I sc q st so pa k) (e2 : I' (sc + 2) = I (sc + 2)) (e3 : I' (sc + 3) = I (sc + 3)) (e4 : I' (sc + 4) = I (sc + 4)) (hq : q ≤ q') (hs : ∀ k, k < q → st' k = st k) : CxD I' sc q' st' so pa k := by
  obtain ⟨h1, h2, h3, h4, h5⟩ := h
  refine ⟨h1, by rw [e2]; exact h2, fun g => ?_, fun g1 g2 => by rw [e3, e4]; exact h4 g1 g2, fun g => by rw [e3]; exact h5 g⟩
  obtain ⟨a1, f, a2, a3, a4, a5⟩ := h3 g
  exact ⟨a1, f, by omega, by rw [e3]; exact a3, by rw [e4]; exact a4, fun a ha => ⟨(a5 a ha).1, by rw [hs _ (by omega)]; exact (a5 a ha).2⟩⟩
theorem Xl_st {I' : TI} {s q' : Nat} {st' : TN} (h : XLw I sc nc q st lw s) (e3 : I' (sc + 3) = I (sc + 3)) (e4 : I' (sc + 4) = I (sc + 4)) (e5 : I' (sc + 5) = I (sc + 5)) (hq : q ≤ q') (hs : ∀ k, k < q → st' k = st k) : XLw I' sc nc q' st' lw s := by
  rcases h with ⟨h1, h2⟩ | ⟨v, k, z0, z1, h1, h2, h3, h4, h5, h6, h7, h8⟩
  · exact Or.inl ⟨h1, by rw [e5]; exact h2⟩
  · exact Or.inr ⟨v, k, z0, z1, h1, h2, by rw [e5]; exact h3, by rw [e3]; exact h4, by rw [e4]; exact h5, h6, by omega, VX_ext h8 (fun x _ hx => hs x (by omega))⟩
theorem kc_step (hsc : 300 ≤ sc ∧ sc + 5 < 324) (h : KC B z T sc Ib I i nc q st so pa lw) {I' : TI} {j q' : Nat} {st' : TN} (g : KS B z T sc I I' j q' st') (hq : q ≤ q') (hq2 : q' ≤ j) (hs : ∀ k, k < q → st' k = st k) : KC B z T sc Ib I' j nc q' st' so pa lw := by
  obtain ⟨h1, h2, h3, h4, h5, h6, h7⟩ := h
  have fr := g.1
  have e2 := fr.1 (sc + 2) (by omega) (by omega) (by omega)
  have e3 := fr.1 (sc + 3) (by omega) (by omega) (by omega)
  have e4 := fr.1 (sc + 4) (by omega) (by omega) (by omega)
  have e5 := fr.1 (sc + 5) (by omega) (by omega) (by omega)
  exact ⟨CF_k hsc h1 fr, KS_self g, ⟨hq2, g.2.2.2.2.2.2.1.2.1.trans h3.2.1, g.2.2.2.2.2.2.1.2.2.trans h3.2.2⟩, by rw [fr.2.2 6 (by omega)]; exact h4, h5, fun k hk => Cx_st (h6 k hk) e2 e3 e4 hq hs, fun s hs' => Xl_st (h7 s hs') e3 e4 e5 hq hs⟩
theorem kc_add (hsc : 300 ≤ sc ∧ sc + 5 < 324) (h : KC B z T sc Ib I i nc q st so pa lw) (hnc : nc < 24) {I' : TI} {k σ : Nat} {P : TN} {f g : Int32} {lw' : Lws} (a1 : I' (sc + 2) nc = nI k ∧ I' (sc + 3) nc = f ∧ I' (sc + 4) nc = g) (a2 : ∀ j, j ≠ nc → I' (sc + 2) j = I (sc + 2) j ∧ I' (sc + 3) j = I (sc + 3) j ∧ I' (sc + 4) j = I (sc + 4) j) (a3 : I' sc 6 = nI (nc + 1)) (a4 : ∀ j, j ≠ 6 → I' sc j = I sc j) (a6 : ∀ a, a ≠ sc → a ≠ sc + 2 → a ≠ sc + 3 → a ≠ sc + 4 → a ≠ sc + 5 → I' a = I a) (hd : CxD I' sc q st (upN so nc σ) (paU pa nc P) nc) (hl : ∀ s, s < 3 → XLw I' sc (nc + 1) q st lw' s) : KC B z T sc Ib I' i (nc + 1) q st (upN so nc σ) (paU pa nc P) lw' := by
  obtain ⟨h1, h2, h3, h4, h5, h6, h7⟩ := h
  obtain ⟨-, k1, k2, k3, k4, k5, k6, k7⟩ := h2
  have e324 : I' 324 = I 324 := a6 324 (by omega) (by omega) (by omega) (by omega) (by omega)
  refine ⟨⟨fun a g1 g2 => by rw [a6 a (by omega) (by omega) (by omega) (by omega) (by omega)]; exact h1.1 a g1 g2, fun k hk => by rw [e324]; exact h1.2 k hk⟩, ⟨KF_self sc I', k1, by rw [e324]; exact k2, by rw [e324]; exact k3, by rw [e324]; exact k4, by rw [a4 5 (by omega)]; exact k5, ⟨k6.1, rfl, rfl⟩, fun k hk => by rw [a6 (sc + 1) (by omega) (by omega) (by omega) (by omega) (by omega)]; exact k7 k hk⟩, ⟨h3.1, by rw [e324]; exact h3.2.1, by rw [e324]; exact h3.2.2⟩, a3, by omega, fun k hk => ?_, hl⟩
  by_cases w : k = nc
  · rw [w]; exact hd
  · obtain ⟨c1, c2, c3, c4, c5⟩ := h6 k (by omega)
    obtain ⟨e2, e3, e4⟩ := a2 k w
    unfold CxD
    rw [upN_o _ w, paU_o _ _ w, e2, e3, e4]
    exact ⟨c1, c2, c3, c4, c5⟩
theorem kc_Kx (hn : 100000 ≤ n) (hO : OF O) (hs1 : rO O 324 1 = sc) (hs2 : rO O sc 0 = sc + 1) (hsc : 300 ≤ sc ∧ sc + 5 < 324) (hT : T ≤ 300) (hT3 : stT B z T = z) (hz : z ≤ 300) (hb : Ib 278 4 = nI z ∧ Ib 278 5 = nI (T + 1) ∧ ∀ k, k < T + 1 → Ib 280 k = nI (kdT B z k) ∧ Ib 281 k = nI (stT B z k) ∧ Ib 282 k = nI (min 10000 (nvT B z k))) (h : CFr sc Ib I) : Kx0 n O B z T sc I := by
  refine ⟨hn, hO, hs1, hs2, hsc, hT, hT3, hz, ?_⟩
  rw [h.1 278 (by omega) (by omega), h.1 280 (by omega) (by omega), h.1 281 (by omega) (by omega), h.1 282 (by omega) (by omega)]
  exact hb
theorem Xl_old {s' : Nat} (h : XLw I sc nc q st lw s') {I' : TI} {lw' : Lws} (hl : lw' s' = lw s') (e5 : I' (sc + 5) s' = I (sc + 5) s') (e : ∀ j, j ≠ nc → I' (sc + 2) j = I (sc + 2) j ∧ I' (sc + 3) j = I (sc + 3) j ∧ I' (sc + 4) j = I (sc + 4) j) : XLw I' sc (nc + 1) q st lw' s' := by
  rcases h with ⟨h1, h2⟩ | ⟨v, k, z0, z1, h1, h2, h3, h4, h5, h6, h7, h8⟩
  · exact Or.inl ⟨by rw [hl]; exact h1, by rw [e5]; exact h2⟩
  · obtain ⟨-, e3, e4⟩ := e k (by omega)
    exact Or.inr ⟨v, k, z0, z1, by rw [hl]; exact h1, by omega, by rw [e5]; exact h3, by rw [e3]; exact h4, by rw [e4]; exact h5, h6, h7, h8⟩
end KD
section MF
variable {n : Nat} {O : TO} {B : TN} {z T T0 : Nat} {Jb J : TI} {L : TL} {i nc : Nat} {cd : List (Nat × Nat)} {so : TN} {pa : Nat → TN} {lw : Lws} {s on : Nat}
theorem Ml_old {s' σ : Nat} {lw' : Lws} (h : MLw J T0 nc cd so lw s') (hσ : σ ≠ s') (hl : lw' s' = lw s') : MLw J T0 (nc + 1) cd (upN so nc σ) lw' s' := by
  rcases h with ⟨h1, h2⟩ | ⟨v, k, X, C, Y, h1, h2, h3, h4, h5⟩
  · refine Or.inl ⟨by rw [hl]; exact h1, fun k hk => ?_⟩
    by_cases w : k = nc
    · rw [w, upN_s]; exact hσ
    · rw [upN_o _ w]; exact h2 k (by omega)
  · exact Or.inr ⟨v, k, X, C, Y, by rw [hl]; exact h1, by omega, by rw [upN_o _ (by omega)]; exact h3, fun j hj => by rw [upN_o _ (by omega)]; exact h4 j hj, h5⟩
theorem Mx_2 {J' : TI} {k : Nat} (h : MxD J T0 so pa k) (e : ∀ x, T0 < x → J' 334 x = J 334 x) : MxD J' T0 so pa k := by
  obtain ⟨h1, h2, h3⟩ := h
  refine ⟨fun g => ?_, fun g1 g2 => ?_, fun g => ?_⟩
  · obtain ⟨a1, a2, a3⟩ := h1 g
    exact ⟨a1, by rw [e _ (by omega)]; exact a2, fun a ha => by rw [e _ (by omega)]; exact a3 a ha⟩
  · rw [e _ (by omega), e _ (by omega)]; exact h2 g1 g2
  · rw [e _ (by omega)]; exact h3 g
theorem Ml_2 {J' : TI} {s' : Nat} (h : MLw J T0 nc cd so lw s') (e : ∀ x, T0 < x → J' 334 x = J 334 x) : MLw J' T0 nc cd so lw s' := by
  rcases h with h | ⟨v, k, X, C, Y, h1, h2, h3, h4, h5, h6, h7, h8⟩
  · exact Or.inl h
  · exact Or.inr ⟨v, k, X, C, Y, h1, h2, h3, h4, h5, by rw [e _ (by omega)]; exact h6, by rw [e _ (by omega)]; exact h7, h8⟩
/-- a clause's body is read well: what it leaves -/
def BdO (n : Nat) (O : TO) (B : TN) (z T T0 : Nat) (i j nc : Nat) (so : TN) (pa : Nat → TN) (lw : Lws) (so' : TN) (pa' : Nat → TN) (lw' : Lws) : Prop := ∀ Jb J L cd, RS B z T T0 Jb J L i nc cd so pa lw → ∃ J2 L2 cd2 σ, f12_clause n J L O 331 = clE n O (0, J2, L2) ∧ BS B z T T0 Jb J2 L2 j nc cd2 so pa lw σ (onB lw') ∧ so' = upN so nc σ ∧ σ ≤ 8 ∧ (∀ k, k ≠ nc → pa' k = pa k) ∧ MxD J2 T0 so' pa' nc ∧ ∀ s, s < 3 → MLw J2 T0 (nc + 1) cd2 so' lw' s
def BdF (n : Nat) (O : TO) (B : TN) (z T T0 : Nat) (i nc : Nat) (so : TN) (pa : Nat → TN) (lw : Lws) (f j : Nat) : Prop := ∀ Jb J L cd, RS B z T T0 Jb J L i nc cd so pa lw → ∃ J' L', f12_clause n J L O 331 = some (nI f, J', L') ∧ J' 331 8 = nI (stT B z j) ∧ RF T0 Jb J'
theorem m_fin (hn : 100000 ≤ n) (hO : OF O) (hT : T0 ≤ 3195) (hT3 : stT B z T = z) {j : Nat} (hnc : nc < 24) (h : BS B z T T0 Jb J L j nc cd so pa lw s on) : (kdT B z j = 59 → ∀ (so' : TN) (pa' : Nat → TN) (lw' : Lws), so' = upN so nc s → s ≤ 8 → (∀ k, k ≠ nc → pa' k = pa k) → MxD J T0 so' pa' nc → (∀ s', s' < 3 → MLw J T0 (nc + 1) cd so' lw' s') → on = onB lw' → ∃ J4 L4, clE n O (0, J, L) = some (0, J4, L4) ∧ RS B z T T0 Jb J4 L4 (j + 1) (nc + 1) cd so' pa' lw') ∧ (kdT B z j ≠ 59 → ∃ J4, clE n O (0, J, L) = some (1, J4, L) ∧ J4 331 8 = nI (stT B z j) ∧ RF T0 Jb J4) := by
  obtain ⟨h1, h2, h3, h4, h5, h6, h7, h8⟩ := h
  obtain ⟨a1, a2, a3, a4, a5, a6, a7⟩ := h4
  have ng : ¬ (nI T0 < 0 ∨ 4260 ≤ (nI T0).toNatClampNeg) := nI_in (by omega) (by omega)
  have pre : clE n O (0, J, L) = (if (sI J 334 T0 (nI (nc + 1)) 331 9) = (59 : Int32) then (f12_nextToken n (sI J 334 T0 (nI (nc + 1))) L O 331).bind fun r15 => some ((0 : Int32), r15.1, r15.2) else some ((1 : Int32), sI J 334 T0 (nI (nc + 1)), L)) := by
    unfold clE
    rw [if_pos rfl]
    show (if (J 331 12) < 0 ∨ 4260 ≤ (J 331 12).toNatClampNeg then none else (if (J 331 12) < 0 ∨ 4260 ≤ (J 331 12).toNatClampNeg then none else bl (sI J (rO O 331 2) (J 331 12).toNatClampNeg ((J (rO O 331 2) (J 331 12).toNatClampNeg) + 1)) _)) = _
    rw [a3, if_neg ng, if_neg ng, o_331_2 hO, qcl (by omega), a4, nI_1, qbl]
  have rt : RT (sI J 334 T0 (nI (nc + 1))) L B z j := RT_fr h1 (fun k hk => by rw [sI_o _ _ (by omega)]) (sI_o _ _ (by omega))
  have t59 := tk_sg rt 59 rfl
  have rf : RF T0 Jb (sI J 334 T0 (nI (nc + 1))) := ⟨fun a g1 g2 g3 => by rw [sI_o _ _ g2]; exact h6.1 a g1 g2 g3, fun k hk => by rw [sI_o _ _ (by omega)]; exact h6.2.1 k hk, fun x hx => by rw [sI_k _ _ (by omega)]; exact h6.2.2 x hx⟩
  refine ⟨fun k59 so' pa' lw' e1 e2 e3 e4 e5 e6 => ?_, fun k59 => ?_⟩
  · have jT := kd_T hT3 h2 (show kdT B z j ≠ 27 by omega)
    obtain ⟨J4, L4, q1, q2, q3⟩ := m_tokS (n := n) hn hO rt
    have e334 : J4 334 = sI J 334 T0 (nI (nc + 1)) 334 := q3.1 334 (by omega)
    have ex : ∀ x, T0 < x → J4 334 x = J 334 x := fun x hx => by rw [e334, sI_k _ _ (by omega)]
    have j331 : ∀ k, k ≠ 7 → k ≠ 8 → k ≠ 9 → k ≠ 10 → J4 331 k = J 331 k := fun k g1 g2 g3 g4 => by rw [q3.2 k g1 g2 g3 g4, sI_o _ _ (by omega)]
    refine ⟨J4, L4, ?_, q2, by omega, by omega, ⟨⟨by rw [j331 13 (by omega) (by omega) (by omega) (by omega)]; exact a1.1, fun k hk => by rw [ex _ (by omega), ex _ (by omega)]; exact a1.2 k hk⟩, a2, by rw [j331 12 (by omega) (by omega) (by omega) (by omega)]; exact a3, by rw [e334, sI_s], by omega, fun k hk => ?_, fun s' hs' => Ml_2 (e5 s' hs') ex⟩, by rw [j331 19 (by omega) (by omega) (by omega) (by omega), ← e6]; exact h5, ⟨fun a g1 g2 g3 => by rw [q3.1 a g1]; exact rf.1 a g1 g2 g3, fun k hk => by rw [q3.2 k (by omega) (by omega) (by omega) (by omega)]; exact rf.2.1 k hk, fun x hx => by rw [e334]; exact rf.2.2 x hx⟩⟩
    · rw [pre, if_pos (show _ = (59 : Int32) from t59.mpr k59), q1, qb]
    · by_cases w : k = nc
      · rw [w]
        exact ⟨by rw [e1, upN_s]; exact e2, by rw [ex _ (by omega), e1, upN_s]; exact h7, Mx_2 e4 ex⟩
      · obtain ⟨b1, b2, b3⟩ := a6 k (by omega)
        have es : so' k = so k := by rw [e1, upN_o _ w]
        refine ⟨by rw [es]; exact b1, by rw [ex _ (by omega), es]; exact b2, ?_⟩
        have b4 := Mx_2 b3 ex
        unfold MxD at b4 ⊢
        rw [es, e3 k w]; exact b4
  · refine ⟨sI J 334 T0 (nI (nc + 1)), ?_, by rw [sI_o _ _ (by omega)]; exact h1.2.2.1, rf⟩
    rw [pre, if_neg (show ¬ _ = (59 : Int32) from fun g => k59 (t59.mp g))]
end MF
