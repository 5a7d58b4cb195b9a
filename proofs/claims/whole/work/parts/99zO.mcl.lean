/-! the reference reads a clause -/
def MxD (J : TI) (T0 : Nat) (so : TN) (pa : Nat → TN) (k : Nat) : Prop := (so k = 3 → pa k 0 ≤ 16 ∧ J 334 (T0 + 1 + 19 * k + 1) = nI (pa k 0) ∧ ∀ a, a < pa k 0 → J 334 (T0 + 1 + 19 * k + 2 + a) = nI (pa k (1 + a))) ∧ (5 ≤ so k → so k ≤ 7 → J 334 (T0 + 1 + 19 * k + 1) = nI (pa k 0) ∧ J 334 (T0 + 1 + 19 * k + 2) = nI (pa k 1)) ∧ (so k = 8 → J 334 (T0 + 1 + 19 * k + 1) = nI (pa k 0))
def MLw (J : TI) (T0 nc : Nat) (cd : List (Nat × Nat)) (so : TN) (lw : Lws) (s : Nat) : Prop := (lw s = none ∧ ∀ k, k < nc → so k ≠ s) ∨ ∃ v k X C Y, lw s = some v ∧ k < nc ∧ so k = s ∧ (∀ j, j < k → so j ≠ s) ∧ cd = X ++ C ++ Y ∧ J 334 (T0 + 1 + 19 * k + 1) = nI X.length ∧ J 334 (T0 + 1 + 19 * k + 2) = nI (X.length + C.length) ∧ VM s C v
def RcI (J : TI) (T0 nc : Nat) (cd : List (Nat × Nat)) (so : TN) (pa : Nat → TN) (lw : Lws) : Prop := CdA J T0 cd ∧ CO cd ∧ J 331 12 = nI T0 ∧ J 334 T0 = nI nc ∧ nc ≤ 24 ∧ (∀ k, k < nc → so k ≤ 8 ∧ J 334 (T0 + 1 + 19 * k) = nI (so k) ∧ MxD J T0 so pa k) ∧ ∀ s, s < 3 → MLw J T0 nc cd so lw s
def RF (T0 : Nat) (Jb J : TI) : Prop := (∀ a, a ≠ 331 → a ≠ 334 → a ≠ 336 → J a = Jb a) ∧ (∀ k, (k < 7 ∨ k = 11 ∨ k = 15 ∨ 19 < k) → J 331 k = Jb 331 k) ∧ ∀ x, (x < T0 ∨ T0 + 1065 ≤ x) → J 334 x = Jb 334 x
def BS (B : TN) (z T T0 : Nat) (Jb J : TI) (L : TL) (i nc : Nat) (cd : List (Nat × Nat)) (so : TN) (pa : Nat → TN) (lw : Lws) (s on : Nat) : Prop := RT J L B z i ∧ i ≤ T ∧ cd.length ≤ i ∧ RcI J T0 nc cd so pa lw ∧ J 331 19 = nI on ∧ RF T0 Jb J ∧ J 334 (T0 + 1 + 19 * nc) = nI s ∧ J 331 14 = nI s
theorem Mx_fr {J J' : TI} {T0 k M : Nat} {so : TN} {pa : Nat → TN} (h : MxD J T0 so pa k) (hk : k < M) (e : ∀ x, x < T0 + 1 + 19 * M → J' 334 x = J 334 x) : MxD J' T0 so pa k := by
  obtain ⟨h1, h2, h3⟩ := h
  refine ⟨fun g => ?_, fun g1 g2 => ?_, fun g => ?_⟩
  · obtain ⟨a1, a2, a3⟩ := h1 g
    exact ⟨a1, by rw [e _ (by omega)]; exact a2, fun a ha => by rw [e _ (by omega)]; exact a3 a ha⟩
  · rw [e _ (by omega), e _ (by omega)]; exact h2 g1 g2
  · rw [e _ (by omega)]; exact h3 g
theorem Ml_fr {J J' : TI} {T0 nc s : Nat} {cd : List (Nat × Nat)} {so : TN} {lw : Lws} (h : MLw J T0 nc cd so lw s) (e : ∀ x, x < T0 + 1 + 19 * nc → J' 334 x = J 334 x) : MLw J' T0 nc cd so lw s := by
  rcases h with h | ⟨v, k, X, C, Y, h1, h2, h3, h4, h5, h6, h7, h8⟩
  · exact Or.inl h
  · exact Or.inr ⟨v, k, X, C, Y, h1, h2, h3, h4, h5, by rw [e _ (by omega)]; exact h6, by rw [e _ (by omega)]; exact h7, h8⟩
theorem Rc_fr {J J' : TI} {T0 nc : Nat} {cd : List (Nat × Nat)} {so : TN} {pa : Nat → TN} {lw : Lws} (h : RcI J T0 nc cd so pa lw) (h12 : J' 331 12 = J 331 12) (h13 : J' 331 13 = J 331 13) (e : ∀ x, (x < T0 + 1 + 19 * nc ∨ T0 + 457 ≤ x) → J' 334 x = J 334 x) : RcI J' T0 nc cd so pa lw := by
  obtain ⟨a1, a2, a3, a4, a5, a6, a7⟩ := h
  refine ⟨⟨by rw [h13]; exact a1.1, fun k hk => by rw [e _ (by omega), e _ (by omega)]; exact a1.2 k hk⟩, a2, by rw [h12]; exact a3, by rw [e _ (by omega)]; exact a4, a5, fun k hk => ?_, fun s hs => Ml_fr (a7 s hs) (fun x hx => e x (Or.inl hx))⟩
  obtain ⟨b1, b2, b3⟩ := a6 k hk
  exact ⟨b1, by rw [e _ (by omega)]; exact b2, Mx_fr b3 hk (fun x hx => e x (Or.inl hx))⟩
section MC
variable {n : Nat} {O : TO} {B : TN} {z T T0 : Nat} {Jb J : TI} {L : TL} {i nc : Nat} {cd : List (Nat × Nat)} {so : TN} {pa : Nat → TN} {lw : Lws} {s on : Nat}
/-- next token between clauses -/
theorem bs_next (hn : 100000 ≤ n) (hO : OF O) (hT3 : stT B z T = z) (h : BS B z T T0 Jb J L i nc cd so pa lw s on) (hk : kdT B z i ≠ 27) : ∃ J' L', f12_nextToken n J L O 331 = some (J', L') ∧ BS B z T T0 Jb J' L' (i + 1) nc cd so pa lw s on ∧ J' 334 = J 334 := by
  obtain ⟨h1, h2, h3, h4, h5, h6, h7, h8⟩ := h
  have iT := kd_T hT3 h2 hk
  obtain ⟨J', L', q1, q2, q3⟩ := m_tokS hn hO h1
  have e : J' 334 = J 334 := q3.1 334 (by omega)
  refine ⟨J', L', q1, ⟨q2, by omega, by omega, Rc_fr h4 (q3.2 12 (by omega) (by omega) (by omega) (by omega)) (q3.2 13 (by omega) (by omega) (by omega) (by omega)) (fun x _ => by rw [e]), by rw [q3.2 19 (by omega) (by omega) (by omega) (by omega)]; exact h5, ⟨fun a g1 g2 g3 => (q3.1 a g1).trans (h6.1 a g1 g2 g3), fun k hk => (q3.2 k (by omega) (by omega) (by omega) (by omega)).trans (h6.2.1 k hk), fun x hx => by rw [e]; exact h6.2.2 x hx⟩, by rw [e]; exact h7, by rw [q3.2 14 (by omega) (by omega) (by omega) (by omega)]; exact h8⟩, e⟩
/-- a number laid down in the clause's own places -/
theorem bs_put (hT : T0 ≤ 3195) (h : BS B z T T0 Jb J L i nc cd so pa lw s on) (hnc : nc < 24) {y : Nat} {v : Int32} (h1 : T0 + 1 + 19 * nc < y) (h2 : y < T0 + 1 + 19 * (nc + 1)) : BS B z T T0 Jb (sI J 334 y v) L i nc cd so pa lw s on := by
  obtain ⟨a1, a2, a3, a4, a5, a6, a7, a8⟩ := h
  refine ⟨RT_fr a1 (fun k hk => by rw [sI_o _ _ (by omega)]) (sI_o _ _ (by omega)), a2, a3, Rc_fr a4 (by rw [sI_o _ _ (by omega)]) (by rw [sI_o _ _ (by omega)]) (fun x hx => sI_k _ _ (by omega)), by rw [sI_o _ _ (by omega)]; exact a5, ⟨fun a g1 g2 g3 => by rw [sI_o _ _ g2]; exact a6.1 a g1 g2 g3, fun k hk => by rw [sI_o _ _ (by omega)]; exact a6.2.1 k hk, fun x hx => by rw [sI_k _ _ (by omega)]; exact a6.2.2 x hx⟩, by rw [sI_k _ _ (by omega)]; exact a7, by rw [sI_o _ _ (by omega)]; exact a8⟩
theorem m_figO (hn : 100000 ≤ n) (hO : OF O) (hT : T0 ≤ 3195) (hT3 : stT B z T = z) (h : BS B z T T0 Jb J L i nc cd so pa lw s on) (hnc : nc < 24) {y lo hi : Nat} (h1 : T0 + 1 + 19 * nc < y) (h2 : y < T0 + 1 + 19 * (nc + 1)) (hk : kdT B z i = 28) (hlo : lo ≤ nvT B z i) (hhi : nvT B z i ≤ hi) (hh : hi < 10000) : ∃ J' L', f12_figure n J L O 331 (nI y) (nI lo) (nI hi) = some (0, J', L') ∧ BS B z T T0 Jb J' L' (i + 1) nc cd so pa lw s on ∧ J' 334 y = nI (nvT B z i) ∧ ∀ x, x ≠ y → J' 334 x = J 334 x := by
  have v := (h.1.2.2.2.2 hk).1
  obtain ⟨J', L', q1, q2, q3⟩ := bs_next hn hO hT3 (bs_put hT h hnc (v := nI (nvT B z i)) h1 h2) (by omega)
  refine ⟨J', L', ?_, q2, by rw [q3, sI_s], fun x hx => by rw [q3, sI_k _ _ hx]⟩
  rw [f12_figure, if_pos ((tk_1 h.1).mpr hk), v, m_inT hlo hhi (by omega), qb, if_neg (by decide), if_neg (nI_in (by omega) (by omega)), o_331_2 hO, qcl (by omega), qbl, q1, qb]
theorem m_figF (h : BS B z T T0 Jb J L i nc cd so pa lw s on) {y : Int32} {lo hi f : Nat} (hf : NmF B z i lo hi f) (hh : hi < 10000) (hlo : lo < 10000) : f12_figure n J L O 331 y (nI lo) (nI hi) = some (nI f, J, L) := by
  rcases hf with ⟨a, rfl⟩ | ⟨a, b, rfl⟩
  · rw [f12_figure, if_neg (fun g => a ((tk_1 h.1).mp g))]; rfl
  · obtain ⟨v1, v2⟩ := h.1.2.2.2.2 a
    rw [f12_figure, if_pos ((tk_1 h.1).mpr a), v1, m_inF (by rw [qtoI (by omega)]; omega) (by omega) (by omega), qb, if_pos (show nI 0 = 0 from rfl)]; rfl
theorem NmF_r {B : TN} {z i lo hi f : Nat} (h : NmF B z i lo hi f) : 1 ≤ f ∧ f ≤ 7 := by
  unfold NmF at h; omega
theorem m_pairO (hn : 100000 ≤ n) (hO : OF O) (hT : T0 ≤ 3195) (hT3 : stT B z T = z) (h : BS B z T T0 Jb J L i nc cd so pa lw s on) (hnc : nc < 24) {x lo hi w hi2 : Nat} (hx : x = T0 + 1 + 19 * nc) (hw : w < 26) (hh : hi < 10000) (hh2 : hi2 < 10000) (hp : PrOk B z i lo hi w hi2) : ∃ J' L', f12_pair n J L O 331 (nI x) (nI lo) (nI hi) (lN (pkW w)) (nI hi2) = some (0, J', L') ∧ BS B z T T0 Jb J' L' (i + 3) nc cd so pa lw s on ∧ J' 334 (x + 1) = nI (nvT B z i) ∧ J' 334 (x + 2) = nI (nvT B z (i + 2)) := by
  obtain ⟨⟨p1, p2, p3⟩, p4, p5, p6⟩ := hp
  obtain ⟨J1, L1, a1, a2, a3, a4⟩ := m_figO hn hO hT hT3 h hnc (y := x + 1) (lo := lo) (hi := hi) (by omega) (by omega) p1 p2 p3 hh
  obtain ⟨J2, L2, b1, b2, b3⟩ := bs_next hn hO hT3 a2 (by omega)
  obtain ⟨J3, L3, c1, c2, c3, c4⟩ := m_figO hn hO hT hT3 b2 hnc (y := x + 2) (lo := 0) (hi := hi2) (by omega) (by omega) p5 (Nat.zero_le _) p6 hh2
  refine ⟨J3, L3, ?_, c2, by rw [c4 _ (by omega), b3]; exact a3, c3⟩
  rw [f12_pair, nI_1, a1, qb, if_pos rfl]
  show (f12_isWord J1 L1 331 (lN (pkW w))).bind _ = _
  rw [tk_w a2.1 hw, if_pos p4, qb, if_neg (by decide), b1, qb, show nI x + 2 = nI (x + 2) from qadd x 2, show f12_figure n J2 L2 O 331 (nI (x + 2)) 0 (nI hi2) = _ from c1, qb]
theorem m_pairF (hn : 100000 ≤ n) (hO : OF O) (hT : T0 ≤ 3195) (hT3 : stT B z T = z) (h : BS B z T T0 Jb J L i nc cd so pa lw s on) (hnc : nc < 24) {x lo hi w hi2 f j : Nat} (hx : x = T0 + 1 + 19 * nc) (hw : w < 26) (hh : hi < 10000) (hlo : lo < 10000) (hh2 : hi2 < 10000) (hp : PrF B z i lo hi w hi2 f j) : ∃ J' L', f12_pair n J L O 331 (nI x) (nI lo) (nI hi) (lN (pkW w)) (nI hi2) = some (nI f, J', L') ∧ BS B z T T0 Jb J' L' j nc cd so pa lw s on := by
  rcases hp with ⟨p1, rfl⟩ | ⟨⟨p1, p2, p3⟩, hp⟩
  · refine ⟨J, L, ?_, h⟩
    have fr := NmF_r p1
    rw [f12_pair, m_figF h p1 hh hlo, qb]
    show (if nI f = 0 then _ else _) = _
    rw [if_neg (nI_ne0 (by omega) (by omega))]
  · obtain ⟨J1, L1, a1, a2, a3, a4⟩ := m_figO hn hO hT hT3 h hnc (y := x + 1) (lo := lo) (hi := hi) (by omega) (by omega) p1 p2 p3 hh
    rcases hp with ⟨p4, rfl, rfl⟩ | ⟨p4, p5, rfl⟩
    · refine ⟨J1, L1, ?_, a2⟩
      rw [f12_pair, nI_1, a1, qb, if_pos rfl]
      show (f12_isWord J1 L1 331 (lN (pkW w))).bind _ = _
      rw [tk_w a2.1 hw, if_neg p4, qb, if_pos rfl]; rfl
    · obtain ⟨J2, L2, b1, b2, b3⟩ := bs_next hn hO hT3 a2 (by omega)
      have ff := m_figF (n := n) (O := O) (y := nI (x + 2)) b2 p5 hh2 (by omega)
      refine ⟨J2, L2, ?_, b2⟩
      rw [f12_pair, nI_1, a1, qb, if_pos rfl]
      show (f12_isWord J1 L1 331 (lN (pkW w))).bind _ = _
      rw [tk_w a2.1 hw, if_pos p4, qb, if_neg (by decide), b1, qb, show nI x + 2 = nI (x + 2) from qadd x 2, show f12_figure n J2 L2 O 331 (nI (x + 2)) 0 (nI hi2) = _ from ff, qb]
/-- a roll's keys: r of them and their commas are read -/
theorem m_rollP (hn : 100000 ≤ n) (hO : OF O) (hT : T0 ≤ 3195) (hT3 : stT B z T = z) (hnc : nc < 24) {x i0 : Nat} (hx : x = T0 + 1 + 19 * nc) {R : Nat} (hR : RlP B z i0 R) : ∀ d r m J L, r + d = R → BS B z T T0 Jb J L (i0 + 2 * r) nc cd so pa lw s on → (∀ a, a < r → J 334 (x + 2 + a) = nI (nvT B z (i0 + 2 * a))) → ∃ J' L', f12_rollClause_c2 n O (m + d) J L 331 (nI x) (nI r) = f12_rollClause_c2 n O m J' L' 331 (nI x) (nI R) ∧ BS B z T T0 Jb J' L' (i0 + 2 * R) nc cd so pa lw s on ∧ ∀ a, a < R → J' 334 (x + 2 + a) = nI (nvT B z (i0 + 2 * a)) := by
  intro d
  induction d with
  | zero =>
    intro r m J L hr hS hd
    have e : r = R := by omega
    subst e
    exact ⟨J, L, rfl, hS, hd⟩
  | succ d ih =>
    intro r m J L hr hS hd
    obtain ⟨R1, R2⟩ := hR
    obtain ⟨⟨k1, k2⟩, k3⟩ := R2 r (by omega)
    obtain ⟨J1, L1, a1, a2, a3, a4⟩ := m_figO hn hO hT hT3 hS hnc (y := x + 2 + r) (lo := 0) (hi := 5) (by omega) (by omega) k1 (Nat.zero_le _) k2 (by omega)
    have b0 := bs_put hT a2 hnc (y := x + 1) (v := nI (r + 1)) (by omega) (by omega)
    obtain ⟨J2, L2, b1, b2, b3⟩ := bs_next hn hO hT3 b0 (by omega)
    obtain ⟨J', L', q1, q2, q3⟩ := ih (r + 1) m J2 L2 (by omega) (by rw [show i0 + 2 * (r + 1) = i0 + 2 * r + 1 + 1 by omega]; exact b2) (fun a ha => by
      rw [b3, sI_k _ _ (by omega)]
      by_cases w : a = r
      · rw [w]; exact a3
      · rw [a4 _ (by omega)]; exact hd a (by omega))
    refine ⟨J', L', ?_, q2, q3⟩
    have t44 := tk_sg b0.1 44 rfl
    have c27 : f12_rollClause_c27 n O (f12_rollClause_c2 n O (m + d)) J L 331 (nI x) (nI r) = f12_rollClause_c2 n O (m + d) J2 L2 331 (nI x) (nI (r + 1)) := by
      rw [f12_rollClause_c27, show nI x + 2 = nI (x + 2) from qadd x 2, qadd, show f12_figure n J L O 331 (nI (x + 2 + r)) 0 5 = _ from a1, qb, if_pos rfl, nI_1, if_neg (nI_in (by omega) (by omega)), o_331_2 hO, qcl (by omega), nI_1, qbl]
      show (if sI J1 334 (x + 1) (nI (r + 1)) 331 9 = 44 then _ else _) = _
      rw [if_pos (show sI J1 334 (x + 1) (nI (r + 1)) 331 9 = 44 from t44.mpr k3), b1, qb]
    rw [show m + (d + 1) = (m + d) + 1 by omega, f12_rollClause_c2, if_neg (show ¬ nI r = 16 from fun g => by rw [show (16 : Int32) = nI 16 from rfl, nI_eq (by omega) (by omega)] at g; omega), c27, q1]
theorem m_rollO (hn : 100000 ≤ n) (hO : OF O) (hT : T0 ≤ 3195) (hT3 : stT B z T = z) (h : BS B z T T0 Jb J L i nc cd so pa lw s on) (hnc : nc < 24) {x r : Nat} (hx : x = T0 + 1 + 19 * nc) (hp : RlOk B z i r) : ∃ J' L', f12_rollClause n J L O 331 (nI x) = some (0, J', L') ∧ BS B z T T0 Jb J' L' (i + 2 * r + 1) nc cd so pa lw s on ∧ J' 334 (x + 1) = nI (r + 1) ∧ ∀ a, a < r + 1 → J' 334 (x + 2 + a) = nI (nvT B z (i + 2 * a)) := by
  obtain ⟨p1, p2, ⟨p3, p4⟩, p5⟩ := hp
  obtain ⟨J1, L1, q1, q2, q3⟩ := m_rollP hn hO hT hT3 hnc hx p1 r 0 (n - r) J L (by omega) h (fun a ha => by omega)
  rw [show n - r + r = n by omega] at q1
  obtain ⟨J2, L2, a1, a2, a3, a4⟩ := m_figO hn hO hT hT3 q2 hnc (y := x + 2 + r) (lo := 0) (hi := 5) (by omega) (by omega) p3 (Nat.zero_le _) p4 (by omega)
  have b0 := bs_put hT a2 hnc (y := x + 1) (v := nI (r + 1)) (by omega) (by omega)
  have t44 := tk_sg b0.1 44 rfl
  refine ⟨sI J2 334 (x + 1) (nI (r + 1)), L2, ?_, b0, sI_s _ _ _ _, fun a ha => ?_⟩
  · obtain ⟨m, hm⟩ : ∃ m, n - r = m + 1 := ⟨n - r - 1, by omega⟩
    rw [f12_rollClause, show f12_rollClause_c2 n O n J L 331 (nI x) 0 = _ from q1, hm, f12_rollClause_c2, if_neg (show ¬ nI r = 16 from fun g => by rw [show (16 : Int32) = nI 16 from rfl, nI_eq (by omega) (by omega)] at g; omega), f12_rollClause_c27, show nI x + 2 = nI (x + 2) from qadd x 2, qadd, show f12_figure n J1 L1 O 331 (nI (x + 2 + r)) 0 5 = _ from a1, qb, if_pos rfl, nI_1, if_neg (nI_in (by omega) (by omega)), o_331_2 hO, qcl (by omega), nI_1, qbl]
    show (if sI J2 334 (x + 1) (nI (r + 1)) 331 9 = 44 then _ else _) = _
    rw [if_neg (show ¬ sI J2 334 (x + 1) (nI (r + 1)) 331 9 = 44 from fun g => p5 (t44.mp g))]
  · rw [sI_k _ _ (by omega)]
    by_cases w : a = r
    · rw [w]; exact a3
    · rw [a4 _ (by omega)]; exact q3 a (by omega)
theorem m_rollF (hn : 100000 ≤ n) (hO : OF O) (hT : T0 ≤ 3195) (hT3 : stT B z T = z) (h : BS B z T T0 Jb J L i nc cd so pa lw s on) (hnc : nc < 24) {x f j : Nat} (hx : x = T0 + 1 + 19 * nc) (hp : RlF B z i f j) : ∃ J' L', f12_rollClause n J L O 331 (nI x) = some (nI f, J', L') ∧ BS B z T T0 Jb J' L' j nc cd so pa lw s on := by
  obtain ⟨r, p1, rfl, p2⟩ := hp
  have r16 := p1.1
  obtain ⟨J1, L1, q1, q2, q3⟩ := m_rollP hn hO hT hT3 hnc hx p1 r 0 (n - r) J L (by omega) h (fun a ha => by omega)
  rw [show n - r + r = n by omega] at q1
  refine ⟨J1, L1, ?_, q2⟩
  obtain ⟨m, hm⟩ : ∃ m, n - r = m + 1 := ⟨n - r - 1, by omega⟩
  rw [f12_rollClause, show f12_rollClause_c2 n O n J L 331 (nI x) 0 = _ from q1, hm, f12_rollClause_c2]
  have t1 := tk_1 q2.1
  rcases p2 with p2 | ⟨rfl, ⟨p3, p4⟩, rfl⟩
  · have fr := NmF_r p2
    have c27 : f12_rollClause_c27 n O (f12_rollClause_c2 n O m) J1 L1 331 (nI x) (nI r) = some (nI f, J1, L1) := by
      rw [f12_rollClause_c27, show f12_figure n J1 L1 O 331 (nI x + 2 + nI r) 0 5 = _ from m_figF (lo := 0) (hi := 5) q2 p2 (by omega) (by omega), qb]
      show (if nI f = 0 then _ else _) = _
      rw [if_neg (nI_ne0 (by omega) (by omega))]
    by_cases w : r = 16
    · rw [if_pos (show nI r = 16 by rw [w]; rfl)]
      by_cases k : kdT B z (i + 2 * r) = 28
      · obtain ⟨v1, v2⟩ := q2.1.2.2.2.2 k
        unfold NmF at p2
        rw [if_pos (t1.mpr k), v1, if_pos (show (5 : Int32) < nI (nvT B z (i + 2 * r)) from (nI_ltI (a := 5) (by omega) (by omega)).mpr (by omega)), c27]
      · rw [if_neg (fun g => k (t1.mp g)), c27]
    · rw [if_neg (show ¬ nI r = 16 from fun g => w (by rw [show (16 : Int32) = nI 16 from rfl, nI_eq (by omega) (by omega)] at g; exact g)), c27]
  · obtain ⟨v1, v2⟩ := q2.1.2.2.2.2 p3
    rw [if_pos (show nI 16 = 16 from rfl), if_pos (t1.mpr p3), v1, if_neg (show ¬ (5 : Int32) < nI (nvT B z (i + 2 * 16)) from fun g => by have := (nI_ltI (a := 5) (by omega) (by omega)).mp g; omega)]; rfl
end MC
