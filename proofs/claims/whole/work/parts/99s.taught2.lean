/-! teaching: the reference's verdict -/
def lhG (N : TN) (lw : Lws) (c : Nat) (h : TN) (k b : Nat) : Nat := if (decide (0 < h k) && decide (leN N lw c k (h k) ≤ h k)) then b + 2 ^ k else b
def lkH (N : TN) (lw : Lws) (c : Nat) (h : TN) : Nat := fo (lhG N lw c h) 5 1 0
def tgB (N : TN) (lw : Lws) (c : Nat) (m : Nat) (t : TN) : Bool := decide ((nI m &&& (nI (lkH N lw c (taN N c t)) ^^^ (-1))) = 0)
section TI2
variable {n : Nat} {J : TI} {L : TL} {O : TO} {N : TN} {lw : Lws} {c : Nat}
theorem hl_h {h : TN} (h4 : c < 4) : hlN (hN N c h) = hlN N := by
  funext x
  unfold hlN
  rw [show hN N c h 0 = N 0 from hN_o (by omega)]
  have e : ∀ r', hc (hN N c h) r' = hc N r' := by
    intro r'
    unfold hc
    have e1 : Ln (hN N c h) r' = Ln N r' := hN_o (by omega)
    have e2 : hcG (hN N c h) r' = hcG N r' := by
      funext p' c'
      unfold hcG
      rw [show K (hN N c h) r' p' = K N r' p' from hN_o (by omega)]
    rw [e1, e2]
  rw [e]
theorem le_h {h : TN} (hc : c < 4) {k w : Nat} : leN (hN N c h) lw c k w = leN N lw c k w := by
  unfold leN
  have e : eL (hN N c h) c k w = eL N c k w := by
    unfold eL eN
    rw [hl_h hc, show (hN N c h) 7 = N 7 from hN_o (by omega)]
  rw [e]
theorem lk_h {h : TN} (hc : c < 4) : lkN (hN N c h) lw c = lkH N lw c h := by
  unfold lkN lkH
  refine fo_r (fun a b => a = b) 6 ?_ 5 1 0 0 (by omega) rfl
  intro k s s' hk e
  subst e
  unfold lkG lkB lhG
  rw [show Hd (hN N c h) c k = h k from hN_k hk, le_h hc]
theorem lkH_c {h h' : TN} (e : ∀ k, k < 6 → h k = h' k) : lkH N lw c h = lkH N lw c h' := by
  unfold lkH
  refine fo_r (fun a b => a = b) 6 ?_ 5 1 0 0 (by omega) rfl
  intro k s s' hk q
  subst q
  unfold lhG
  rw [e k hk]
theorem m_tau155 (hO : OF O) (hc : c < 4) {y4 : Int32} : ∀ d k m J h, k + d = 6 → d < m → MV J O (hN N c h) → (∀ j, j < k → h j = Hd N c j) → (∀ j, j < 6 → J 346 j = nI (Hd N c j)) → ∃ J', f12_isTaught_c155 n O m J L 331 (nI c) y4 (nI k) = some (y4, J', L) ∧ MV J' O N ∧ ∀ a, a ≠ 332 → J' a = J a := by
  intro d
  induction d with
  | zero =>
    intro k m J h hk hm hM h1 h2
    obtain ⟨m, rfl⟩ : ∃ m', m = m' + 1 := ⟨m - 1, by omega⟩
    refine ⟨J, ?_, ⟨hM.1, fun t ht => ?_⟩, fun _ _ => rfl⟩
    · rw [f12_isTaught_c155, show k = 6 by omega, if_pos (show (6 : Int32) ≤ nI 6 by decide)]
    · rw [hM.2 t ht]
      unfold hN
      by_cases y : 90 + 6 * c ≤ t ∧ t < 96 + 6 * c
      · rw [if_pos y, h1 _ (by omega)]
        unfold Hd
        rw [show 90 + 6 * c + (t - (90 + 6 * c)) = t by omega]
      · rw [if_neg y]
  | succ d ih =>
    intro k m J h hk hm hM h1 h2
    obtain ⟨m, rfl⟩ : ∃ m', m = m' + 1 := ⟨m - 1, by omega⟩
    have y3 : (90 : Int32) + 6 * nI c + nI k = nI (90 + 6 * c + k) := by
      rw [show (6 : Int32) * nI c = nI (6 * c) from qmul 6 c, show (90 : Int32) + nI (6 * c) = nI (90 + 6 * c) from qadd 90 (6 * c), qadd]
    have hM2 := MV_up (t := 90 + 6 * c + k) (v := Hd N c k) hM
    rw [hN_up (by omega)] at hM2
    obtain ⟨J', a1, a2, a3⟩ := ih (k + 1) m _ _ (by omega) (by omega) hM2 (fun j hj => by
      by_cases z : j = k
      · rw [z, upN_s]
      · rw [upN_o _ z]; exact h1 j (by omega)) (fun j hj => by rw [sI_o _ _ (by omega)]; exact h2 j hj)
    refine ⟨J', ?_, a2, fun a ha => by rw [a3 a ha, sI_o _ _ ha]⟩
    rw [← a1, f12_isTaught_c155, if_neg (show ¬ (6 : Int32) ≤ nI k from nle_i (a := 6) (by omega) (by omega) (by omega)), if_neg (nI_in (by omega) (by omega)), y3, if_neg (nI_in (by omega) (by omega)), o_331_32 hO, hM.1, qcl (by omega), qcl (by omega), h2 k (by omega), qbl, nI_1]
theorem m_tau33 (hn : 100000 ≤ n) (hO : OF O) (hB : WB N) (hc : c < 4) {x : Nat} (hx : x < 60000) {y2 : Int32} (hL0 : TI → Prop) (hL : ∀ J, hL0 J → LM0 J (N 3) lw) (hLf : ∀ J J', hL0 J → (∀ a, a ≠ 332 → J' a = J a) → hL0 J') : ∀ d r m J h, r + d = N 0 → d < m → MV J O (hN N c h) → (∀ k, k < 6 → h k ≤ 99) → h 0 = 0 → hL0 J → ∃ J' L' h', f12_isTaught_c33 n O m J L 331 (nI c) y2 (nI x) (nI r) = f12_isTaught_c155 n O n J' L' 331 (nI c) (if (y2 &&& (nI (lkH N lw c (fo (hR N x) d r h)) ^^^ (-1))) = 0 then 1 else 0) (nI 0) ∧ MV J' O (hN N c h') ∧ ∀ a, a ≠ 332 → a ≠ 337 → a ≠ 339 → J' a = J a := by
  have b1 := hB.1
  intro d
  induction d with
  | zero =>
    intro r m J h hr hm hM h9 h0 hl
    obtain ⟨m, rfl⟩ : ∃ m', m = m' + 1 := ⟨m - 1, by omega⟩
    have e0 : J 332 0 = nI (N 0) := by rw [hM.2 0 (by omega), hN_o (by omega)]
    obtain ⟨J2, L2, q1, q2⟩ := m_learnt (L := L) hn hO (hN_WB hB hc h9 h0) hM (by rw [show hN N c h 3 = N 3 from hN_o (by omega)]; exact hL J hl) hc
    rw [lk_h hc] at q1
    refine ⟨J2, L2, h, ?_, MV_fr hM (q2 332 (by omega) (by omega)), fun a g1 g2 g3 => q2 a g2 g3⟩
    rw [f12_isTaught_c33, hM.1, e0, show r = N 0 by omega, if_pos (Int32.le_refl _), q1, qb]
    dsimp only
    show (if _ then f12_isTaught_c155 n O n J2 L2 331 (nI c) 1 0 else f12_isTaught_c155 n O n J2 L2 331 (nI c) 0 0) = f12_isTaught_c155 n O n J2 L2 331 (nI c) (if (y2 &&& (nI (lkH N lw c h) ^^^ (-1))) = 0 then 1 else 0) (nI 0)
    by_cases z : (y2 &&& (nI (lkH N lw c h) ^^^ (-1))) = 0
    · rw [if_pos z, if_pos z]; rfl
    · rw [if_neg z, if_neg z]; rfl
  | succ d ih =>
    intro r m J h hr hm hM h9 h0 hl
    obtain ⟨m, rfl⟩ : ∃ m', m = m' + 1 := ⟨m - 1, by omega⟩
    have l1 := hB.2.2.1 r (by omega)
    have e0 : J 332 0 = nI (N 0) := by rw [hM.2 0 (by omega), hN_o (by omega)]
    obtain ⟨J1, h1, a1, a2, a3, a4, a5, a6⟩ := m_tau47 (n := n) (L := L) (O := O) (k33 := f12_isTaught_c33 n O m) (y2 := y2) hn hB hc hx (r := r) (by omega) (Ln N r) 0 n J h (by omega) (by omega) hM h9 h0
    obtain ⟨J2, L2, h2, c1, c2, c3⟩ := ih (r + 1) m J1 h1 (by omega) (by omega) a2 a5 a6 (hLf J J1 hl a3)
    refine ⟨J2, L2, h2, ?_, c2, fun a g1 g2 g3 => by rw [c3 a g1 g2 g3, a3 a g1]⟩
    rw [f12_isTaught_c33, hM.1, e0, if_neg (nle_i (by omega) (by omega) (by omega)), show (0 : Int32) = nI 0 from rfl, a1, c1, a4]
    rfl
theorem m_taught (hn : 100000 ≤ n) (hO : OF O) (hB : WB N) (hM : MV J O N) (hL : LM0 J (N 3) lw) (hc : c < 4) {x m : Nat} (hx : x < 60000) : ∃ J' L', f12_isTaught n J L O 331 (nI c) (nI m) (nI x) = some (if tgB N lw c m (dgT x) then 1 else 0, J', L') ∧ MV J' O N ∧ ∀ a, a ≠ 332 → a ≠ 337 → a ≠ 339 → a ≠ 346 → J' a = J a := by
  have b1 := hB.1
  refine lpR (L := fun m' k (s : TI) => f12_isTaught_c3 n O m' s L 331 (nI c) (nI m) (nI x) (nI k)) (fun k s => (∀ a, a ≠ 346 → s a = J a) ∧ ∀ j, j < k → s 346 j = nI (Hd N c j)) (fun res => ∃ J' L', res = some (if tgB N lw c m (dgT x) then 1 else 0, J', L') ∧ MV J' O N ∧ ∀ a, a ≠ 332 → a ≠ 337 → a ≠ 339 → a ≠ 346 → J' a = J a) 6 ?_ ?_ 6 0 n J (by omega) (by omega) ⟨fun _ _ => rfl, fun j hj => by omega⟩
  · intro m' k s hk ⟨k1, k2⟩
    left
    have hM1 := MV_fr hM (k1 332 (by omega))
    refine ⟨sI s 346 k (nI (Hd N c k)), ⟨fun a ha => by rw [sI_o _ _ ha]; exact k1 a ha, fun j hj => ?_⟩, ?_⟩
    · by_cases z : j = k
      · rw [z, sI_s]
      · rw [sI_k _ _ z]; exact k2 j (by omega)
    · show f12_isTaught_c3 n O (m' + 1) s L 331 (nI c) (nI m) (nI x) (nI k) = f12_isTaught_c3 n O m' (sI s 346 k (nI (Hd N c k))) L 331 (nI c) (nI m) (nI x) (nI (k + 1))
      rw [f12_isTaught_c3, if_neg (show ¬ (6 : Int32) ≤ nI k from nle_i (a := 6) (by omega) (by omega) hk), m_heardBy hM1 hc hk, qb, if_neg (nI_in (by omega) (by omega)), o_331_32 hO, qcl (by omega), qbl, nI_1]
  · intro m' s ⟨k1, k2⟩
    have hM1 := MV_fr hM (k1 332 (by omega))
    have h9 : ∀ k, k < 6 → Hd N c k ≤ 99 := fun k hk => hB.2.2.2.2.2.2.1 c k hc hk
    obtain ⟨J2, L2, h2, c1, c2, c3⟩ := m_tau33 (n := n) (L := L) (lw := lw) (y2 := nI m) hn hO hB hc hx (fun J => LM0 J (N 3) lw) (fun _ h => h) (fun J J' h q => LM_fr h (q 334 (by omega))) (N 0) 0 n s (Hd N c) (by omega) (by omega) (hN_self hM1) h9 (hB.2.2.2.2.2.2.2.1 c hc) (LM_fr hL (k1 334 (by omega)))
    have e346 : ∀ j, j < 6 → J2 346 j = nI (Hd N c j) := fun j hj => by rw [c3 346 (by omega) (by omega) (by omega)]; exact k2 j hj
    obtain ⟨J3, d1, d2, d3⟩ := m_tau155 (n := n) (L := L2) (N := N) hO hc (y4 := if (nI m &&& (nI (lkH N lw c (fo (hR N x) (N 0) 0 (Hd N c))) ^^^ (-1))) = 0 then 1 else 0) 6 0 n J2 h2 (by omega) (by omega) c2 (fun j hj => by omega) e346
    refine ⟨J3, L2, ?_, d2, fun a g1 g2 g3 g4 => by rw [d3 a g1, c3 a g1 g2 g3]; exact k1 a g4⟩
    show f12_isTaught_c3 n O (m' + 1) s L 331 (nI c) (nI m) (nI x) (nI 6) = _
    have tz : ∀ d k, taS N (dgT x) k (N 0 + d) = taS N (dgT x) k (N 0) := by
      intro d k
      induction d with
      | zero => rfl
      | succ d ih =>
        have e : taS N (dgT x) k (N 0 + d + 1) = taS N (dgT x) k (N 0 + d) + dgT x (N 0 + d) * sdK N (N 0 + d) k := by unfold taS; rw [fo_s, Nat.zero_add]
        rw [show N 0 + (d + 1) = N 0 + d + 1 from rfl, e, ih, show sdK N (N 0 + d) k = 0 from if_neg (by omega), Nat.mul_zero, Nat.add_zero]
    have el : lkH N lw c (fo (hR N x) (N 0) 0 (Hd N c)) = lkH N lw c (taN N c (dgT x)) := lkH_c (fun k hk => by
      rw [hR_cnt (h9 k hk) (N 0) (Nat.le_refl _)]
      unfold taN
      have := tz (5 - N 0) k
      rw [show N 0 + (5 - N 0) = 5 by omega] at this
      rw [this])
    rw [f12_isTaught_c3, if_pos (show (6 : Int32) ≤ nI 6 by decide)]
    refine c1.trans (d1.trans ?_)
    rw [el]
    unfold tgB
    by_cases z : (nI m &&& (nI (lkH N lw c (taN N c (dgT x))) ^^^ (-1))) = 0
    · rw [if_pos z, decide_eq_true z]; rfl
    · rw [if_neg z, decide_eq_false z]; rfl
end TI2
