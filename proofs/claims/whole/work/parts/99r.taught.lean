/-! teaching: what the reference tries -/
def hN (N : TN) (c : Nat) (h : TN) : TN := fun j => if 90 + 6 * c ≤ j ∧ j < 96 + 6 * c then h (j - (90 + 6 * c)) else N j
def hrG (w : Nat) (N : TN) (r p : Nat) (h : TN) : TN := if holeB N r p then upN h (K N r p) (min 99 (h (K N r p) + w)) else h
section TG
variable {n : Nat} {J : TI} {L : TL} {O : TO} {N : TN} {lw : Lws} {c : Nat} {h : TN}
theorem hN_o {j : Nat} (q : ¬ (90 + 6 * c ≤ j ∧ j < 96 + 6 * c)) : hN N c h j = N j := if_neg q
theorem hN_k {k : Nat} (hk : k < 6) : hN N c h (90 + 6 * c + k) = h k := by
  unfold hN
  rw [if_pos (by omega), Nat.add_sub_cancel_left]
theorem hN_hole (hc : c < 4) {r p : Nat} (hr : r < 5) (hp : p < 16) : holeB (hN N c h) r p = holeB N r p := by
  unfold holeB
  rw [show K (hN N c h) r p = K N r p from hN_o (by omega), show Wr (hN N c h) r p = Wr N r p from hN_o (by omega)]
theorem hN_up {k v : Nat} (hk : k < 6) : upN (hN N c h) (90 + 6 * c + k) v = hN N c (upN h k v) := by
  funext j
  unfold upN hN
  by_cases z : j = 90 + 6 * c + k
  · rw [if_pos z, if_pos (by omega)]
    exact (if_pos (by omega)).symm
  · rw [if_neg z]
    by_cases y : 90 + 6 * c ≤ j ∧ j < 96 + 6 * c
    · rw [if_pos y, if_pos y]
      exact (if_neg (by omega)).symm
    · rw [if_neg y, if_neg y]
theorem hN_self : MV J O N → MV J O (hN N c (Hd N c)) := fun hM => ⟨hM.1, fun t ht => by
  rw [hM.2 t ht]
  unfold hN Hd
  by_cases y : 90 + 6 * c ≤ t ∧ t < 96 + 6 * c
  · rw [if_pos y, show 90 + 6 * c + (t - (90 + 6 * c)) = t by omega]
  · rw [if_neg y]⟩
theorem hN_WB (hB : WB N) (hc : c < 4) (h9 : ∀ k, k < 6 → h k ≤ 99) (h0 : h 0 = 0) : WB (hN N c h) := by
  obtain ⟨a1, a2, a3, a4, a5, a6, a7, a8, a9, a10⟩ := hB
  have e0 : hN N c h 0 = N 0 := hN_o (by omega)
  have e1 : hN N c h 1 = N 1 := hN_o (by omega)
  have eL : ∀ r, Ln (hN N c h) r = Ln N r := fun r => hN_o (by omega)
  refine ⟨by rw [e0]; exact a1, by rw [e1]; exact a2, fun r hr => by rw [eL]; exact a3 r hr, fun r hr => by rw [eL]; rw [e0] at hr; exact a4 r hr, fun r p hr hp => by rw [show K (hN N c h) r p = K N r p from hN_o (by omega)]; exact a5 r p hr hp, fun r p hr hp => by rw [show Wr (hN N c h) r p = Wr N r p from hN_o (by omega)]; exact a6 r p hr hp, fun c' k hc' hk => ?_, fun c' hc' => ?_, by rw [show hN N c h 7 = N 7 from hN_o (by omega)]; exact a9, by rw [show hN N c h 8 = N 8 from hN_o (by omega)]; exact a10⟩
  · by_cases z : c' = c
    · subst z; rw [show Hd (hN N c' h) c' k = h k from hN_k hk]; exact h9 k hk
    · rw [show Hd (hN N c h) c' k = Hd N c' k from hN_o (by omega)]; exact a7 c' k hc' hk
  · by_cases z : c' = c
    · subst z; rw [show Hd (hN N c' h) c' 0 = h 0 from hN_k (by omega)]; exact h0
    · rw [show Hd (hN N c h) c' 0 = Hd N c' 0 from hN_o (by omega)]; exact a8 c' hc'
theorem hr_cnt {w r k : Nat} (h9 : h k ≤ 99) : ∀ d, fo (hrG w N r) d 0 h k = min 99 (h k + w * fo (soG N r k) d 0 0) := by
  intro d
  induction d with
  | zero => show h k = min 99 (h k + w * 0); rw [Nat.mul_zero]; omega
  | succ d ih =>
    rw [fo_s, fo_s, Nat.zero_add]
    generalize fo (hrG w N r) d 0 h = g at ih
    generalize fo (soG N r k) d 0 0 = s at ih
    unfold hrG soG
    cases holeB N r d
    · rw [if_neg (by decide), if_neg (by decide)]; exact ih
    · rw [if_pos rfl, if_pos rfl]
      by_cases z : K N r d = k
      · rw [if_pos z, z, upN_s, ih, Nat.mul_add, Nat.mul_one]
        generalize w * s = q
        omega
      · rw [if_neg z, upN_o _ (fun e => z e.symm)]; exact ih
def hR (N : TN) (x : Nat) (r : Nat) (h : TN) : TN := fo (hrG (dgT x r) N r) (Ln N r) 0 h
theorem hR_cnt {x k : Nat} (h9 : h k ≤ 99) : ∀ d, d ≤ N 0 → fo (hR N x) d 0 h k = min 99 (h k + taS N (dgT x) k d) := by
  intro d
  induction d with
  | zero => intro _; show h k = min 99 (h k + 0); omega
  | succ d ih =>
    intro hd
    have i := ih (by omega)
    rw [fo_s, Nat.zero_add]
    have e : taS N (dgT x) k (d + 1) = taS N (dgT x) k d + dgT x d * sdK N d k := by unfold taS; rw [fo_s, Nat.zero_add]
    rw [e]
    generalize fo (hR N x) d 0 h = g at i
    unfold hR
    rw [hr_cnt (by rw [i]; omega), i]
    unfold sdK
    rw [if_pos (by omega)]
    generalize dgT x d * fo (soG N d k) (Ln N d) 0 0 = q
    omega
theorem m_tau47 (hn : 100000 ≤ n) (hB : WB N) (hc : c < 4) {x r : Nat} (hx : x < 60000) (hr : r < N 0) {k33 : TI → TL → Nat → Int32 → Int32 → Int32 → Int32 → Option (Int32 × TI × TL)} {y2 : Int32} : ∀ d p m J h, p + d = Ln N r → d < m → MV J O (hN N c h) → (∀ k, k < 6 → h k ≤ 99) → h 0 = 0 → ∃ J' h', f12_isTaught_c47 n O k33 m J L 331 (nI c) y2 (nI x) (nI r) (nI p) = k33 J' L 331 (nI c) y2 (nI x) (nI (r + 1)) ∧ MV J' O (hN N c h') ∧ (∀ a, a ≠ 332 → J' a = J a) ∧ h' = fo (hrG (dgT x r) N r) d p h ∧ (∀ k, k < 6 → h' k ≤ 99) ∧ h' 0 = 0 := by
  have b1 := hB.1
  have l1 := hB.2.2.1 r (by omega)
  have y0 : (114 : Int32) + nI r = nI (114 + r) := qadd 114 r
  intro d
  induction d with
  | zero =>
    intro p m J h hp hm hM h9 h0
    obtain ⟨m, rfl⟩ : ∃ m', m = m' + 1 := ⟨m - 1, by omega⟩
    have el : J 332 (114 + r) = nI (Ln N r) := by rw [hM.2 _ (by omega), hN_o (by omega)]; rfl
    refine ⟨J, h, ?_, hM, fun _ _ => rfl, rfl, h9, h0⟩
    rw [f12_isTaught_c47, y0, if_neg (nI_in (by omega) (by omega)), hM.1, qcl (by omega), el, show p = Ln N r by omega, if_pos (Int32.le_refl _), nI_1]
  | succ d ih =>
    intro p m J h hp hm hM h9 h0
    obtain ⟨m, rfl⟩ : ∃ m', m = m' + 1 := ⟨m - 1, by omega⟩
    have hB' := hN_WB hB hc h9 h0
    have el : J 332 (114 + r) = nI (Ln N r) := by rw [hM.2 _ (by omega), hN_o (by omega)]; rfl
    have np : ¬ nI (Ln N r) ≤ nI p := nle_i (by omega) (by omega) (by omega)
    have eh := m_isHole hM hB' (show r < 5 by omega) (show p < 16 by omega)
    rw [hN_hole hc (by omega) (by omega)] at eh
    have ek := m_keyOf hM (show r < 5 by omega) (show p < 16 by omega)
    rw [show K (hN N c h) r p = K N r p from hN_o (by omega)] at ek
    have kb := hB.2.2.2.2.1 r p (by omega) (by omega)
    have es : fo (hrG (dgT x r) N r) (d + 1) p h = fo (hrG (dgT x r) N r) d (p + 1) (hrG (dgT x r) N r p h) := rfl
    cases hh : holeB N r p
    · obtain ⟨J', h', a1, a2, a3, a4, a5, a6⟩ := ih (p + 1) m J h (by omega) (by omega) hM h9 h0
      refine ⟨J', h', ?_, a2, a3, ?_, a5, a6⟩
      · rw [hh] at eh
        rw [← a1, f12_isTaught_c47, y0, if_neg (nI_in (by omega) (by omega)), hM.1, qcl (by omega), el, if_neg np, eh, qb, if_pos (by decide), nI_1]
      · rw [es, a4, show hrG (dgT x r) N r p h = h by unfold hrG; rw [hh]; rfl]
    · have k1 := hole_K hh
      have hkk := h9 (K N r p) (by omega)
      have e5 := m_heardBy hM hc (k := K N r p) (by omega)
      rw [show Hd (hN N c h) c (K N r p) = h (K N r p) from hN_k (by omega)] at e5
      have e6 := m_timesOf (n := n) hn (x := x) (k := r) (by omega) (by omega)
      have dl := dgT_le x r
      have e7 : f12_cut (nI (h (K N r p) + dgT x r)).toInt64 0 99 = some (nI (min 99 (h (K N r p) + dgT x r))) := m_cutN (M := 99) (by omega) (by omega)
      have y3 : (90 : Int32) + 6 * nI c + nI (K N r p) = nI (90 + 6 * c + K N r p) := by
        rw [show (6 : Int32) * nI c = nI (6 * c) from qmul 6 c, show (90 : Int32) + nI (6 * c) = nI (90 + 6 * c) from qadd 90 (6 * c), qadd]
      have hM2 := MV_up (t := 90 + 6 * c + K N r p) (v := min 99 (h (K N r p) + dgT x r)) hM
      rw [hN_up (by omega)] at hM2
      obtain ⟨J', h', a1, a2, a3, a4, a5, a6⟩ := ih (p + 1) m _ _ (by omega) (by omega) hM2 (fun k hk => by
        by_cases z : k = K N r p
        · rw [z, upN_s]; omega
        · rw [upN_o _ z]; exact h9 k hk) (by rw [upN_o _ (by omega)]; exact h0)
      refine ⟨J', h', ?_, a2, fun a ha => by rw [a3 a ha, sI_o _ _ ha], ?_, a5, a6⟩
      · rw [hh] at eh
        rw [← a1, f12_isTaught_c47, y0, if_neg (nI_in (by omega) (by omega)), hM.1, qcl (by omega), el, if_neg np, eh, qb, if_neg (by decide), ek, qb, qb, e5, qb, e6, qb, qadd, e7, qb, y3, if_neg (nI_in (by omega) (by omega)), qcl (by omega), qbl, nI_1]
      · rw [es, a4, show hrG (dgT x r) N r p h = upN h (K N r p) (min 99 (h (K N r p) + dgT x r)) by unfold hrG; rw [hh]; rfl]
end TG
