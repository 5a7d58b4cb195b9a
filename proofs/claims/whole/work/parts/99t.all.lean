/-! teaching: the class's verdict -/
def lbB (N : TN) (lw : Lws) (c k h : Nat) : Bool := decide (0 < h) && decide (leN N lw c k h ≤ h)
def stB (B : Bool) (k b : Nat) : Nat := if B then b + 2 ^ k else b
def aS (m k : Nat) (B rest : Bool) : Bool := if m / 2 ^ k % 2 = 0 then rest else if B then rest else false
def alB (N : TN) (lw : Lws) (c m : Nat) (t : TN) : Nat → Nat → Bool
  | 0, _ => true
  | d + 1, k => aS m k (lbB N lw c k (taN N c t k)) (alB N lw c m t d (k + 1))
theorem al_dec : ∀ m, m < 64 → m % 2 = 0 → ∀ b1 b2 b3 b4 b5 : Bool, decide ((nI m &&& (nI (stB b5 5 (stB b4 4 (stB b3 3 (stB b2 2 (stB b1 1 0))))) ^^^ (-1))) = 0) = aS m 1 b1 (aS m 2 b2 (aS m 3 b3 (aS m 4 b4 (aS m 5 b5 true)))) := by decide +kernel
theorem tg_al {N : TN} {lw : Lws} {c m : Nat} {t : TN} (hm : m < 64) (h2 : m % 2 = 0) : tgB N lw c m t = alB N lw c m t 5 1 :=
  al_dec m hm h2 (lbB N lw c 1 (taN N c t 1)) (lbB N lw c 2 (taN N c t 2)) (lbB N lw c 3 (taN N c t 3)) (lbB N lw c 4 (taN N c t 4)) (lbB N lw c 5 (taN N c t 5))
def vOK (N : TN) (lw : Lws) (c : Nat) (I : TI) : Prop := ∀ k h, k < 6 → h ≤ 99 → I 298 (k * 100 + h) = 0 ∨ I 298 (k * 100 + h) = if lbB N lw c k h then 1 else 2
def VF (I I' : TI) : Prop := ∀ a, a ≠ 283 → a ≠ 284 → a ≠ 285 → a ≠ 298 → I' a = I a
section XA
variable {n : Nat} {I : TI} {O : TO} {N : TN} {lw : Lws} {c : Nat} {sx : Option Nat}
theorem vOK_s (hV : vOK N lw c I) {k h : Nat} (hk : k < 6) (hh : h ≤ 99) : vOK N lw c (sI I 298 (k * 100 + h) (if lbB N lw c k h then 1 else 2)) := by
  intro k' h' hk' hh'
  by_cases z : k' * 100 + h' = k * 100 + h
  · have e1 : k' = k := by omega
    have e2 : h' = h := by omega
    subst e1; subst e2
    rw [sI_s]; exact Or.inr rfl
  · rw [sI_k _ _ z]; exact hV k' h' hk' hh'
theorem x_all (hn : 100000 ≤ n) (hO : OF O) (hB : WB N) (hc : c < N 1) {t : TN} {m0 : Nat} (hm0 : m0 < 64) : ∀ d k m I, k + d = 6 → 1 ≤ k → d < m → LX0 I sx lw → WV I O 3 4 5 6 7 8 N → (∀ r, r < 5 → t r ≤ 8 ∧ I 296 r = nI (t r)) → (∀ r k, r < 5 → k < 6 → I 297 (r * 6 + k) = nI (sdK N r k)) → vOK N lw c I → ∃ I', f6_teachesAll_c3 n O m I 295 3 sx (nI c) (nI m0) (nI k) = some (if alB N lw c m0 t d k then 1 else 0, I') ∧ VF I I' ∧ vOK N lw c I' := by
  have b2 := hB.2.1
  have o := o_295_3 hO
  intro d
  induction d with
  | zero =>
    intro k m I hk h1 hm hL hV ht hs hv
    obtain ⟨m, rfl⟩ : ∃ m', m = m' + 1 := ⟨m - 1, by omega⟩
    refine ⟨I, ?_, fun _ _ _ _ _ => rfl, hv⟩
    rw [f6_teachesAll_c3, show k = 6 by omega, if_pos (show (6 : Int32) ≤ nI 6 by decide)]; rfl
  | succ d ih =>
    intro k m I hk h1 hm hL hV ht hs hv
    obtain ⟨m, rfl⟩ : ∃ m', m = m' + 1 := ⟨m - 1, by omega⟩
    have n6 : ¬ (6 : Int32) ≤ nI k := nle_i (a := 6) (by omega) (by omega) (by omega)
    have eb := bit_t (b := m0) (p := k) (by omega) (by omega)
    have hx := x_then hn hO hB hV ht hs hc (show k < 6 by omega)
    have hh : taN N c t k ≤ 99 := Nat.min_le_left _ _
    show ∃ I', f6_teachesAll_c3 n O (m + 1) I 295 3 sx (nI c) (nI m0) (nI k) = some (if aS m0 k (lbB N lw c k (taN N c t k)) (alB N lw c m0 t d (k + 1)) then 1 else 0, I') ∧ VF I I' ∧ vOK N lw c I'
    by_cases z : m0 / 2 ^ k % 2 = 0
    · obtain ⟨I', a1, a2, a3⟩ := ih (k + 1) m I (by omega) (by omega) (by omega) hL hV ht hs hv
      refine ⟨I', ?_, a2, a3⟩
      rw [f6_teachesAll_c3, if_neg n6, eb, z, if_pos (show nI 0 = 0 from rfl), nI_1, a1]
      unfold aS
      rw [if_pos z]
    · have e1 : m0 / 2 ^ k % 2 = 1 := by omega
      have pre : f6_teachesAll_c3 n O (m + 1) I 295 3 sx (nI c) (nI m0) (nI k) = (if (I 298 (k * 100 + taN N c t k)) = 0 then (if nI (taN N c t k) ≤ 0 then f6_teachesAll_c81 n O (f6_teachesAll_c3 n O m) I 295 3 sx (nI c) (nI m0) (nI k) (nI (k * 100 + taN N c t k)) else (f1_learns n I O 283 sx 3 (nI c) (nI k) (nI (taN N c t k))).bind fun r12 => (if nI (taN N c t k) < r12.1 then f6_teachesAll_c81 n O (f6_teachesAll_c3 n O m) r12.2 295 3 sx (nI c) (nI m0) (nI k) (nI (k * 100 + taN N c t k)) else f6_teachesAll_c82 n O (f6_teachesAll_c3 n O m) r12.2 295 3 sx (nI c) (nI m0) (nI k) (nI (k * 100 + taN N c t k)) 1)) else (if (I 298 (k * 100 + taN N c t k)) = 2 then some (0, I) else f6_teachesAll_c3 n O m I 295 3 sx (nI c) (nI m0) (nI (k + 1)))) := by
        rw [f6_teachesAll_c3, if_neg n6, eb, e1, if_neg (show ¬ nI 1 = 0 by decide), hx, qb, show nI k * 100 = nI (k * 100) from qmul k 100, qadd, if_neg (nI_in (by omega) (by omega)), if_neg (nI_in (by omega) (by omega)), o, o_295_0 hO, qcl (by omega), nI_1]
      have eA : aS m0 k (lbB N lw c k (taN N c t k)) (alB N lw c m0 t d (k + 1)) = if lbB N lw c k (taN N c t k) then alB N lw c m0 t d (k + 1) else false := if_neg z
      rw [eA, pre]
      generalize hhd : taN N c t k = h at hx hh
      have hv1 := hv k h (by omega) hh
      have no : ∀ J, f6_teachesAll_c81 n O (f6_teachesAll_c3 n O m) J 295 3 sx (nI c) (nI m0) (nI k) (nI (k * 100 + h)) = some (0, sI J 298 (k * 100 + h) 2) := by
        intro J
        unfold f6_teachesAll_c81 f6_teachesAll_c82
        rw [if_pos rfl]
        unfold f6_teachesAll_c100
        rw [if_neg (nI_in (by omega) (by omega)), o, qbl, if_neg (nI_in (by omega) (by omega)), qcl (by omega), sI_s, if_pos rfl]
      have yes : ∀ J, f6_teachesAll_c82 n O (f6_teachesAll_c3 n O m) J 295 3 sx (nI c) (nI m0) (nI k) (nI (k * 100 + h)) 1 = f6_teachesAll_c3 n O m (sI J 298 (k * 100 + h) 1) 295 3 sx (nI c) (nI m0) (nI (k + 1)) := by
        intro J
        unfold f6_teachesAll_c82
        rw [if_neg (by decide)]
        unfold f6_teachesAll_c100
        rw [if_neg (nI_in (by omega) (by omega)), o, qbl, if_neg (nI_in (by omega) (by omega)), qcl (by omega), sI_s, if_neg (by decide), nI_1]
      by_cases z0 : I 298 (k * 100 + h) = 0
      · rw [if_pos z0]
        by_cases h0 : h = 0
        · have lf : lbB N lw c k h = false := by unfold lbB; rw [h0]; rfl
          refine ⟨sI I 298 (k * 100 + h) 2, ?_, fun a _ _ _ g => sI_o _ _ g, ?_⟩
          · rw [if_pos (show nI h ≤ 0 by rw [h0]; decide), no, lf]; rfl
          · have := vOK_s hv (show k < 6 by omega) hh; rw [lf] at this; exact this
        · rw [if_neg (show ¬ nI h ≤ 0 from nle_i (b := 0) (by omega) (by omega) (by omega))]
          obtain ⟨I1, q1, q2⟩ := x_learns hn hO hB hL hV w3 (c := c) (k := k) (h := h) (by omega) (by omega) hh
          have lb := leN_le N lw c k h
          rw [q1, qb]
          dsimp only
          have hv2 : vOK N lw c I1 := fun k' h' g1 g2 => by rw [q2 298 (by omega) (by omega) (by omega)]; exact hv k' h' g1 g2
          by_cases y : h < leN N lw c k h
          · have lf : lbB N lw c k h = false := by unfold lbB; rw [decide_eq_false (show ¬ leN N lw c k h ≤ h by omega), Bool.and_false]
            refine ⟨sI I1 298 (k * 100 + h) 2, ?_, fun a g1 g2 g3 g => by rw [sI_o _ _ g]; exact q2 a g1 g2 g3, ?_⟩
            · rw [if_pos ((nI_ltI (by omega) (by omega)).mpr y), no, lf]; rfl
            · have := vOK_s hv2 (show k < 6 by omega) hh; rw [lf] at this; exact this
          · have lt : lbB N lw c k h = true := by unfold lbB; rw [decide_eq_true (show 0 < h by omega), decide_eq_true (show leN N lw c k h ≤ h by omega)]; rfl
            have hv3 := vOK_s hv2 (show k < 6 by omega) hh
            rw [lt] at hv3
            have fr : VF I (sI I1 298 (k * 100 + h) 1) := fun a g1 g2 g3 g => by rw [sI_o _ _ g]; exact q2 a g1 g2 g3
            obtain ⟨I', a1, a2, a3⟩ := ih (k + 1) m (sI I1 298 (k * 100 + h) 1) (by omega) (by omega) (by omega) (LX_fr hL (fun a g1 g2 => fr a (by omega) (by omega) (by omega) (by omega))) (WV_fr hV (fun a ha => fr a (by omega) (by omega) (by omega) (by omega))) (fun r hr => by rw [fr 296 (by omega) (by omega) (by omega) (by omega)]; exact ht r hr) (fun r k hr hk => by rw [fr 297 (by omega) (by omega) (by omega) (by omega)]; exact hs r k hr hk) hv3
            refine ⟨I', ?_, fun a g1 g2 g3 g => (a2 a g1 g2 g3 g).trans (fr a g1 g2 g3 g), a3⟩
            rw [if_neg (fun q => y ((nI_ltI (by omega) (by omega)).mp q)), yes, lt, if_pos rfl]; exact a1
      · rw [if_neg z0]
        have hv3 := hv1.resolve_left z0
        cases lt : lbB N lw c k h
        · rw [lt] at hv3
          refine ⟨I, ?_, fun _ _ _ _ _ => rfl, hv⟩
          rw [if_pos (show I 298 (k * 100 + h) = 2 from hv3)]; rfl
        · rw [lt] at hv3
          obtain ⟨I', a1, a2, a3⟩ := ih (k + 1) m I (by omega) (by omega) (by omega) hL hV ht hs hv
          refine ⟨I', ?_, a2, a3⟩
          rw [if_neg (show ¬ I 298 (k * 100 + h) = 2 by rw [hv3]; decide), if_pos rfl]; exact a1
end XA
