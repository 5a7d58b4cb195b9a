/-! teaching: the class's sharing, the recursion -/
theorem nI_pr (y : Nat) : nI (y + 1) + (-1) = nI y := by
  rw [← qadd y 1, Int32.add_assoc, show nI 1 + (-1) = 0 by decide, Int32.add_zero]
theorem nI_plt {lo : Nat} (h : lo < 2147483648) : nI lo + (-1) < nI lo := by
  cases lo with
  | zero => decide
  | succ y => rw [nI_pr]; exact (nI_ltI (by omega) (by omega)).mpr (by omega)
theorem code_c {s t : TN} {r : Nat} (hs : ∀ j, j < 5 → s j ≤ 8) (hr : r < 5) (h : ∀ j, j < r → s j = t j) (hl : s r < t r) : codeN s ≤ codeN t := by
  have h0 := hs 0 (by omega)
  have h1 := hs 1 (by omega)
  have h2 := hs 2 (by omega)
  have h3 := hs 3 (by omega)
  have h4 := hs 4 (by omega)
  unfold codeN
  have : r = 0 ∨ r = 1 ∨ r = 2 ∨ r = 3 ∨ r = 4 := by omega
  rcases this with rfl | rfl | rfl | rfl | rfl
  · omega
  · have := h 0 (by omega); omega
  · have := h 0 (by omega); have := h 1 (by omega); omega
  · have := h 0 (by omega); have := h 1 (by omega); have := h 2 (by omega); omega
  · have := h 0 (by omega); have := h 1 (by omega); have := h 2 (by omega); have := h 3 (by omega); omega
def upT (t : TN) (r y : Nat) : TN := fun j => if j = r then y else t j
theorem upT_s (t : TN) (r y : Nat) : upT t r y r = y := if_pos rfl
theorem upT_k (t : TN) {r y j : Nat} (h : j ≠ r) : upT t r y j = t j := if_neg h
def ShQ (O : TO) (N : TN) (lw : Lws) (c m0 : Nat) (I0 : TI) (t : TN) (r q : Nat) (res : Option (Int32 × TI)) : Prop := ∃ I' t', ShI O N lw c I0 I' t' ∧ ((res = some (1, I') ∧ GdT (fun s => alB N lw c m0 s 5 1) t (N 0) r q t' ∧ ∀ s, GdT (fun s => alB N lw c m0 s 5 1) t (N 0) r q s → codeN s ≤ codeN t') ∨ (res = some (0, I') ∧ (∀ j, j < r → t' j = t j) ∧ (∀ j, N 0 ≤ j → t' j = t j) ∧ ∀ s, ¬ GdT (fun s => alB N lw c m0 s 5 1) t (N 0) r q s))
theorem Gd_ag {P : TN → Bool} {t t' s : TN} {e r q : Nat} (h1 : ∀ j, j < r → t' j = t j) (h2 : ∀ j, e ≤ j → t' j = t j) (h : GdT P t e r q s) : GdT P t' e r q s :=
  ⟨fun j hj => (h.1 j hj).trans (h1 j hj).symm, fun j hj => (h.2.1 j hj).trans (h2 j hj).symm, h.2.2⟩
section SH
variable {n : Nat} {O : TO} {N : TN} {lw : Lws} {c m0 : Nat} {sx : Option Nat} {I0 : TI}
theorem ShI_set (hB : WB N) {I : TI} {t : TN} {r y : Nat} (h : ShI O N lw c I0 I t) (hr : r < 5) (hy : y ≤ 8) : ShI O N lw c I0 (sI I 296 r (nI y)) (upT t r y) := by
  obtain ⟨h1, h2, h3⟩ := h
  refine ⟨fun a g1 g2 g3 g4 g5 => by rw [sI_o _ _ g4]; exact h1 a g1 g2 g3 g4 g5, fun j hj => ?_, ?_⟩
  · by_cases z : j = r
    · subst z
      rw [upT_s, sI_s]; exact ⟨hy, rfl⟩
    · rw [upT_k _ z, sI_k _ _ z]; exact h2 j hj
  · intro k h' g1 g2
    rw [sI_o _ _ (by omega)]; exact h3 k h' g1 g2
theorem x_c61 (hO : OF O) (hB : WB N) {t0 : TN} {r q lo : Nat} {rec : TI → Nat → Nat → Option Nat → Int32 → Int32 → Int32 → Int32 → Option (Int32 × TI)} (hrec : ∀ I t q', q' ≤ 8 → ShI O N lw c I0 I t → ShQ O N lw c m0 I0 t (r + 1) q' (rec I 295 3 sx (nI c) (nI m0) (nI (r + 1)) (nI q'))) (hr : r < N 0) (hq : q ≤ 8) (ht0 : ∀ j, j < 5 → t0 j ≤ 8) (hlo : ∀ s, GdT (fun s => alB N lw c m0 s 5 1) t0 (N 0) r q s → lo ≤ s r) : ∀ d k m I t, lo + d = k → k ≤ q + 1 → d < m → ShI O N lw c I0 I t → (∀ j, j < r → t j = t0 j) → (∀ j, N 0 ≤ j → t j = t0 j) → (∀ s, GdT (fun s => alB N lw c m0 s 5 1) t0 (N 0) r q s → s r < k) → ShQ O N lw c m0 I0 t0 r q (f6_share_c61 n O rec m I 295 3 sx (nI c) (nI m0) (nI r) (nI q) (nI lo) (nI k + (-1))) := by
  have b1 := hB.1
  intro d
  induction d with
  | zero =>
    intro k m I t hk hq1 hm hS a1 a2 a3
    obtain ⟨m, rfl⟩ : ∃ m', m = m' + 1 := ⟨m - 1, by omega⟩
    refine ⟨I, t, hS, Or.inr ⟨?_, a1, a2, fun s g => ?_⟩⟩
    · rw [show k = lo by omega, f6_share_c61, if_pos (nI_plt (by omega))]
    · have := a3 s g; have := hlo s g; omega
  | succ d ih =>
    intro k m I t hk hq1 hm hS a1 a2 a3
    obtain ⟨m, rfl⟩ : ∃ m', m = m' + 1 := ⟨m - 1, by omega⟩
    obtain ⟨y, rfl⟩ : ∃ y, k = y + 1 := ⟨k - 1, by omega⟩
    have hS4 := ShI_set hB hS (show r < 5 by omega) (show y ≤ 8 by omega)
    obtain ⟨I', t', hS', h⟩ := hrec _ _ (q - y) (by omega) hS4
    have pre : f6_share_c61 n O rec (m + 1) I 295 3 sx (nI c) (nI m0) (nI r) (nI q) (nI lo) (nI (y + 1) + (-1)) = (rec (sI I 296 r (nI y)) 295 3 sx (nI c) (nI m0) (nI (r + 1)) (nI (q - y))).bind fun r5 => (if r5.1 = 0 then f6_share_c61 n O rec m r5.2 295 3 sx (nI c) (nI m0) (nI r) (nI q) (nI lo) (nI y + (-1)) else some ((1 : Int32), r5.2)) := by
      rw [f6_share_c61, nI_pr, if_neg (fun g => by rw [nI_ltI (by omega) (by omega)] at g; omega), if_neg (nI_in (by omega) (by omega)), o_295_1 hO, qcl (by omega), qbl, qsub (by omega), nI_1]
    rw [pre]
    have go : ∀ s, GdT (fun s => alB N lw c m0 s 5 1) t0 (N 0) r q s → s r = y → GdT (fun s => alB N lw c m0 s 5 1) (upT t r y) (N 0) (r + 1) (q - y) s := by
      intro s ⟨g1, g2, g3, g4⟩ gy
      refine ⟨fun j hj => ?_, fun j hj => ?_, ?_, g4⟩
      · by_cases z : j = r
        · rw [z, upT_s, gy]
        · rw [upT_k _ z, a1 j (by omega)]; exact g1 j (by omega)
      · rw [upT_k _ (by omega), a2 j hj]; exact g2 j hj
      · rw [show N 0 - r = (N 0 - (r + 1)) + 1 by omega] at g3
        have g5 : s r + smT s (N 0 - (r + 1)) (r + 1) = q := g3
        omega
    rcases h with ⟨e1, e2, e3⟩ | ⟨e1, e2, e3, e4⟩
    · obtain ⟨f1, f2, f3, f4⟩ := e2
      have tr : t' r = y := by rw [f1 r (by omega), upT_s]
      have tj : ∀ j, j < r → t' j = t0 j := fun j hj => by rw [f1 j (by omega), upT_k _ (by omega)]; exact a1 j hj
      refine ⟨I', t', hS', Or.inl ⟨?_, ⟨tj, fun j hj => ?_, ?_, f4⟩, fun s g => ?_⟩⟩
      · rw [e1, qb, if_neg (show ¬ (1 : Int32) = 0 by decide)]
      · rw [f2 j hj, upT_k _ (by omega)]; exact a2 j hj
      · rw [show N 0 - r = (N 0 - (r + 1)) + 1 by omega]
        show t' r + smT t' (N 0 - (r + 1)) (r + 1) = q
        omega
      · have l1 := a3 s g
        by_cases z : s r = y
        · exact e3 s (go s g z)
        · refine code_c (r := r) (fun j hj => ?_) (by omega) (fun j hj => (g.1 j hj).trans (tj j hj).symm) (by omega)
          by_cases z1 : j < r
          · rw [g.1 j z1]; exact ht0 j hj
          · by_cases z2 : N 0 ≤ j
            · rw [g.2.1 j z2]; exact ht0 j hj
            · have := smT_le (s := s) (N 0 - r) r j (by omega) (by omega)
              have := g.2.2.1
              omega
    · rw [e1, qb, if_pos rfl]
      refine ih y m I' t' (by omega) (by omega) (by omega) hS' (fun j hj => ?_) (fun j hj => ?_) (fun s g => ?_)
      · rw [e2 j (by omega), upT_k _ (by omega)]; exact a1 j hj
      · rw [e3 j hj, upT_k _ (by omega)]; exact a2 j hj
      · have l1 := a3 s g
        have : s r ≠ y := fun z => e4 s (go s g z)
        omega
theorem x_share (hn : 100000 ≤ n) (hO : OF O) (hB : WB N) (hc : c < N 1) (hm0 : m0 < 64) (hL : LX0 I0 sx lw) (hV : WV I0 O 3 4 5 6 7 8 N) (hs : ∀ r k, r < 5 → k < 6 → I0 297 (r * 6 + k) = nI (sdK N r k)) : ∀ d r q fu I t, r + d = N 0 → d < fu → q ≤ 8 → ShI O N lw c I0 I t → ShQ O N lw c m0 I0 t r q (f6_rec n O fu I 295 3 sx (nI c) (nI m0) (nI r) (nI q)) := by
  have b1 := hB.1
  intro d
  induction d with
  | zero =>
    intro r q fu I t hr hf hq hS
    obtain ⟨fu, rfl⟩ : ∃ m', fu = m' + 1 := ⟨fu - 1, by omega⟩
    obtain ⟨s1, s2, s3⟩ := hS
    have hV' : WV I O 3 4 5 6 7 8 N := WV_fr hV (fun a ha => s1 a (by omega) (by omega) (by omega) (by omega) (by omega))
    have hL' : LX0 I sx lw := LX_fr hL (fun a g1 g2 => s1 a (by omega) (by omega) (by omega) (by omega) (by omega))
    have hs' : ∀ r k, r < 5 → k < 6 → I 297 (r * 6 + k) = nI (sdK N r k) := fun r k g1 g2 => by rw [s1 297 (by omega) (by omega) (by omega) (by omega) (by omega)]; exact hs r k g1 g2
    have pre : f6_rec n O (fu + 1) I 295 3 sx (nI c) (nI m0) (nI r) (nI q) = f6_share_c15 n O (f6_rec n O fu) I 295 3 sx (nI c) (nI m0) (nI q) := by
      rw [f6_rec, f6_share_b, hV'.2.1, if_pos ((nI_leI (by omega) (by omega)).mpr (by omega))]
    rw [pre, f6_share_c15]
    have eq : ∀ s, GdT (fun s => alB N lw c m0 s 5 1) t (N 0) r q s → s = t ∧ q = 0 ∧ alB N lw c m0 t 5 1 = true := by
      intro s ⟨g1, g2, g3, g4⟩
      have e : s = t := funext fun j => by
        by_cases z : j < r
        · exact g1 j z
        · exact g2 j (by omega)
      rw [show N 0 - r = 0 by omega] at g3
      subst e
      exact ⟨rfl, g3.symm, g4⟩
    by_cases z : q = 0
    · subst z
      obtain ⟨I', q1, q2, q3⟩ := x_all hn hO hB hc (t := t) (m0 := m0) hm0 5 1 n I (by omega) (by omega) (by omega) hL' hV' s2 hs' s3
      have hS' : ShI O N lw c I0 I' t := ⟨fun a g1 g2 g3 g4 g5 => by rw [q2 a g1 g2 g3 g5]; exact s1 a g1 g2 g3 g4 g5, fun r hr => by rw [q2 296 (by omega) (by omega) (by omega) (by omega)]; exact s2 r hr, q3⟩
      rw [if_pos (show nI 0 = 0 from rfl), f6_teachesAll, show f6_teachesAll_c3 n O n I 295 3 sx (nI c) (nI m0) 1 = _ from q1, qb]
      refine ⟨I', t, hS', ?_⟩
      cases ha : alB N lw c m0 t 5 1
      · right
        refine ⟨rfl, fun _ _ => rfl, fun _ _ => rfl, fun s g => ?_⟩
        have := (eq s g).2.2
        rw [ha] at this; exact absurd this (by decide)
      · left
        refine ⟨rfl, ⟨fun _ _ => rfl, fun _ _ => rfl, ?_, ha⟩, fun s g => by rw [(eq s g).1]; exact Nat.le_refl _⟩
        rw [show N 0 - r = 0 by omega]; rfl
    · refine ⟨I, t, ⟨s1, s2, s3⟩, Or.inr ⟨?_, fun _ _ => rfl, fun _ _ => rfl, fun s g => z (eq s g).2.1⟩⟩
      rw [if_neg (fun g => z (by rw [show (0 : Int32) = nI 0 from rfl, nI_eq (by omega) (by omega)] at g; exact g))]
  | succ d ih =>
    intro r q fu I t hr hf hq hS
    obtain ⟨fu, rfl⟩ : ∃ m', fu = m' + 1 := ⟨fu - 1, by omega⟩
    have s1 := hS.1
    have hV' : WV I O 3 4 5 6 7 8 N := WV_fr hV (fun a ha => s1 a (by omega) (by omega) (by omega) (by omega) (by omega))
    have hrec : ∀ I t q', q' ≤ 8 → ShI O N lw c I0 I t → ShQ O N lw c m0 I0 t (r + 1) q' (f6_rec n O fu I 295 3 sx (nI c) (nI m0) (nI (r + 1)) (nI q')) := fun I t q' h1 h2 => ih (r + 1) q' fu I t (by omega) (by omega) h1 h2
    have up : ∀ s, GdT (fun s => alB N lw c m0 s 5 1) t (N 0) r q s → s r < q + 1 := fun s g => by
      have := smT_le (s := s) (N 0 - r) r r (by omega) (by omega)
      have := g.2.2.1
      omega
    have ht0 : ∀ j, j < 5 → t j ≤ 8 := fun j hj => (hS.2.1 j hj).1
    have e5 : nI r < (5 : Int32) := (nI_ltI (b := 5) (by omega) (by omega)).mpr (by omega)
    have n3 : ¬ nI (N 0) ≤ nI r := nle_i (by omega) (by omega) (by omega)
    by_cases z : r + 1 = N 0
    · have k := x_c61 (n := n) (lo := q) hO hB hrec (by omega) hq ht0 (fun s g => by
        have g3 := g.2.2.1
        rw [show N 0 - r = 0 + 1 by omega] at g3
        have g5 : s r + 0 = q := g3
        omega) 1 (q + 1) n I t (by omega) (by omega) (by omega) hS (fun _ _ => rfl) (fun _ _ => rfl) up
      rw [nI_pr] at k
      rw [f6_rec, f6_share_b, hV'.2.1, if_neg n3, if_pos e5, nI_1, if_pos (congrArg nI z)]
      exact k
    · have k := x_c61 (n := n) (lo := 0) hO hB hrec (by omega) hq ht0 (fun s g => Nat.zero_le _) (q + 1) (q + 1) n I t (by omega) (by omega) (by omega) hS (fun _ _ => rfl) (fun _ _ => rfl) up
      rw [nI_pr] at k
      rw [f6_rec, f6_share_b, hV'.2.1, if_neg n3, if_pos e5, nI_1, if_neg (fun g => z (by rw [nI_eq (by omega) (by omega)] at g; exact g))]
      exact k
end SH
