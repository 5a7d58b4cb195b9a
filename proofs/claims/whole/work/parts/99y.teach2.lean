/-! teaching: the class's answer -/
section TC
variable {n : Nat} {O : TO} {N : TN} {lw : Lws} {c m0 : Nat} {sx : Option Nat} {I0 : TI}
def GdZ (N : TN) (lw : Lws) (c m0 q : Nat) (s : TN) : Prop := GdT (fun s => alB N lw c m0 s 5 1) (fun _ => 0) (N 0) 0 q s
def TcQ (O : TO) (N : TN) (lw : Lws) (c m0 : Nat) (I0 : TI) (res : Option (Int32 × TI)) : Prop := (∃ I' t', res = some (-1, I') ∧ ShI O N lw c I0 I' t' ∧ ∀ q, q ≤ 8 → ∀ s, ¬ GdZ N lw c m0 q s) ∨ (∃ I' t' q, res = some (nI q, I') ∧ ShI O N lw c I0 I' t' ∧ q ≤ 8 ∧ GdZ N lw c m0 q t' ∧ (∀ q', q' < q → ∀ s, ¬ GdZ N lw c m0 q' s) ∧ ∀ s, GdZ N lw c m0 q s → codeN s ≤ codeN t')
theorem x_c71 (hn : 100000 ≤ n) (hO : OF O) (hB : WB N) (hc : c < N 1) (hm0 : m0 < 64) (hL : LX0 I0 sx lw) (hV : WV I0 O 3 4 5 6 7 8 N) (hs : ∀ r k, r < 5 → k < 6 → I0 297 (r * 6 + k) = nI (sdK N r k)) : ∀ d q m I t, q + d = 9 → d < m → ShI O N lw c I0 I t → (∀ j, N 0 ≤ j → t j = 0) → (∀ q', q' < q → ∀ s, ¬ GdZ N lw c m0 q' s) → TcQ O N lw c m0 I0 (f6_teach_c71 n O m I 295 3 sx (nI c) (nI m0) (nI q)) := by
  have b1 := hB.1
  intro d
  induction d with
  | zero =>
    intro q m I t hq hm hS hz hno
    obtain ⟨m, rfl⟩ : ∃ m', m = m' + 1 := ⟨m - 1, by omega⟩
    refine Or.inl ⟨I, t, ?_, hS, fun q' h' => hno q' (by omega)⟩
    rw [f6_teach_c71, show q = 9 by omega, if_pos (show (8 : Int32) < nI 9 by decide)]
  | succ d ih =>
    intro q m I t hq hm hS hz hno
    obtain ⟨m, rfl⟩ : ∃ m', m = m' + 1 := ⟨m - 1, by omega⟩
    obtain ⟨I', t', hS', h⟩ := x_share hn hO hB hc hm0 hL hV hs (N 0) 0 q 10 I t (by omega) (by omega) (by omega) hS
    have n8 : ¬ (8 : Int32) < nI q := fun g => by have := (nI_ltI (a := 8) (by omega) (by omega)).mp g; omega
    have pre : f6_teach_c71 n O (m + 1) I 295 3 sx (nI c) (nI m0) (nI q) = (f6_rec n O 10 I 295 3 sx (nI c) (nI m0) (nI 0) (nI q)).bind fun r2 => (if r2.1 = 0 then f6_teach_c71 n O m r2.2 295 3 sx (nI c) (nI m0) (nI (q + 1)) else some (nI q, r2.2)) := by
      rw [f6_teach_c71, if_neg n8, f6_share, nI_1]; rfl
    rw [pre]
    rcases h with ⟨e1, e2, e3⟩ | ⟨e1, e2, e3, e4⟩
    · rw [e1, qb, if_neg (show ¬ (1 : Int32) = 0 by decide)]
      refine Or.inr ⟨I', t', q, rfl, hS', by omega, Gd_ag (fun j hj => by omega) (fun j hj => (hz j hj).symm) e2, hno, fun s g => e3 s (Gd_ag (fun j hj => by omega) hz g)⟩
    · rw [e1, qb, if_pos rfl]
      refine ih (q + 1) m I' t' (by omega) (by omega) hS' (fun j hj => (e3 j hj).trans (hz j hj)) (fun q' h' s g => ?_)
      by_cases z : q' = q
      · subst z
        exact e4 s (Gd_ag (fun j hj => by omega) hz g)
      · exact hno q' (by omega) s g
theorem x_sound0 (hn : 100000 ≤ n) (hB : WB N) {I : TI} (hV : WV I O 3 4 5 6 7 8 N) {r k : Nat} (hr : r < 5) (hk : k < 6) : f10_soundings n I O 3 (nI r) (nI k) = some (nI (sdK N r k)) := by
  by_cases z : r < N 0
  · exact x_sound hn hB hV z hk
  · obtain ⟨m, rfl⟩ : ∃ m', n = m' + 1 := ⟨n - 1, by omega⟩
    have h : ¬ inR (nI r) (N 0) := fun g => by unfold inR at g; rw [qtoI (by omega)] at g; omega
    have es : f10_size I O 3 (nI r) = some 0 := by
      rw [f10_size, x_noRoll hV hB h, qb, if_pos rfl]
    unfold sdK
    rw [if_neg z, f10_soundings, f10_soundings_c5, es, qb, if_pos (Int32.le_refl _)]; rfl
def LyI (N : TN) (Ib I : TI) (r k : Nat) : Prop := (∀ a, a ≠ 297 → I a = Ib a) ∧ ∀ r' k', r' < 5 → k' < 6 → (r' < r ∨ (r' = r ∧ k' < k)) → I 297 (r' * 6 + k') = nI (sdK N r' k')
theorem x_c28 (hn : 100000 ≤ n) (hO : OF O) (hB : WB N) {Ib : TI} (hV : WV Ib O 3 4 5 6 7 8 N) {k19 : TI → Nat → Nat → Option Nat → Int32 → Int32 → Int32 → Option (Int32 × TI)} {r : Nat} (hr : r < 5) {y3 y4 : Int32} : ∀ d k m I, k + d = 6 → d < m → LyI N Ib I r k → ∃ I', LyI N Ib I' (r + 1) 0 ∧ f6_teach_c28 n O k19 m I 295 3 sx y3 y4 (nI r) (nI k) = k19 I' 295 3 sx y3 y4 (nI (r + 1)) := by
  intro d
  induction d with
  | zero =>
    intro k m I hk hm hI
    obtain ⟨m, rfl⟩ : ∃ m', m = m' + 1 := ⟨m - 1, by omega⟩
    refine ⟨I, ⟨hI.1, fun r' k' h1 h2 h3 => hI.2 r' k' h1 h2 (by omega)⟩, ?_⟩
    rw [f6_teach_c28, show k = 6 by omega, if_pos (show (6 : Int32) ≤ nI 6 by decide), nI_1]
  | succ d ih =>
    intro k m I hk hm hI
    obtain ⟨m, rfl⟩ : ∃ m', m = m' + 1 := ⟨m - 1, by omega⟩
    have es := x_sound0 hn hB (WV_fr hV (fun a ha => hI.1 a (by omega))) hr (show k < 6 by omega)
    obtain ⟨I', q1, q2⟩ := ih (k + 1) m (sI I 297 (r * 6 + k) (nI (sdK N r k))) (by omega) (by omega) ⟨fun a ha => by rw [sI_o _ _ ha]; exact hI.1 a ha, fun r' k' h1 h2 h3 => by
      by_cases z : r' * 6 + k' = r * 6 + k
      · have e1 : r' = r := by omega
        have e2 : k' = k := by omega
        subst e1; subst e2; rw [sI_s]
      · rw [sI_k _ _ z]; exact hI.2 r' k' h1 h2 (by omega)⟩
    refine ⟨I', q1, ?_⟩
    rw [f6_teach_c28, if_neg (show ¬ (6 : Int32) ≤ nI k from nle_i (a := 6) (by omega) (by omega) (by omega)), es, qb, show nI r * 6 = nI (r * 6) from qmul r 6, qadd, if_neg (nI_in (by omega) (by omega)), qcl (by omega), o_295_2 hO, qbl, nI_1, q2]
theorem x_c19 (hn : 100000 ≤ n) (hO : OF O) (hB : WB N) {Ib : TI} (hV : WV Ib O 3 4 5 6 7 8 N) {y3 y4 : Int32} : ∀ d r m I, r + d = 5 → d < m → LyI N Ib I r 0 → ∃ I', LyI N Ib I' 5 0 ∧ f6_teach_c19 n O m I 295 3 sx y3 y4 (nI r) = f6_teach_c71 n O n I' 295 3 sx y3 y4 (nI 0) := by
  intro d
  induction d with
  | zero =>
    intro r m I hk hm hI
    obtain ⟨m, rfl⟩ : ∃ m', m = m' + 1 := ⟨m - 1, by omega⟩
    refine ⟨I, by rw [← show r = 5 by omega]; exact hI, ?_⟩
    rw [f6_teach_c19, show r = 5 by omega, if_pos (show (5 : Int32) ≤ nI 5 by decide)]; rfl
  | succ d ih =>
    intro r m I hk hm hI
    obtain ⟨m, rfl⟩ : ∃ m', m = m' + 1 := ⟨m - 1, by omega⟩
    obtain ⟨I1, q1, q2⟩ := x_c28 (sx := sx) (k19 := f6_teach_c19 n O m) (y3 := y3) (y4 := y4) hn hO hB hV (show r < 5 by omega) 6 0 n I (by omega) (by omega) hI
    obtain ⟨I2, q3, q4⟩ := ih (r + 1) m I1 (by omega) (by omega) q1
    refine ⟨I2, q3, ?_⟩
    rw [f6_teach_c19, if_neg (show ¬ (5 : Int32) ≤ nI r from nle_i (a := 5) (by omega) (by omega) (by omega)), ← q4, ← q2]; rfl
theorem x_teach (hn : 100000 ≤ n) (hO : OF O) (hB : WB N) (hc : c < N 1) (hm0 : m0 < 64) {I : TI} (hL : LX0 I sx lw) (hV : WV I O 3 4 5 6 7 8 N) : ∃ I0, (∀ a, a ≠ 296 → a ≠ 297 → a ≠ 298 → I0 a = I a) ∧ TcQ O N lw c m0 I0 (f6_teach n I O 295 3 sx (nI c) (nI m0)) := by
  have fr : ∀ a, a ≠ 296 → a ≠ 298 → (flI (flI I 298 600 0) 296 5 0) a = I a := fun a h1 h2 => by
    unfold flI va_up
    rw [if_neg h1, if_neg h2]
  have hVb := WV_fr (I' := flI (flI I 298 600 0) 296 5 0) hV (fun a ha => fr a (by omega) (by omega))
  obtain ⟨I0, ⟨q1, q2⟩, q3⟩ := x_c19 (sx := sx) (y3 := nI c) (y4 := nI m0) hn hO hB hVb 5 0 n (flI (flI I 298 600 0) 296 5 0) (by omega) (by omega) ⟨fun _ _ => rfl, fun r' k' h1 h2 h3 => by omega⟩
  refine ⟨I0, fun a h1 h2 h3 => (q1 a h2).trans (fr a h1 h3), ?_⟩
  have e : f6_teach n I O 295 3 sx (nI c) (nI m0) = f6_teach_c71 n O n I0 295 3 sx (nI c) (nI m0) (nI 0) := by
    rw [f6_teach, o_295_3 hO, o_295_1 hO, qbl, qbl]; exact q3
  rw [e]
  refine x_c71 hn hO hB hc hm0 (LX_fr hL (fun a h1 h2 => (q1 a (by omega)).trans (fr a (by omega) (by omega)))) (WV_fr hVb (fun a ha => q1 a (by omega))) (fun r k h1 h2 => q2 r k h1 h2 (by omega)) 9 0 n I0 (fun _ => 0) (by omega) (by omega) ⟨fun _ _ _ _ _ _ => rfl, fun r hr => ⟨Nat.zero_le _, ?_⟩, fun k h hk hh => Or.inl ?_⟩ (fun _ _ => rfl) (fun q' h' => by omega)
  · rw [q1 296 (by omega)]
    unfold flI va_up
    rw [if_pos rfl]
    show (if r < 5 then (0 : Int32) else _) = nI 0
    rw [if_pos hr]; rfl
  · rw [q1 298 (by omega)]
    unfold flI va_up
    rw [if_neg (by omega), if_pos rfl]
    show (if k * 100 + h < 600 then (0 : Int32) else _) = 0
    rw [if_pos (by omega)]
end TC
