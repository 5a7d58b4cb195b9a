/-! the stair: laying a roll over a row -/
theorem leastP (P : Nat → Prop) : ∀ l, P l → ∃ f, f ≤ l ∧ P f ∧ ∀ j, j < f → ¬ P j := by
  intro l
  induction l using Nat.strongRecOn with
  | _ l ih =>
    intro h
    by_cases z : ∃ j, j < l ∧ P j
    · obtain ⟨j, h1, h2⟩ := z
      obtain ⟨f, a1, a2, a3⟩ := ih j h1 h2
      exact ⟨f, by omega, a2, a3⟩
    · exact ⟨l, Nat.le_refl _, h, fun j hj g => z ⟨j, hj, g⟩⟩
def ovP (u : TN) (l : Nat) (k : TN) (m f : Nat) : Prop := ∀ p, p < m → f + p < l → u (f + p) = k p
noncomputable def frF (u : TN) (l : Nat) (k : TN) (m : Nat) : Nat → Nat → Nat
  | 0, f => f
  | d + 1, f => @ite Nat (ovP u l k m f) (Classical.propDecidable _) f (frF u l k m d (f + 1))
noncomputable def frm (u : TN) (l : Nat) (k : TN) (m : Nat) : Nat := frF u l k m l 0
theorem frF_eq {u k : TN} {l m : Nat} : ∀ d f0 f, f0 ≤ f → f ≤ f0 + d → (∀ j, f0 ≤ j → j < f → ¬ ovP u l k m j) → ovP u l k m f → frF u l k m d f0 = f := by
  intro d
  induction d with
  | zero => intro f0 f h1 h2 _ _; show f0 = f; omega
  | succ d ih =>
    intro f0 f h1 h2 h3 h4
    show @ite Nat (ovP u l k m f0) (Classical.propDecidable _) f0 (frF u l k m d (f0 + 1)) = f
    by_cases z : f0 = f
    · rw [z, if_pos h4]
    · rw [if_neg (h3 f0 (Nat.le_refl _) (by omega))]
      exact ih (f0 + 1) f (by omega) (by omega) (fun j g1 g2 => h3 j (by omega) g2) h4
theorem frm_eq {u k : TN} {l m f : Nat} (h1 : f ≤ l) (h2 : ∀ j, j < f → ¬ ovP u l k m j) (h3 : ovP u l k m f) : frm u l k m = f :=
  frF_eq l 0 f (Nat.zero_le _) (by omega) (fun j _ g => h2 j g) h3
theorem ov_end (u k : TN) (l m : Nat) : ovP u l k m l := fun p _ h => by omega
noncomputable def lyS (N : TN) (s : TN × Nat) (r : Nat) : TN × Nat := (fun p => if frm s.1 s.2 (K N r) (Ln N r) ≤ p ∧ p < frm s.1 s.2 (K N r) (Ln N r) + Ln N r then K N r (p - frm s.1 s.2 (K N r) (Ln N r)) else s.1 p, max s.2 (frm s.1 s.2 (K N r) (Ln N r) + Ln N r))
def lyA (N : TN) (s : TN × Nat) (r f : Nat) : TN × Nat := (fun p => if f ≤ p ∧ p < f + Ln N r then K N r (p - f) else s.1 p, max s.2 (f + Ln N r))
theorem ly_eq {N : TN} {s : TN × Nat} {r f : Nat} (h1 : f ≤ s.2) (h2 : ∀ j, j < f → ¬ ovP s.1 s.2 (K N r) (Ln N r) j) (h3 : ovP s.1 s.2 (K N r) (Ln N r) f) : lyS N s r = lyA N s r f := by
  unfold lyS
  rw [frm_eq h1 h2 h3]; rfl
theorem ly_len {N : TN} (hB : WB N) {s : TN × Nat} {r : Nat} (hr : r < 5) : s.2 ≤ (lyS N s r).2 ∧ (lyS N s r).2 ≤ s.2 + 16 := by
  obtain ⟨f, h1, h3, h2⟩ := leastP (ovP s.1 s.2 (K N r) (Ln N r)) s.2 (ov_end _ _ _ _)
  have l1 := hB.2.2.1 r hr
  rw [ly_eq h1 h2 h3]
  show s.2 ≤ max s.2 (f + Ln N r) ∧ max s.2 (f + Ln N r) ≤ s.2 + 16
  omega
noncomputable def stL (N : TN) (s : TN × Nat) (l : List Nat) : TN × Nat := l.foldl (lyS N) s
theorem stL_len {N : TN} (hB : WB N) : ∀ (l : List Nat) (s : TN × Nat), (∀ r, r ∈ l → r < 5) → (stL N s l).2 ≤ s.2 + 16 * l.length := by
  intro l
  induction l with
  | nil => intro s _; exact Nat.le_refl _
  | cons r l ih =>
    intro s h
    have h1 := ih (lyS N s r) (fun x hx => h x (List.mem_cons_of_mem _ hx))
    have h2 := (ly_len hB (s := s) (h r List.mem_cons_self)).2
    show (stL N (lyS N s r) l).2 ≤ s.2 + 16 * (l.length + 1)
    omega
def RowA (A : Nat → Int32) (s : TN × Nat) : Prop := ∀ p, p < s.2 → s.1 p ≤ 5 ∧ A p = nI (s.1 p)
section LX
variable {n : Nat} {I J : TI} {O : TO} {N : TN}
theorem x_lies (hO : OF O) {s : TN × Nat} (hR : RowA (I 292) s) {k : TN} {m f o : Nat} (hk : ∀ p, p < m → k p ≤ 5 ∧ I 288 p = nI (k p)) (ho : o ≤ m) (hm : m ≤ 16) (hf : f + o ≤ s.2) (hs : s.2 ≤ 80) : ∀ d p m', p + d = o → d < m' → (∀ j, j < p → s.1 (f + j) = k j) → ((∀ j, j < o → s.1 (f + j) = k j) ∧ f2_lies_c2 n I O m' 287 (nI f) (nI o) (nI p) = some 1) ∨ ((¬ ∀ j, j < o → s.1 (f + j) = k j) ∧ f2_lies_c2 n I O m' 287 (nI f) (nI o) (nI p) = some 0) := by
  intro d
  induction d with
  | zero =>
    intro p m' hp hm' h
    obtain ⟨m', rfl⟩ : ∃ m'', m' = m'' + 1 := ⟨m' - 1, by omega⟩
    refine Or.inl ⟨fun j hj => h j (by omega), ?_⟩
    rw [f2_lies_c2, show p = o by omega, if_pos (Int32.le_refl _)]
  | succ d ih =>
    intro p m' hp hm' h
    obtain ⟨m', rfl⟩ : ∃ m'', m' = m'' + 1 := ⟨m' - 1, by omega⟩
    obtain ⟨k1, k2⟩ := hk p (by omega)
    obtain ⟨r1, r2⟩ := hR (f + p) (by omega)
    have pre : f2_lies_c2 n I O (m' + 1) 287 (nI f) (nI o) (nI p) = if nI (s.1 (f + p)) = nI (k p) then f2_lies_c2 n I O m' 287 (nI f) (nI o) (nI (p + 1)) else some 0 := by
      rw [f2_lies_c2, if_neg (nle_i (by omega) (by omega) (by omega)), if_neg (show ¬ (16 : Int32) ≤ nI p from nle_i (a := 16) (by omega) (by omega) (by omega)), qadd, if_neg (show ¬ (80 : Int32) ≤ nI (f + p) from nle_i (a := 80) (by omega) (by omega) (by omega)), if_neg (nI_in (by omega) (by omega)), if_neg (nI_in (by omega) (by omega)), o_287_4 hO, o_287_0 hO, qcl (by omega), qcl (by omega), r2, k2, nI_1]
    rw [pre]
    by_cases z : s.1 (f + p) = k p
    · rw [if_pos (congrArg nI z)]
      exact ih (p + 1) m' (by omega) (by omega) (fun j hj => by
        by_cases w : j = p
        · rw [w]; exact z
        · exact h j (by omega))
    · rw [if_neg (fun g => z (by rw [nI_eq (by omega) (by omega)] at g; exact g))]
      exact Or.inr ⟨fun g => z (g p (by omega)), rfl⟩
theorem x_c84 (hO : OF O) {k : TN} {m f ℓ : Nat} (hm : m ≤ 16) (hf : f ≤ ℓ) (hl : ℓ ≤ 64) : ∀ d p m' I, p + d = m → d < m' → ℓ ≤ f + p → (∀ p, p < m → I 288 p = nI (k p)) → ∃ I', f2_layOne_c84 n O m' I 287 (nI m) (nI f) (nI p) = some (nI (f + m), I') ∧ (∀ a, a ≠ 292 → I' a = I a) ∧ (∀ j, j < f + p → I' 292 j = I 292 j) ∧ ∀ j, f + p ≤ j → j < f + m → I' 292 j = nI (k (j - f)) := by
  intro d
  induction d with
  | zero =>
    intro p m' I hp hm' hl2 hk
    obtain ⟨m', rfl⟩ : ∃ m'', m' = m'' + 1 := ⟨m' - 1, by omega⟩
    refine ⟨I, ?_, fun _ _ => rfl, fun _ _ => rfl, fun j h1 h2 => by omega⟩
    rw [f2_layOne_c84, show p = m by omega, if_pos (Int32.le_refl _), qadd]
  | succ d ih =>
    intro p m' I hp hm' hl2 hk
    obtain ⟨m', rfl⟩ : ∃ m'', m' = m'' + 1 := ⟨m' - 1, by omega⟩
    obtain ⟨I', q1, q2, q3, q4⟩ := ih (p + 1) m' (sI I 292 (f + p) (nI (k p))) (by omega) (by omega) (by omega) (fun j hj => by rw [sI_o _ _ (by omega)]; exact hk j hj)
    refine ⟨I', ?_, fun a ha => by rw [q2 a ha, sI_o _ _ ha], fun j hj => by rw [q3 j (by omega), sI_k _ _ (by omega)], fun j h1 h2 => ?_⟩
    · rw [f2_layOne_c84, if_neg (nle_i (by omega) (by omega) (by omega)), qadd, if_neg (show ¬ (80 : Int32) ≤ nI (f + p) from nle_i (a := 80) (by omega) (by omega) (by omega)), if_neg (nI_in (by omega) (by omega)), if_neg (nI_in (by omega) (by omega)), o_287_4 hO, o_287_0 hO, qcl (by omega), qcl (by omega), qbl, hk p (by omega), nI_1, q1]
    · by_cases z : j = f + p
      · rw [z, q3 (f + p) (by omega), sI_s, show f + p - f = p by omega]
      · exact q4 j (by omega) h2
/-- what laying leaves -/
def LoQ (N : TN) (s : TN × Nat) (r : Nat) (I : TI) (res : Option (Int32 × TI)) : Prop := ∃ I', res = some (nI (lyS N s r).2, I') ∧ RowA (I' 292) (lyS N s r) ∧ (∀ p, p < s.2 → I' 292 p = I 292 p) ∧ ∀ a, a ≠ 288 → a ≠ 292 → I' a = I a
theorem x_c50 (hn : 100000 ≤ n) (hO : OF O) (hB : WB N) {s : TN × Nat} (hR : RowA (I 292) s) {r : Nat} (hr : r < N 0) (hk : ∀ p, p < Ln N r → I 288 p = nI (K N r p)) (hs : s.2 ≤ 64) : ∀ o m', o ≤ Ln N r → o ≤ s.2 → o < m' → (∀ j, j < s.2 - o → ¬ ovP s.1 s.2 (K N r) (Ln N r) j) → LoQ N s r I (f2_layOne_c50 n O m' I 287 (nI s.2) (nI (Ln N r)) (nI o)) := by
  have b1 := hB.1
  have l1 := hB.2.2.1 r (by omega)
  have kb : ∀ p, p < Ln N r → K N r p ≤ 5 := fun p hp => hB.2.2.2.2.1 r p (by omega) (by omega)
  have fin : ∀ o, o ≤ Ln N r → o ≤ s.2 → (∀ j, j < s.2 - o → ¬ ovP s.1 s.2 (K N r) (Ln N r) j) → (∀ j, j < o → s.1 (s.2 - o + j) = K N r j) → LoQ N s r I (f2_layOne_c84 n O n I 287 (nI (Ln N r)) (nI (s.2 - o)) (nI o)) := by
    intro o h1 h2 h3 h4
    have e := ly_eq (N := N) (s := s) (r := r) (f := s.2 - o) (by omega) h3 (fun p _ hp2 => h4 p (by omega))
    obtain ⟨I', q1, q2, q3, q4⟩ := x_c84 (n := n) hO (k := K N r) (f := s.2 - o) (ℓ := s.2) l1 (by omega) hs (Ln N r - o) o n I (by omega) (by omega) (by omega) hk
    refine ⟨I', ?_, ?_, fun p hp => q3 p (by omega), fun a _ ha => q2 a ha⟩
    · rw [q1, e]
      show _ = some (nI (max s.2 (s.2 - o + Ln N r)), I')
      rw [show max s.2 (s.2 - o + Ln N r) = s.2 - o + Ln N r by omega]
    · rw [e]
      intro p hp
      have hp' : p < max s.2 (s.2 - o + Ln N r) := hp
      show (if s.2 - o ≤ p ∧ p < s.2 - o + Ln N r then K N r (p - (s.2 - o)) else s.1 p) ≤ 5 ∧ I' 292 p = nI (if s.2 - o ≤ p ∧ p < s.2 - o + Ln N r then K N r (p - (s.2 - o)) else s.1 p)
      by_cases z : s.2 - o ≤ p
      · rw [if_pos ⟨z, by omega⟩]
        refine ⟨kb _ (by omega), ?_⟩
        by_cases w : p < s.2
        · rw [q3 p (by omega), (hR p w).2, ← h4 (p - (s.2 - o)) (by omega), show s.2 - o + (p - (s.2 - o)) = p by omega]
        · exact q4 p (by omega) (by omega)
      · rw [if_neg (fun g => z g.1), q3 p (by omega)]
        exact hR p (by omega)
  intro o
  induction o with
  | zero =>
    intro m' h1 h2 hm' h3
    obtain ⟨m', rfl⟩ : ∃ m'', m' = m'' + 1 := ⟨m' - 1, by omega⟩
    have := fin 0 h1 h2 h3 (fun j hj => by omega)
    rw [f2_layOne_c50, if_pos (show nI 0 ≤ 0 by decide), qsub (Nat.zero_le _)]
    exact this
  | succ o ih =>
    intro m' h1 h2 hm' h3
    obtain ⟨m', rfl⟩ : ∃ m'', m' = m'' + 1 := ⟨m' - 1, by omega⟩
    have li := x_lies (n := n) hO hR (k := K N r) (m := Ln N r) (f := s.2 - (o + 1)) (o := o + 1) (fun p hp => ⟨kb p hp, hk p hp⟩) h1 l1 (by omega) (by omega) (o + 1) 0 n (by omega) (by omega) (fun j hj => by omega)
    rw [f2_layOne_c50, if_neg (show ¬ nI (o + 1) ≤ 0 from nle_i (b := 0) (by omega) (by omega) (by omega)), qsub (by omega), f2_lies]
    rcases li with ⟨g1, g2⟩ | ⟨g1, g2⟩
    · rw [show f2_lies_c2 n I O n 287 (nI (s.2 - (o + 1))) (nI (o + 1)) 0 = _ from g2, qb, if_neg (by decide)]
      exact fin (o + 1) h1 h2 h3 g1
    · rw [show f2_lies_c2 n I O n 287 (nI (s.2 - (o + 1))) (nI (o + 1)) 0 = _ from g2, qb, if_pos rfl, nI_pr]
      refine ih m' (by omega) (by omega) (by omega) (fun j hj => ?_)
      by_cases z : j = s.2 - (o + 1)
      · rw [z]
        exact fun g => g1 (fun i hi => g i (by omega) (by omega))
      · exact h3 j (by omega)
theorem x_c14 (hn : 100000 ≤ n) (hO : OF O) (hB : WB N) {s : TN × Nat} (hR : RowA (I 292) s) {r : Nat} (hr : r < N 0) (hk : ∀ p, p < Ln N r → I 288 p = nI (K N r p)) (hs : s.2 ≤ 64) : ∀ d j m', j + d = s.2 + 1 → d < m' → (∀ i, i < j → ¬ ovP s.1 s.2 (K N r) (Ln N r) i) → (j = 0 ∨ j + Ln N r ≤ s.2 + 1) → LoQ N s r I (f2_layOne_c14 n O m' I 287 (nI s.2) (nI (Ln N r)) (nI j)) := by
  have b1 := hB.1
  have l1 := hB.2.2.1 r (by omega)
  have l0 := hB.2.2.2.1 r hr
  have kb : ∀ p, p < Ln N r → K N r p ≤ 5 := fun p hp => hB.2.2.2.2.1 r p (by omega) (by omega)
  intro d
  induction d with
  | zero =>
    intro j m' hj hm' h hjm
    omega
  | succ d ih =>
    intro j m' hj hm' h hjm
    obtain ⟨m', rfl⟩ : ∃ m'', m' = m'' + 1 := ⟨m' - 1, by omega⟩
    by_cases z : s.2 < j + Ln N r
    · have hmin : fJ9_min_7cf53 (nI (Ln N r)) (nI s.2) = some (nI (min (Ln N r) s.2)) := by
        unfold fJ9_min_7cf53
        by_cases w : Ln N r ≤ s.2
        · rw [Nat.min_eq_left w, if_neg (fun g => by have := (nI_ltI (by omega) (by omega)).mp g; omega)]
        · rw [Nat.min_eq_right (by omega), if_pos ((nI_ltI (by omega) (by omega)).mpr (by omega))]
      rw [f2_layOne_c14, qadd, if_pos ((nI_ltI (by omega) (by omega)).mpr z), hmin, qb]
      exact x_c50 hn hO hB hR hr hk hs (min (Ln N r) s.2) n (by omega) (by omega) (by omega) (fun i hi => h i (by omega))
    · have li := x_lies (n := n) hO hR (k := K N r) (m := Ln N r) (f := j) (o := Ln N r) (fun p hp => ⟨kb p hp, hk p hp⟩) (Nat.le_refl _) l1 (by omega) (by omega) (Ln N r) 0 n (by omega) (by omega) (fun j hj => by omega)
      rw [f2_layOne_c14, qadd, if_neg (fun g => z ((nI_ltI (by omega) (by omega)).mp g)), f2_lies]
      rcases li with ⟨g1, g2⟩ | ⟨g1, g2⟩
      · rw [show f2_lies_c2 n I O n 287 (nI j) (nI (Ln N r)) 0 = _ from g2, qb, if_neg (by decide)]
        have e := ly_eq (N := N) (s := s) (r := r) (f := j) (by omega) h (fun p hp1 _ => g1 p hp1)
        refine ⟨I, ?_, ?_, fun _ _ => rfl, fun _ _ _ => rfl⟩
        · rw [e]
          show _ = some (nI (max s.2 (j + Ln N r)), I)
          rw [show max s.2 (j + Ln N r) = s.2 by omega]
        · rw [e]
          intro p hp
          have hp' : p < max s.2 (j + Ln N r) := hp
          show (if j ≤ p ∧ p < j + Ln N r then K N r (p - j) else s.1 p) ≤ 5 ∧ I 292 p = nI (if j ≤ p ∧ p < j + Ln N r then K N r (p - j) else s.1 p)
          by_cases w : j ≤ p ∧ p < j + Ln N r
          · rw [if_pos w, ← g1 (p - j) (by omega), show j + (p - j) = p by omega]; exact hR p (by omega)
          · rw [if_neg w]; exact hR p (by omega)
      · rw [show f2_lies_c2 n I O n 287 (nI j) (nI (Ln N r)) 0 = _ from g2, qb, if_pos rfl, nI_1]
        refine ih (j + 1) m' (by omega) (by omega) (fun i hi => ?_) (by omega)
        by_cases w : i = j
        · rw [w]
          exact fun g => g1 (fun p hp => g p hp (by omega))
        · exact h i (by omega)
theorem x_layOne (hn : 100000 ≤ n) (hO : OF O) (hB : WB N) (hV : WV I O 3 4 5 6 7 8 N) {s : TN × Nat} (hR : RowA (I 292) s) {r : Nat} (hr : r < N 0) (ht : ∀ p, p < Ln N r → tornB N r p = false) (hs : s.2 ≤ 64) : LoQ N s r I (f2_layOne n I O 287 3 (nI r) (nI s.2)) := by
  obtain ⟨Ia, y1, y2, y3⟩ := lay_ok (b := 288) hn hV hB hr (by omega)
  have hk : ∀ p, p < Ln N r → Ia 288 p = nI (K N r p) := fun p hp => by
    rw [y3 p hp]; unfold lv; rw [ht p hp]; rfl
  have hRa : RowA (Ia 292) s := by rw [y2 292 (by omega)]; exact hR
  obtain ⟨I', q1, q2, q3, q4⟩ := x_c14 hn hO hB hRa hr hk hs (s.2 + 1) 0 n (by omega) (by omega) (fun i hi => by omega) (Or.inl rfl)
  refine ⟨I', ?_, q2, fun p hp => by rw [q3 p hp, y2 292 (by omega)], fun a h1 h2 => by rw [q4 a h1 h2, y2 a h1]⟩
  rw [f2_layOne, o_287_0 hO, y1, qb]
  exact q1
end LX
section LM
variable {n : Nat} {J : TI} {O : TO} {N : TN}
theorem m_over (hn : 100000 ≤ n) (hO : OF O) (hB : WB N) (hM : MV J O N) {s : TN × Nat} (hR : RowA (J 345) s) (h31 : J 331 31 = nI s.2) {r f : Nat} (hr : r < N 0) (hf : f ≤ s.2) (hs : s.2 ≤ 64) : ∀ d p m', p + d = Ln N r → d < m' → (∀ j, j < p → f + j < s.2 → s.1 (f + j) = K N r j) → (ovP s.1 s.2 (K N r) (Ln N r) f ∧ f12_isOver_c2 n J O m' 331 (nI r) (nI f) (nI p) = some 1) ∨ (¬ ovP s.1 s.2 (K N r) (Ln N r) f ∧ f12_isOver_c2 n J O m' 331 (nI r) (nI f) (nI p) = some 0) := by
  have b1 := hB.1
  have l1 := hB.2.2.1 r (by omega)
  have el : J 332 (114 + r) = nI (Ln N r) := m_len hM (by omega)
  intro d
  induction d with
  | zero =>
    intro p m' hp hm' h
    obtain ⟨m', rfl⟩ : ∃ m'', m' = m'' + 1 := ⟨m' - 1, by omega⟩
    refine Or.inl ⟨fun j h1 h2 => h j (by omega) h2, ?_⟩
    rw [f12_isOver_c2, show (114 : Int32) + nI r = nI (114 + r) from qadd 114 r, if_neg (nI_in (by omega) (by omega)), hM.1, qcl (by omega), el, show p = Ln N r by omega, if_pos (Int32.le_refl _)]
  | succ d ih =>
    intro p m' hp hm' h
    obtain ⟨m', rfl⟩ : ∃ m'', m' = m'' + 1 := ⟨m' - 1, by omega⟩
    have kb := hB.2.2.2.2.1 r p (by omega) (by omega)
    have pre : f12_isOver_c2 n J O (m' + 1) 331 (nI r) (nI f) (nI p) = if nI s.2 ≤ nI (f + p) then some 1 else if nI (f + p) < 0 ∨ 80 ≤ (nI (f + p)).toNatClampNeg then none else if J 345 (nI (f + p)).toNatClampNeg = nI (K N r p) then f12_isOver_c2 n J O m' 331 (nI r) (nI f) (nI (p + 1)) else some 0 := by
      rw [f12_isOver_c2, show (114 : Int32) + nI r = nI (114 + r) from qadd 114 r, if_neg (nI_in (by omega) (by omega)), hM.1, qcl (a := 114 + r) (by omega), el, if_neg (nle_i (by omega) (by omega) (by omega)), h31, qadd, m_keyOf hM (by omega) (by omega), qb, o_331_30 hO, nI_1]
    rw [pre]
    by_cases w : s.2 ≤ f + p
    · rw [if_pos ((nI_leI (by omega) (by omega)).mpr w)]
      exact Or.inl ⟨fun j h1 h2 => h j (by omega) h2, rfl⟩
    · obtain ⟨r1, r2⟩ := hR (f + p) (by omega)
      rw [if_neg (nle_i (by omega) (by omega) (by omega)), if_neg (nI_in (by omega) (by omega)), qcl (by omega), r2]
      by_cases z : s.1 (f + p) = K N r p
      · rw [if_pos (congrArg nI z)]
        exact ih (p + 1) m' (by omega) (by omega) (fun j hj hj2 => by
          by_cases w : j = p
          · rw [w]; exact z
          · exact h j (by omega) hj2)
      · rw [if_neg (fun g => z (by rw [nI_eq (by omega) (by omega)] at g; exact g))]
        exact Or.inr ⟨fun g => z (g p (by omega) (by omega)), rfl⟩
def StF (J J' : TI) : Prop := (∀ a, a ≠ 331 → a ≠ 345 → J' a = J a) ∧ ∀ k, k ≠ 31 → J' 331 k = J 331 k
theorem MV_st {J' : TI} (hM : MV J O N) (h : StF J J') : MV J' O N := ⟨hM.1, fun t ht => by rw [h.1 332 (by omega) (by omega)]; exact hM.2 t ht⟩
theorem m_c19 (hO : OF O) (hB : WB N) {s : TN × Nat} {r f : Nat} (hr : r < N 0) (hf : f ≤ s.2) (hs : s.2 ≤ 64) : ∀ d p m' J, p + d = Ln N r → d < m' → MV J O N → J 331 31 = nI s.2 → ∃ J', f12_layOn_c19 n O m' J 331 (nI r) (nI f) (nI p) = some J' ∧ StF J J' ∧ J' 331 31 = nI (max s.2 (f + Ln N r)) ∧ (∀ j, (j < f + p ∨ f + Ln N r ≤ j) → J' 345 j = J 345 j) ∧ ∀ j, f + p ≤ j → j < f + Ln N r → J' 345 j = nI (K N r (j - f)) := by
  have b1 := hB.1
  have l1 := hB.2.2.1 r (by omega)
  intro d
  induction d with
  | zero =>
    intro p m' J hp hm' hM h31
    obtain ⟨m', rfl⟩ : ∃ m'', m' = m'' + 1 := ⟨m' - 1, by omega⟩
    have el : J 332 (114 + r) = nI (Ln N r) := m_len hM (by omega)
    have ng : ¬ (nI (114 + r) < 0 ∨ 4371 ≤ (nI (114 + r)).toNatClampNeg) := nI_in (by omega) (by omega)
    have pre : f12_layOn_c19 n O (m' + 1) J 331 (nI r) (nI f) (nI p) = if nI (f + Ln N r) ≤ nI s.2 then some J else some (sI J 331 31 (nI (f + Ln N r))) := by
      rw [f12_layOn_c19, show (114 : Int32) + nI r = nI (114 + r) from qadd 114 r, if_neg ng, if_neg ng, if_neg ng, hM.1, qcl (a := 114 + r) (by omega), el, show p = Ln N r by omega, if_pos (Int32.le_refl _), qadd, h31, qbl]
    rw [pre]
    by_cases w : f + Ln N r ≤ s.2
    · refine ⟨J, if_pos ((nI_leI (by omega) (by omega)).mpr w), ⟨fun _ _ _ => rfl, fun _ _ => rfl⟩, by rw [h31, show max s.2 (f + Ln N r) = s.2 by omega], fun _ _ => rfl, fun j h1 h2 => by omega⟩
    · refine ⟨_, if_neg (nle_i (by omega) (by omega) (by omega)), ⟨fun a h1 _ => sI_o _ _ h1, fun k hk => sI_k _ _ hk⟩, by rw [sI_s, show max s.2 (f + Ln N r) = f + Ln N r by omega], fun j _ => by rw [sI_o _ _ (by omega)], fun j h1 h2 => by omega⟩
  | succ d ih =>
    intro p m' J hp hm' hM h31
    obtain ⟨m', rfl⟩ : ∃ m'', m' = m'' + 1 := ⟨m' - 1, by omega⟩
    have el : J 332 (114 + r) = nI (Ln N r) := m_len hM (by omega)
    obtain ⟨J', q1, q2, q3, q4, q5⟩ := ih (p + 1) m' (sI J 345 (f + p) (nI (K N r p))) (by omega) (by omega) ⟨hM.1, fun t ht => by rw [sI_o _ _ (by omega)]; exact hM.2 t ht⟩ (by rw [sI_o _ _ (by omega)]; exact h31)
    refine ⟨J', ?_, ⟨fun a h1 h2 => by rw [q2.1 a h1 h2, sI_o _ _ h2], fun k hk => by rw [q2.2 k hk, sI_o _ _ (by omega)]⟩, q3, fun j hj => by rw [q4 j (by omega), sI_k _ _ (by omega)], fun j h1 h2 => ?_⟩
    · rw [f12_layOn_c19, show (114 : Int32) + nI r = nI (114 + r) from qadd 114 r, if_neg (nI_in (by omega) (by omega)), hM.1, qcl (a := 114 + r) (by omega), el, if_neg (nle_i (by omega) (by omega) (by omega)), m_keyOf hM (by omega) (by omega), qb, qadd, if_neg (nI_in (by omega) (by omega)), o_331_30 hO, qcl (by omega), qbl, nI_1, q1]
    · by_cases z : j = f + p
      · rw [z, q4 (f + p) (by omega), sI_s, show f + p - f = p by omega]
      · exact q5 j (by omega) h2
theorem m_c2 (hn : 100000 ≤ n) (hO : OF O) (hB : WB N) (hM : MV J O N) {s : TN × Nat} (hR : RowA (J 345) s) (h31 : J 331 31 = nI s.2) {r : Nat} (hr : r < N 0) (hs : s.2 ≤ 64) : ∀ d f m', f + d = s.2 → d < m' → (∀ j, j < f → ¬ ovP s.1 s.2 (K N r) (Ln N r) j) → ∃ f', f' ≤ s.2 ∧ (∀ j, j < f' → ¬ ovP s.1 s.2 (K N r) (Ln N r) j) ∧ ovP s.1 s.2 (K N r) (Ln N r) f' ∧ f12_layOn_c2 n O m' J 331 (nI r) (nI f) = f12_layOn_c19 n O n J 331 (nI r) (nI f') (nI 0) := by
  have b1 := hB.1
  have l1 := hB.2.2.1 r (by omega)
  intro d
  induction d with
  | zero =>
    intro f m' hf hm' h
    obtain ⟨m', rfl⟩ : ∃ m'', m' = m'' + 1 := ⟨m' - 1, by omega⟩
    have hf' : f = s.2 := by omega
    have ho : ovP s.1 s.2 (K N r) (Ln N r) f := by rw [hf']; exact ov_end _ _ _ _
    refine ⟨f, by omega, h, ho, ?_⟩
    rcases m_over hn hO hB hM hR h31 hr (f := f) (by omega) hs (Ln N r) 0 n (by omega) (by omega) (fun j hj => by omega) with ⟨g1, g2⟩ | ⟨g1, g2⟩
    · rw [f12_layOn_c2, f12_isOver, show f12_isOver_c2 n J O n 331 (nI r) (nI f) 0 = _ from g2, qb, if_neg (by decide)]; rfl
    · exact absurd ho g1
  | succ d ih =>
    intro f m' hf hm' h
    obtain ⟨m', rfl⟩ : ∃ m'', m' = m'' + 1 := ⟨m' - 1, by omega⟩
    rcases m_over hn hO hB hM hR h31 hr (f := f) (by omega) hs (Ln N r) 0 n (by omega) (by omega) (fun j hj => by omega) with ⟨g1, g2⟩ | ⟨g1, g2⟩
    · refine ⟨f, by omega, h, g1, ?_⟩
      rw [f12_layOn_c2, f12_isOver, show f12_isOver_c2 n J O n 331 (nI r) (nI f) 0 = _ from g2, qb, if_neg (by decide)]; rfl
    · obtain ⟨f', a1, a2, a3, a4⟩ := ih (f + 1) m' (by omega) (by omega) (fun j hj => by
        by_cases w : j = f
        · rw [w]; exact g1
        · exact h j (by omega))
      refine ⟨f', a1, a2, a3, ?_⟩
      rw [f12_layOn_c2, f12_isOver, show f12_isOver_c2 n J O n 331 (nI r) (nI f) 0 = _ from g2, qb, if_pos rfl, nI_1, a4]
theorem m_layOn (hn : 100000 ≤ n) (hO : OF O) (hB : WB N) (hM : MV J O N) {s : TN × Nat} (hR : RowA (J 345) s) (h31 : J 331 31 = nI s.2) {r : Nat} (hr : r < N 0) (hs : s.2 ≤ 64) : ∃ J', f12_layOn n J O 331 (nI r) = some J' ∧ StF J J' ∧ J' 331 31 = nI (lyS N s r).2 ∧ RowA (J' 345) (lyS N s r) := by
  have b1 := hB.1
  have l1 := hB.2.2.1 r (by omega)
  have kb : ∀ p, p < Ln N r → K N r p ≤ 5 := fun p hp => hB.2.2.2.2.1 r p (by omega) (by omega)
  obtain ⟨f, a1, a2, a3, a4⟩ := m_c2 hn hO hB hM hR h31 hr hs s.2 0 n (by omega) (by omega) (fun j hj => by omega)
  obtain ⟨J', q1, q2, q3, q4, q5⟩ := m_c19 (n := n) hO hB hr a1 hs (Ln N r) 0 n J (by omega) (by omega) hM h31
  rw [ly_eq a1 a2 a3]
  refine ⟨J', ?_, q2, q3, ?_⟩
  · rw [f12_layOn, show f12_layOn_c2 n O n J 331 (nI r) 0 = _ from a4, q1]
  · intro p hp
    have hp' : p < max s.2 (f + Ln N r) := hp
    show (if f ≤ p ∧ p < f + Ln N r then K N r (p - f) else s.1 p) ≤ 5 ∧ J' 345 p = nI (if f ≤ p ∧ p < f + Ln N r then K N r (p - f) else s.1 p)
    by_cases w : f ≤ p ∧ p < f + Ln N r
    · rw [if_pos w]
      exact ⟨kb _ (by omega), q5 p (by omega) w.2⟩
    · rw [if_neg w, q4 p (by omega)]
      exact hR p (by omega)
end LM
