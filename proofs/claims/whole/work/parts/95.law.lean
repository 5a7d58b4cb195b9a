/-! laws of a text, as the class and the reference hold them -/
def XLaw (I : TI) (sc s : Nat) (v : lEnv → Int) : Prop := ∃ k nc z0 z1 z, ∃ st : Nat → Nat, I (sc + 5) s = nI k ∧ I sc 6 = nI nc ∧ k < nc ∧ nc ≤ 24 ∧ I (sc + 3) k = nI z0 ∧ I (sc + 4) k = nI z1 ∧ I sc 5 = nI z ∧ z0 ≤ z1 ∧ z1 ≤ z ∧ z ≤ 300 ∧ (∀ i, i < z1 → I (sc + 1) i = nI (st i) ∧ st i < 2147483648) ∧ VX s st z0 z1 v 64
def MCd (J : TI) (t en : Nat) (cd : Nat → Nat × Nat) : Prop := ∀ i, i < en → J 334 (1065 * t + 457 + 2 * i) = nI (cd i).1 ∧ J 334 (1065 * t + 457 + 2 * i + 1) = nI (cd i).2 ∧ ((cd i).1 ≤ 15 ∨ (20 ≤ (cd i).1 ∧ (cd i).1 ≤ 22)) ∧ (cd i).2 < 10000 ∧ ((cd i).1 = 1 → (cd i).2 < 7)
def MNo (J : TI) (t s k : Nat) : Prop := ∀ j, j < k → ∃ s', s' ≤ 8 ∧ s' ≠ s ∧ J 334 (1065 * t + 1 + 19 * j) = nI s'
def MLaw (J : TI) (t s : Nat) (v : lEnv → Int) : Prop := ∃ k nc c0 c1, ∃ cd : Nat → Nat × Nat, J 334 (1065 * t) = nI nc ∧ nc ≤ 24 ∧ k < nc ∧ J 334 (1065 * t + 1 + 19 * k) = nI s ∧ MNo J t s k ∧ J 334 (1065 * t + 1 + 19 * k + 1) = nI c0 ∧ J 334 (1065 * t + 1 + 19 * k + 2) = nI c1 ∧ c0 ≤ c1 ∧ c1 ≤ 300 ∧ MCd J t c1 cd ∧ VM s (cdl cd (c1 - c0) c0) v
abbrev Lws := Nat → Option (lEnv → Int)
def LX (I : TI) (sc : Nat) (lw : Lws) : Prop := ∀ s, s < 3 → (lw s = none ∧ I (sc + 5) s = -1) ∨ ∃ v, lw s = some v ∧ XLaw I sc s v
def LM (J : TI) (t : Nat) (lw : Lws) : Prop := ∀ s, s < 3 → (lw s = none ∧ ∃ nc, J 334 (1065 * t) = nI nc ∧ nc ≤ 24 ∧ MNo J t s nc) ∨ ∃ v, lw s = some v ∧ MLaw J t s v
def LX0 (I : TI) (sx : Option Nat) (lw : Lws) : Prop := match sx with
  | none => ∀ s, lw s = none
  | some sc => (∃ t, t < 4 ∧ sc = 300 + 6 * t) ∧ LX I sc lw
def LM0 (J : TI) (tx : Nat) (lw : Lws) : Prop := (tx = 4294967295 ∧ ∀ s, lw s = none) ∨ (tx < 4 ∧ LM J tx lw)
theorem LX_fr {I I' : TI} {sx : Option Nat} {lw : Lws} (h : LX0 I sx lw) (hI : ∀ a, 300 ≤ a → a < 324 → I' a = I a) : LX0 I' sx lw := by
  unfold LX0 at *
  cases sx with
  | none => exact h
  | some sc =>
    obtain ⟨⟨t, ht, rfl⟩, h⟩ := h
    refine ⟨⟨t, ht, rfl⟩, fun s hs => ?_⟩
    have f0 := hI (300 + 6 * t) (by omega) (by omega)
    have f1 := hI (300 + 6 * t + 1) (by omega) (by omega)
    have f3 := hI (300 + 6 * t + 3) (by omega) (by omega)
    have f4 := hI (300 + 6 * t + 4) (by omega) (by omega)
    have f5 := hI (300 + 6 * t + 5) (by omega) (by omega)
    rcases h s hs with ⟨h1, h2⟩ | ⟨v, h1, h2⟩
    · exact Or.inl ⟨h1, by rw [f5]; exact h2⟩
    · refine Or.inr ⟨v, h1, ?_⟩
      unfold XLaw at *
      rw [f0, f1, f3, f4, f5]; exact h2
theorem LM_fr {J J' : TI} {tx : Nat} {lw : Lws} (h : LM0 J tx lw) (hI : J' 334 = J 334) : LM0 J' tx lw := by
  unfold LM0 LM MLaw MNo MCd at *
  rw [hI]; exact h
def ct (x : Int) (M : Nat) : Nat := if x < 0 then 0 else if (M : Int) < x then M else x.toNat
theorem ct_le (x : Int) (M : Nat) : ct x M ≤ M := by
  unfold ct
  split
  · omega
  · split <;> omega
theorem x_within {M : Nat} (hM : M < 1000) {x : Int} (hx : bB x) : f1_within (nI M) (iV x) = some (nI (ct x M)) := by
  have u := hx
  unfold bB at u
  have bM : bB (M : Int) := ⟨by omega, by omega⟩
  have a1 : iV x < nI M ↔ x < M := by rw [← iV_n (by omega)]; exact iV_lt hx bM
  have a2 : 0 < iV x ↔ 0 < x := iV_lt bd0 hx
  have a3 : 0 < nI M ↔ 0 < M := nI_ltI (a := 0) (by omega) (by omega)
  unfold f1_within fJ9_min_7cf53 fJ9_max_7cf53 ct
  by_cases q1 : x < M
  · rw [if_pos (a1.mpr q1), qb]
    by_cases q2 : 0 < x
    · rw [if_pos (a2.mpr q2), if_neg (by omega), if_neg (by omega), qb, ← iV_n (by omega), show ((x.toNat : Nat) : Int) = x by omega]
    · rw [if_neg (fun w => q2 (a2.mp w)), qb]
      by_cases q3 : x < 0
      · rw [if_pos q3]; rfl
      · rw [if_neg q3, if_neg (by omega), show x.toNat = 0 by omega]; rfl
  · rw [if_neg (fun w => q1 (a1.mp w)), qb, if_neg (show ¬ x < 0 by omega)]
    by_cases q3 : 0 < M
    · rw [if_pos (a3.mpr q3), qb]
      by_cases q4 : (M : Int) < x
      · rw [if_pos q4]
      · rw [if_neg q4, show x.toNat = M by omega]
    · rw [if_neg (fun w => q3 (a3.mp w)), qb]
      have : M = 0 := by omega
      subst this
      by_cases q4 : ((0 : Nat) : Int) < x
      · rw [if_pos q4]; rfl
      · rw [if_neg q4, show x.toNat = 0 by omega]; rfl
theorem m_cut {M : Nat} (hM : M < 1000) {x : Int} (hx : bB x) : f12_cut (lV x) 0 (nI M) = some (nI (ct x M)) := by
  have u := hx
  unfold bB at u
  have bM : bB (M : Int) := ⟨by omega, by omega⟩
  have e0 : (0 : Int32).toInt64 = lV 0 := by decide
  have eM : (nI M).toInt64 = lV (M : Int) := by rw [lV_n]; exact nI_l (by omega)
  have a1 : 0 ≤ lg_cmp (lV x) (lV 0) ↔ 0 ≤ x := by rw [lg_cmp_ge]; exact lV_le bd0 hx
  have a2 : lg_cmp (lV x) (lV (M : Int)) ≤ 0 ↔ x ≤ M := by rw [lg_cmp_le]; exact lV_le hx bM
  unfold f12_cut ct
  rw [e0, eM]
  by_cases q1 : 0 ≤ x
  · rw [if_pos (a1.mpr q1), if_neg (show ¬ x < 0 by omega)]
    by_cases q2 : x ≤ M
    · rw [if_pos (a2.mpr q2), if_neg (show ¬ (M : Int) < x by omega), lV_i, ← iV_n (by omega), show ((x.toNat : Nat) : Int) = x by omega]
    · rw [if_neg (fun w => q2 (a2.mp w)), if_pos (show (M : Int) < x by omega)]
  · rw [if_neg (fun w => q1 (a1.mp w)), if_pos (show x < 0 by omega)]; rfl
/-! what a law is asked with -/
def eN (f : Nat → Nat) (N : TN) : lEnv := (fun j => (f j : Int), hlN N)
def eB (N : TN) (r p c : Nat) : lEnv := eN (fun j => if j = 0 then N 7 else if j = 1 then K N r p else if j = 2 then c else if j = 3 then Hd N c (K N r p) else if j = 4 then r else if j = 5 then p else Wr N r p) N
def eL (N : TN) (c k h : Nat) : lEnv := eN (fun j => if j = 0 then N 7 else if j = 1 then k else if j = 2 then c else h) N
def eW (N : TN) (r p w : Nat) : lEnv := eN (fun j => if j = 0 then N 7 else if j = 1 then K N r p else if j = 4 then r else if j = 5 then p else w) N
def blN (N : TN) (lw : Lws) (r p c : Nat) : Nat := match lw 0 with
  | none => Wr N r p / 2
  | some v => ct (v (eB N r p c)) 10
def leN (N : TN) (lw : Lws) (c k h : Nat) : Nat := match lw 1 with
  | none => 3
  | some v => ct (v (eL N c k h)) 99
def weN (N : TN) (lw : Lws) (r p w : Nat) : Nat := match lw 2 with
  | none => 1
  | some v => ct (v (eW N r p w)) 9
theorem hlN_b {N : TN} (hB : WB N) (x : Int) : 0 ≤ hlN N x ∧ hlN N x ≤ 16 := by
  unfold hlN
  split
  · next q =>
    have b1 := hB.1
    have l := hc_le (N := N) (r := x.toNat)
    have l1 := hB.2.2.1 x.toNat (by omega)
    omega
  · omega
theorem eN_ok {N : TN} (hB : WB N) {f : Nat → Nat} {s : Nat} (h : ∀ j, okN s j = true → f j ≤ 9999) : eOK s (eN f N) := by
  refine ⟨fun j hj => ?_, fun x => hlN_b hB x⟩
  have := h j hj
  show 0 ≤ ((f j : Nat) : Int) ∧ ((f j : Nat) : Int) ≤ 9999
  omega
theorem okN_lt {s j : Nat} (h : okN s j = true) : j < 7 := by
  unfold okN at h
  simp only [Bool.or_eq_true, Bool.and_eq_true, decide_eq_true_eq] at h
  omega
section LE
variable {n : Nat} {I : TI} {O : TO} {N : TN} {wa sz ky mo wr hr sc : Nat}
theorem sc_o (hO : OF O) {t : Nat} (ht : t < 4) : rO O (300 + 6 * t) 0 = 300 + 6 * t + 1 ∧ rO O (300 + 6 * t) 1 = 300 + 6 * t + 2 ∧ rO O (300 + 6 * t) 2 = 300 + 6 * t + 3 ∧ rO O (300 + 6 * t) 3 = 300 + 6 * t + 4 ∧ rO O (300 + 6 * t) 4 = 300 + 6 * t + 5 := (hO.2.2.2 t ht).2
theorem x_eval (hn : 100000 ≤ n) (hO : OF O) (hB : WB N) {t s : Nat} (ht : t < 4) (hs : s < 3) {v : lEnv → Int} (hL : XLaw I (300 + 6 * t) s v) {e0 : lEnv} (he : eOK s e0) (hh : e0.2 = hlN N) (hnm : ∀ c, c < 7 → okN s (nmX c) = true → I 285 c = iV (e0.1 (nmX c))) (hV : WV I O wa sz ky mo wr hr N) (hw : wa < 283 ∧ sz < 283 ∧ ky < 283 ∧ mo < 283 ∧ wr < 283 ∧ hr < 283) : ∃ I', f1_evaluate n I O 283 (300 + 6 * t) (nI s) wa = some (iV (v e0), I') ∧ bB (v e0) ∧ JF I I' := by
  obtain ⟨k, nc, z0, z1, z, st, a1, a2, a3, a4, a5, a6, a7, a8, a9, a10, a11, a12⟩ := hL
  obtain ⟨o0, o1, o2, o3, o4⟩ := sc_o hO ht
  have ivt : ∀ x : Int32, iV x.toInt = x := fun x => Int32.ofInt_toInt x
  let iv : Nat → Nat := fun j => if j = 4 then 0 else if j < 4 then j + 1 else j
  let e : lEnv := (fun j => (I 285 (iv j)).toInt, hlN N)
  have inv : ∀ c, c < 7 → iv (nmX c) = c := by
    intro c hc
    have : c = 0 ∨ c = 1 ∨ c = 2 ∨ c = 3 ∨ c = 4 ∨ c = 5 ∨ c = 6 := by omega
    rcases this with rfl | rfl | rfl | rfl | rfl | rfl | rfl <;> rfl
  have inv2 : ∀ j, j < 7 → iv j < 7 ∧ nmX (iv j) = j := by
    intro j hj
    have : j = 0 ∨ j = 1 ∨ j = 2 ∨ j = 3 ∨ j = 4 ∨ j = 5 ∨ j = 6 := by omega
    rcases this with rfl | rfl | rfl | rfl | rfl | rfl | rfl <;> exact ⟨by decide, rfl⟩
  have hag : agr s e0 e := by
    refine ⟨fun j hj => ?_, hh.symm⟩
    have hj7 := okN_lt hj
    obtain ⟨i1, i2⟩ := inv2 j hj7
    have q := hnm (iv j) i1 (by rw [i2]; exact hj)
    rw [i2] at q
    show (I 285 (iv j)).toInt = e0.1 j
    have b := he.1 j hj
    rw [q, iV_t (by omega) (by omega)]
  obtain ⟨b, c, r⟩ := a12 e0 e he hag [] (fun x hx => absurd hx List.not_mem_nil) (by show 0 + 64 ≤ 64; omega)
  have l := XR_le _ _ _ _ _ r
  have hf : JF I (sI I 283 2 (nI 0)) := ⟨fun a h1 h2 => sI_o _ _ h1, fun k hk => sI_k _ _ hk⟩
  have hE0 : EvX I O (300 + 6 * t) wa sz ky mo wr hr N e st z1 := ⟨o0, by omega, ⟨z, a7, a9, a10⟩, a11, fun c hc => by show _ = iV (I 285 (iv (nmX c))).toInt; rw [inv c hc, ivt], hV, rfl, hw⟩
  obtain ⟨I', q1, q2⟩ := x_run hn hO hB (by omega) c (sI I 283 2 (nI 0)) z0 [] (v e0) n (EvX_fr hE0 hf) ⟨sI_s _ _ _ _, trivial⟩ (fun x hx => absurd hx List.not_mem_nil) (by show 0 ≤ 64; omega) r (by omega)
  refine ⟨I', ?_, b, JF_t hf q2⟩
  have f1 : f7_lawAt I O (300 + 6 * t) (nI s) = some (nI k) := by
    simp (disch := omega) only [f7_lawAt, o4, a1, qL, qb, qbl, qadd, qmul, qsubm, qdm, qsub, qdiv, qcl, qlt, qle, qeq, nltT, nltF, nleT, nleF, neqT, neqF, or_false, false_or, or_true, true_or, or_self, and_true, true_and, and_false, false_and, and_self, not_true_eq_false, not_false_eq_true, ↓reduceIte]
  have f2 : f7_second I O (300 + 6 * t) (nI k) = some (nI z1) := by
    simp (disch := omega) only [f7_second, a2, o3, a6, qL, qb, qbl, qadd, qmul, qsubm, qdm, qsub, qdiv, qcl, qlt, qle, qeq, nltT, nltF, nleT, nleF, neqT, neqF, or_false, false_or, or_true, true_or, or_self, and_true, true_and, and_false, false_and, and_self, not_true_eq_false, not_false_eq_true, ↓reduceIte]
  have f3 : f7_first (sI I 283 2 (nI 0)) O (300 + 6 * t) (nI k) = some (nI z0) := by
    have w1 : sI I 283 2 (nI 0) (300 + 6 * t) = I (300 + 6 * t) := sI_o _ _ (by omega)
    have w2 : sI I 283 2 (nI 0) (300 + 6 * t + 3) = I (300 + 6 * t + 3) := sI_o _ _ (by omega)
    simp (disch := omega) only [f7_first, w1, a2, o2, w2, a5, qL, qb, qbl, qadd, qmul, qsubm, qdm, qsub, qdiv, qcl, qlt, qle, qeq, nltT, nltF, nleT, nleF, neqT, neqF, or_false, false_or, or_true, true_or, or_self, and_true, true_and, and_false, false_and, and_self, not_true_eq_false, not_false_eq_true, ↓reduceIte]
  unfold f1_evaluate
  rw [f1, qb, f2, qb, qbl]
  show (f7_first (sI I 283 2 (nI 0)) O (300 + 6 * t) (nI k)).bind _ = _
  rw [f3, qb]
  exact q1
end LE
