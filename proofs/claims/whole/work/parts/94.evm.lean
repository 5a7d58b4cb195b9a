/-! the reference's evaluating is its machine's -/
theorem ifin {p M : Nat} (h : p < M) (hp : p < 2147483648) : ¬ (nI p < 0 ∨ M ≤ p) := fun q => q.elim (fun w => nI_pos hp w) (fun w => by omega)
theorem sL_s (L : TL) (a k : Nat) (v : Int64) : sL L a k v a k = v := by
  unfold sL va_up; rw [if_pos rfl]; exact pk_uLs
theorem sL_o (L : TL) {a k b : Nat} (v : Int64) (h : b ≠ a) : sL L a k v b = L b := by
  unfold sL va_up; rw [if_neg h]
theorem sL_k (L : TL) {a k j : Nat} (v : Int64) (h : j ≠ k) : sL L a k v a j = L a j := by
  unfold sL va_up; rw [if_pos rfl]; exact pk_uLn h
theorem nar1 : vp_nar .boolean 1 = 1 := by decide
theorem nar0 : vp_nar .boolean 0 = 0 := by decide
def VLr (L : TL) : List Int → Prop
  | [] => True
  | v :: S => L 338 S.length = lV v ∧ VLr L S
theorem VLr_fr {L L' : TL} : ∀ S, VLr L S → (∀ j, j < S.length → L' 338 j = L 338 j) → VLr L' S := by
  intro S
  induction S with
  | nil => intro _ _; trivial
  | cons v S ih =>
    intro h hI
    refine ⟨by rw [hI S.length (by rw [List.length_cons]; omega)]; exact h.1, ih h.2 (fun j hj => hI j (by rw [List.length_cons]; omega))⟩
def bI (b : Bool) : Int32 := if b then 1 else 0
def TRr (I : TI) : List Bool → Prop
  | [] => True
  | v :: S => I 339 S.length = bI v ∧ TRr I S
theorem TRr_fr {I I' : TI} : ∀ S, TRr I S → (∀ j, j < S.length → I' 339 j = I 339 j) → TRr I' S := by
  intro S
  induction S with
  | nil => intro _ _; trivial
  | cons v S ih =>
    intro h hI
    refine ⟨by rw [hI S.length (by rw [List.length_cons]; omega)]; exact h.1, ih h.2 (fun j hj => hI j (by rw [List.length_cons]; omega))⟩
theorem VLr_push {L : TL} {V : List Int} {v : Int} (h : VLr L V) : VLr (sL L 338 V.length (lV v)) (v :: V) :=
  ⟨sL_s _ _ _ _, VLr_fr V h (fun j hj => sL_k _ _ (by omega))⟩
theorem TRr_push {I : TI} {T : List Bool} {b : Bool} (h : TRr I T) : TRr (sI I 339 T.length (bI b)) (b :: T) :=
  ⟨sI_s _ _ _ _, TRr_fr T h (fun j hj => sI_k _ _ (by omega))⟩
theorem bI_0 {b : Bool} : bI b = 0 ↔ b = false := by cases b <;> decide
theorem nar_b (b : Bool) : vp_nar .boolean (bI b) = bI b := by cases b <;> decide
section HM
variable {n : Nat} {J : TI} {O : TO} {N : TN}
theorem m_holesIn (hn : 100000 ≤ n) (hM : MV J O N) (hB : WB N) {r : Nat} (h : r < N 0) : f12_holesIn n J O 331 (nI r) = some (nI (hc N r)) := by
  have b1 := hB.1
  have l1 := hB.2.2.1 r (by omega)
  have el := m_len hM (r := r) (by omega)
  refine lpF (L := fun m k c => f12_holesIn_c4 n J O m 331 (nI r) (nI c) (nI k)) (hcG N r) (fun k c => c ≤ k) (Ln N r) nI ?_ (fun k c _ h => hcG_le h) ?_ (Ln N r) 0 n 0 (by omega) (by omega) (Nat.zero_le _)
  · intro m k c hk hc
    have ek := m_keyOf hM (r := r) (p := k) (by omega) (by omega)
    have kb := hB.2.2.2.2.1 r k (by omega) (by omega)
    unfold hcG
    by_cases z : K N r k = 0
    · rw [if_pos z]
      simp (disch := omega) only [f12_holesIn_c4, hM.1, el, ek, Nat.add_zero, qL, qb, qbl, qadd, qmul, qsubm, qdm, qsub, qdiv, qcl, qlt, qle, qeq, nltT, nltF, nleT, nleF, neqT, neqF, or_false, false_or, or_true, true_or, or_self, and_true, true_and, and_false, false_and, and_self, not_true_eq_false, not_false_eq_true, ↓reduceIte]
    · rw [if_neg z]
      simp (disch := omega) only [f12_holesIn_c4, hM.1, el, ek, qL, qb, qbl, qadd, qmul, qsubm, qdm, qsub, qdiv, qcl, qlt, qle, qeq, nltT, nltF, nleT, nleF, neqT, neqF, or_false, false_or, or_true, true_or, or_self, and_true, true_and, and_false, false_and, and_self, not_true_eq_false, not_false_eq_true, ↓reduceIte]
  · intro m c hc
    simp (disch := omega) only [f12_holesIn_c4, hM.1, el, qL, qb, qbl, qadd, qmul, qsubm, qdm, qsub, qdiv, qcl, qlt, qle, qeq, nltT, nltF, nleT, nleF, neqT, neqF, or_false, false_or, or_true, true_or, or_self, and_true, true_and, and_false, false_and, and_self, not_true_eq_false, not_false_eq_true, ↓reduceIte]
theorem m_holesOf (hn : 100000 ≤ n) (hM : MV J O N) (hB : WB N) {x : Int} (hx : bB x) : f12_holesOf n J O 331 (lV x) = some (lV (hlN N x)) := by
  have b1 := hB.1
  have u := hx
  unfold bB at u
  have v0 := hM.2 0 (by omega)
  have z1 : lg_cmp (lV x) 0 < 0 ↔ x < 0 := by rw [lg_cmp_lt]; exact lV_lt hx bd0
  have en : (nI (N 0)).toInt64 = lV (N 0 : Int) := by rw [lV_n]; exact nI_l (by omega)
  have z2 : 0 ≤ lg_cmp (lV x) (lV (N 0 : Int)) ↔ (N 0 : Int) ≤ x := by rw [lg_cmp_ge]; exact lV_le (by unfold bB; omega) hx
  unfold f12_holesOf hlN
  rw [hM.1, v0, en]
  by_cases q : x < 0
  · rw [if_pos (z1.mpr q), if_neg (by omega)]; rfl
  · rw [if_neg (fun w => q (z1.mp w))]
    by_cases q2 : (N 0 : Int) ≤ x
    · rw [if_pos (z2.mpr q2), if_neg (by omega)]; rfl
    · have e := m_holesIn hn hM hB (r := x.toNat) (by omega)
      have l := hc_le (N := N) (r := x.toNat)
      have l1 := hB.2.2.1 x.toNat (by omega)
      rw [if_neg (fun w => q2 (z2.mp w)), if_pos (by omega), lV_i, show iV x = nI x.toNat by rw [← iV_n (by omega), show ((x.toNat : Nat) : Int) = x by omega], e, qb, nI_l (by omega), lV_n]
theorem m_ofOne (hn : 100000 ≤ n) (hM : MV J O N) (hB : WB N) {e : lEnv} (he : e.2 = hlN N) {o : Nat} (ho : o = 2 ∨ o = 4 ∨ o = 5) {x : Int} (hx : bB x) : f12_ofOne n J O 331 (nI o) (lV x) = some (lV (xS1 e (kso o) x)) := by
  unfold f12_ofOne
  rcases ho with rfl | rfl | rfl
  · rw [if_neg (by decide), if_neg (by decide), m_holesOf hn hM hB hx, show xS1 e (kso 2) x = e.2 x from rfl, he]; rfl
  · rw [if_neg (by decide), if_pos (by decide), m_digits hn hx, show xS1 e (kso 4) x = dgI x from rfl]; rfl
  · rw [if_pos (by decide), show xS1 e (kso 5) x = -x from rfl]
    exact congrArg some (Int64.ofInt_neg x).symm
theorem m_asked {o : Nat} (ho : o = 10 ∨ o = 11 ∨ o = 12 ∨ o = 13 ∨ o = 14 ∨ o = 15) {x y : Int} (hx : bB x) (hy : bB y) : f12_isAsked (nI o) (lV x) (lV y) = some (bI (cmpB (kco o) x y)) := by
  have a1 : 0 ≤ lg_cmp (lV x) (lV y) ↔ y ≤ x := by rw [lg_cmp_ge]; exact lV_le hy hx
  have a2 : 0 < lg_cmp (lV x) (lV y) ↔ y < x := by rw [lg_cmp_gt]; exact lV_lt hy hx
  have a3 : lg_cmp (lV x) (lV y) ≤ 0 ↔ x ≤ y := by rw [lg_cmp_le]; exact lV_le hx hy
  have a4 : lg_cmp (lV x) (lV y) < 0 ↔ x < y := by rw [lg_cmp_lt]; exact lV_lt hx hy
  have a5 : lg_cmp (lV x) (lV y) = 0 ↔ x = y := by rw [lg_cmp_eq]; exact lV_eq hx hy
  have k0 : ∀ b : Bool, b = false → some (0 : Int32) = some (bI b) := fun b h => by rw [h]; rfl
  have k1 : ∀ b : Bool, b = true → some (1 : Int32) = some (bI b) := fun b h => by rw [h]; rfl
  unfold f12_isAsked
  rcases ho with rfl | rfl | rfl | rfl | rfl | rfl
  · rw [if_pos (by decide), show cmpB (kco 10) x y = decide (x < y) from rfl]
    by_cases q : y ≤ x
    · rw [if_pos (a1.mpr q)]; exact k0 _ (decide_eq_false (by omega))
    · rw [if_neg (fun w => q (a1.mp w))]; exact k1 _ (decide_eq_true (by omega))
  · rw [if_neg (by decide), if_pos (by decide), show cmpB (kco 11) x y = decide (x ≤ y) from rfl]
    by_cases q : y < x
    · rw [if_pos (a2.mpr q)]; exact k0 _ (decide_eq_false (by omega))
    · rw [if_neg (fun w => q (a2.mp w))]; exact k1 _ (decide_eq_true (by omega))
  · rw [if_neg (by decide), if_neg (by decide), if_pos (by decide), show cmpB (kco 12) x y = decide (y < x) from rfl]
    by_cases q : x ≤ y
    · rw [if_pos (a3.mpr q)]; exact k0 _ (decide_eq_false (by omega))
    · rw [if_neg (fun w => q (a3.mp w))]; exact k1 _ (decide_eq_true (by omega))
  · rw [if_neg (by decide), if_neg (by decide), if_neg (by decide), if_pos (by decide), show cmpB (kco 13) x y = decide (y ≤ x) from rfl]
    by_cases q : x < y
    · rw [if_pos (a4.mpr q)]; exact k0 _ (decide_eq_false (by omega))
    · rw [if_neg (fun w => q (a4.mp w))]; exact k1 _ (decide_eq_true (by omega))
  · rw [if_neg (by decide), if_neg (by decide), if_neg (by decide), if_neg (by decide), if_pos (by decide), show cmpB (kco 14) x y = decide (x = y) from rfl]
    by_cases q : x = y
    · rw [if_pos (a5.mpr q)]; exact k1 _ (decide_eq_true (by omega))
    · rw [if_neg (fun w => q (a5.mp w))]; exact k0 _ (decide_eq_false (by omega))
  · rw [if_neg (by decide), if_neg (by decide), if_neg (by decide), if_neg (by decide), if_neg (by decide), show cmpB (kco 15) x y = decide (x ≠ y) from rfl]
    by_cases q : x = y
    · rw [if_pos (a5.mpr q)]; exact k0 _ (decide_eq_false (by omega))
    · rw [if_neg (fun w => q (a5.mp w))]; exact k1 _ (decide_eq_true (by omega))
theorem m_joined {o : Nat} (ho : o = 21 ∨ o = 22) (a b : Bool) : f12_joined (nI o) (bI a) (bI b) = some (bI (if o = 21 then a && b else a || b)) := by
  rcases ho with rfl | rfl <;> cases a <;> cases b <;> rfl
end HM
section ME
variable {n m i x cb en o a : Nat} {J : TI} {L : TL} {O : TO}
theorem mv0 (hO : OF O) (hx : x < 4200) (hen : J 334 (x + 2) = nI en) (hi : i < en) (hcb : cb + 2 * en < 4260) (ho : J 334 (cb + 2 * i) = nI 0) (ha : J 334 (cb + 2 * i + 1) = nI a) (hab : a < 2147483648) {p q : Nat} (hp : p < 330) : f12_summedUp_c40 n O (m + 1) J L 331 (nI x) (nI cb) (nI p) (nI q) (nI i) = f12_summedUp_c40 n O m J (sL L 338 p (lN a)) 331 (nI x) (nI cb) (nI (p + 1)) (nI q) (nI (i + 1)) := by
  have y3 : nI x + 2 = nI (x + 2) := qadd x 2
  have y4 : nI cb + 2 * nI i = nI (cb + 2 * i) := by
    show nI cb + nI 2 * nI i = _
    rw [qmul, qadd]
  have y5 : nI (cb + 2 * i) + 1 = nI (cb + 2 * i + 1) := nI_1 _
  have hlt : ¬ nI en ≤ nI i := fun q => by rw [nI_leI (by omega) (by omega)] at q; omega
  rw [f12_summedUp_c40, y3, if_neg (nI_in (by omega) (by omega)), o_331_2 hO, qcl (by omega), hen, if_neg hlt, y4, if_neg (nI_in (by omega) (by omega)), qcl (by omega), ho, qbl, y5, if_neg (nI_in (by omega) (by omega)), qcl (by omega), ha, qbl]
  rw [if_neg (by decide), if_pos (by decide), if_neg (nI_in hp (by omega)), qbl, o_331_21 hO, qcl (by omega), nI_l hab, nI_1, nI_1]
theorem mv1 (hO : OF O) (hx : x < 4200) (hen : J 334 (x + 2) = nI en) (hi : i < en) (hcb : cb + 2 * en < 4260) (ho : J 334 (cb + 2 * i) = nI 1) (ha : J 334 (cb + 2 * i + 1) = nI a) (hab : a < 2147483648) {p q : Nat} (hp : p < 330) (ha7 : a < 7) : f12_summedUp_c40 n O (m + 1) J L 331 (nI x) (nI cb) (nI p) (nI q) (nI i) = f12_summedUp_c40 n O m J (sL L 338 p (J 337 a).toInt64) 331 (nI x) (nI cb) (nI (p + 1)) (nI q) (nI (i + 1)) := by
  have y3 : nI x + 2 = nI (x + 2) := qadd x 2
  have y4 : nI cb + 2 * nI i = nI (cb + 2 * i) := by
    show nI cb + nI 2 * nI i = _
    rw [qmul, qadd]
  have y5 : nI (cb + 2 * i) + 1 = nI (cb + 2 * i + 1) := nI_1 _
  have hlt : ¬ nI en ≤ nI i := fun q => by rw [nI_leI (by omega) (by omega)] at q; omega
  rw [f12_summedUp_c40, y3, if_neg (nI_in (by omega) (by omega)), o_331_2 hO, qcl (by omega), hen, if_neg hlt, y4, if_neg (nI_in (by omega) (by omega)), qcl (by omega), ho, qbl, y5, if_neg (nI_in (by omega) (by omega)), qcl (by omega), ha, qbl]
  rw [if_neg (by decide), if_neg (by decide), if_neg (nI_in ha7 (by omega)), if_neg (nI_in hp (by omega)), qbl, o_331_21 hO, o_331_20 hO, qcl (by omega), qcl (by omega), nI_1, nI_1]
theorem mv2 (hO : OF O) (hx : x < 4200) (hen : J 334 (x + 2) = nI en) (hi : i < en) (hcb : cb + 2 * en < 4260) (ho : J 334 (cb + 2 * i) = nI 2) (ha : J 334 (cb + 2 * i + 1) = nI a) (hab : a < 2147483648) {p q : Nat} {v : Int64} (hp : p < 329) (hd : f12_ofOne n J O 331 (nI 2) (L 338 p) = some v) : f12_summedUp_c40 n O (m + 1) J L 331 (nI x) (nI cb) (nI (p + 1)) (nI q) (nI i) = f12_summedUp_c40 n O m J (sL L 338 p v) 331 (nI x) (nI cb) (nI (p + 1)) (nI q) (nI (i + 1)) := by
  have y3 : nI x + 2 = nI (x + 2) := qadd x 2
  have y4 : nI cb + 2 * nI i = nI (cb + 2 * i) := by
    show nI cb + nI 2 * nI i = _
    rw [qmul, qadd]
  have y5 : nI (cb + 2 * i) + 1 = nI (cb + 2 * i + 1) := nI_1 _
  have hlt : ¬ nI en ≤ nI i := fun q => by rw [nI_leI (by omega) (by omega)] at q; omega
  rw [f12_summedUp_c40, y3, if_neg (nI_in (by omega) (by omega)), o_331_2 hO, qcl (by omega), hen, if_neg hlt, y4, if_neg (nI_in (by omega) (by omega)), qcl (by omega), ho, qbl, y5, if_neg (nI_in (by omega) (by omega)), qcl (by omega), ha, qbl]
  have u : nI (p + 1) - 1 = nI p := nI_pred p
  rw [if_pos (by decide), if_neg (by decide), if_neg (by decide), u, if_neg (nI_in (by omega) (by omega)), o_331_21 hO, qcl (by omega), hd, qb, qbl, nI_1, if_neg (ifin (by omega) (by omega))]
theorem mv4 (hO : OF O) (hx : x < 4200) (hen : J 334 (x + 2) = nI en) (hi : i < en) (hcb : cb + 2 * en < 4260) (ho : J 334 (cb + 2 * i) = nI 4) (ha : J 334 (cb + 2 * i + 1) = nI a) (hab : a < 2147483648) {p q : Nat} {v : Int64} (hp : p < 329) (hd : f12_ofOne n J O 331 (nI 4) (L 338 p) = some v) : f12_summedUp_c40 n O (m + 1) J L 331 (nI x) (nI cb) (nI (p + 1)) (nI q) (nI i) = f12_summedUp_c40 n O m J (sL L 338 p v) 331 (nI x) (nI cb) (nI (p + 1)) (nI q) (nI (i + 1)) := by
  have y3 : nI x + 2 = nI (x + 2) := qadd x 2
  have y4 : nI cb + 2 * nI i = nI (cb + 2 * i) := by
    show nI cb + nI 2 * nI i = _
    rw [qmul, qadd]
  have y5 : nI (cb + 2 * i) + 1 = nI (cb + 2 * i + 1) := nI_1 _
  have hlt : ¬ nI en ≤ nI i := fun q => by rw [nI_leI (by omega) (by omega)] at q; omega
  rw [f12_summedUp_c40, y3, if_neg (nI_in (by omega) (by omega)), o_331_2 hO, qcl (by omega), hen, if_neg hlt, y4, if_neg (nI_in (by omega) (by omega)), qcl (by omega), ho, qbl, y5, if_neg (nI_in (by omega) (by omega)), qcl (by omega), ha, qbl]
  have u : nI (p + 1) - 1 = nI p := nI_pred p
  rw [if_pos (by decide), if_neg (by decide), if_neg (by decide), u, if_neg (nI_in (by omega) (by omega)), o_331_21 hO, qcl (by omega), hd, qb, qbl, nI_1, if_neg (ifin (by omega) (by omega))]
theorem mv5 (hO : OF O) (hx : x < 4200) (hen : J 334 (x + 2) = nI en) (hi : i < en) (hcb : cb + 2 * en < 4260) (ho : J 334 (cb + 2 * i) = nI 5) (ha : J 334 (cb + 2 * i + 1) = nI a) (hab : a < 2147483648) {p q : Nat} {v : Int64} (hp : p < 329) (hd : f12_ofOne n J O 331 (nI 5) (L 338 p) = some v) : f12_summedUp_c40 n O (m + 1) J L 331 (nI x) (nI cb) (nI (p + 1)) (nI q) (nI i) = f12_summedUp_c40 n O m J (sL L 338 p v) 331 (nI x) (nI cb) (nI (p + 1)) (nI q) (nI (i + 1)) := by
  have y3 : nI x + 2 = nI (x + 2) := qadd x 2
  have y4 : nI cb + 2 * nI i = nI (cb + 2 * i) := by
    show nI cb + nI 2 * nI i = _
    rw [qmul, qadd]
  have y5 : nI (cb + 2 * i) + 1 = nI (cb + 2 * i + 1) := nI_1 _
  have hlt : ¬ nI en ≤ nI i := fun q => by rw [nI_leI (by omega) (by omega)] at q; omega
  rw [f12_summedUp_c40, y3, if_neg (nI_in (by omega) (by omega)), o_331_2 hO, qcl (by omega), hen, if_neg hlt, y4, if_neg (nI_in (by omega) (by omega)), qcl (by omega), ho, qbl, y5, if_neg (nI_in (by omega) (by omega)), qcl (by omega), ha, qbl]
  have u : nI (p + 1) - 1 = nI p := nI_pred p
  rw [if_pos (by decide), if_neg (by decide), if_neg (by decide), u, if_neg (nI_in (by omega) (by omega)), o_331_21 hO, qcl (by omega), hd, qb, qbl, nI_1, if_neg (ifin (by omega) (by omega))]
theorem mv3 (hO : OF O) (hx : x < 4200) (hen : J 334 (x + 2) = nI en) (hi : i < en) (hcb : cb + 2 * en < 4260) (ho : J 334 (cb + 2 * i) = nI 3) (ha : J 334 (cb + 2 * i + 1) = nI a) (hab : a < 2147483648) {p q : Nat} (hp : p < 328) (hq : q < 329) : f12_summedUp_c40 n O (m + 1) J L 331 (nI x) (nI cb) (nI (p + 2)) (nI (q + 1)) (nI i) = if J 339 q = 0 then f12_summedUp_c40 n O m J (sL L 338 p (L 338 (p + 1))) 331 (nI x) (nI cb) (nI (p + 1)) (nI q) (nI (i + 1)) else f12_summedUp_c40 n O m J L 331 (nI x) (nI cb) (nI (p + 1)) (nI q) (nI (i + 1)) := by
  have y3 : nI x + 2 = nI (x + 2) := qadd x 2
  have y4 : nI cb + 2 * nI i = nI (cb + 2 * i) := by
    show nI cb + nI 2 * nI i = _
    rw [qmul, qadd]
  have y5 : nI (cb + 2 * i) + 1 = nI (cb + 2 * i + 1) := nI_1 _
  have hlt : ¬ nI en ≤ nI i := fun q => by rw [nI_leI (by omega) (by omega)] at q; omega
  rw [f12_summedUp_c40, y3, if_neg (nI_in (by omega) (by omega)), o_331_2 hO, qcl (by omega), hen, if_neg hlt, y4, if_neg (nI_in (by omega) (by omega)), qcl (by omega), ho, qbl, y5, if_neg (nI_in (by omega) (by omega)), qcl (by omega), ha, qbl]
  have u : nI (p + 2) + -1 = nI (p + 1) := pk_m1 (p + 1)
  have u2 : nI (p + 1) - 1 = nI p := nI_pred p
  have u3 : nI (q + 1) + -1 = nI q := pk_m1 q
  rw [if_pos (by decide), if_pos (by decide), u, u2, u3, if_neg (nI_in (by omega) (by omega)), o_331_22 hO, qcl (by omega), if_neg (nI_in (by omega) (by omega)), if_neg (nI_in (by omega) (by omega)), qbl, o_331_21 hO, qcl (by omega), qcl (by omega), nI_1]
theorem mv6 (hO : OF O) (hx : x < 4200) (hen : J 334 (x + 2) = nI en) (hi : i < en) (hcb : cb + 2 * en < 4260) (ho : J 334 (cb + 2 * i) = nI 6) (ha : J 334 (cb + 2 * i + 1) = nI a) (hab : a < 2147483648) {p q : Nat} {v : Int64} (hp : p < 328) (hd : f12_two (nI 6) (L 338 p) (L 338 (p + 1)) = some v) : f12_summedUp_c40 n O (m + 1) J L 331 (nI x) (nI cb) (nI (p + 2)) (nI q) (nI i) = f12_summedUp_c40 n O m J (sL L 338 p v) 331 (nI x) (nI cb) (nI (p + 1)) (nI q) (nI (i + 1)) := by
  have y3 : nI x + 2 = nI (x + 2) := qadd x 2
  have y4 : nI cb + 2 * nI i = nI (cb + 2 * i) := by
    show nI cb + nI 2 * nI i = _
    rw [qmul, qadd]
  have y5 : nI (cb + 2 * i) + 1 = nI (cb + 2 * i + 1) := nI_1 _
  have hlt : ¬ nI en ≤ nI i := fun q => by rw [nI_leI (by omega) (by omega)] at q; omega
  rw [f12_summedUp_c40, y3, if_neg (nI_in (by omega) (by omega)), o_331_2 hO, qcl (by omega), hen, if_neg hlt, y4, if_neg (nI_in (by omega) (by omega)), qcl (by omega), ho, qbl, y5, if_neg (nI_in (by omega) (by omega)), qcl (by omega), ha, qbl]
  have u : nI (p + 2) + -1 = nI (p + 1) := pk_m1 (p + 1)
  have u2 : nI (p + 1) - 1 = nI p := nI_pred p
  rw [if_pos (by decide), if_neg (by decide), if_pos (by decide), if_neg (by decide), u, u2, if_neg (nI_in (by omega) (by omega)), if_neg (nI_in (by omega) (by omega)), o_331_21 hO, qcl (by omega), qcl (by omega), hd, qb, qbl, nI_1, if_neg (ifin (by omega) (by omega))]
theorem mv7 (hO : OF O) (hx : x < 4200) (hen : J 334 (x + 2) = nI en) (hi : i < en) (hcb : cb + 2 * en < 4260) (ho : J 334 (cb + 2 * i) = nI 7) (ha : J 334 (cb + 2 * i + 1) = nI a) (hab : a < 2147483648) {p q : Nat} {v : Int64} (hp : p < 328) (hd : f12_two (nI 7) (L 338 p) (L 338 (p + 1)) = some v) : f12_summedUp_c40 n O (m + 1) J L 331 (nI x) (nI cb) (nI (p + 2)) (nI q) (nI i) = f12_summedUp_c40 n O m J (sL L 338 p v) 331 (nI x) (nI cb) (nI (p + 1)) (nI q) (nI (i + 1)) := by
  have y3 : nI x + 2 = nI (x + 2) := qadd x 2
  have y4 : nI cb + 2 * nI i = nI (cb + 2 * i) := by
    show nI cb + nI 2 * nI i = _
    rw [qmul, qadd]
  have y5 : nI (cb + 2 * i) + 1 = nI (cb + 2 * i + 1) := nI_1 _
  have hlt : ¬ nI en ≤ nI i := fun q => by rw [nI_leI (by omega) (by omega)] at q; omega
  rw [f12_summedUp_c40, y3, if_neg (nI_in (by omega) (by omega)), o_331_2 hO, qcl (by omega), hen, if_neg hlt, y4, if_neg (nI_in (by omega) (by omega)), qcl (by omega), ho, qbl, y5, if_neg (nI_in (by omega) (by omega)), qcl (by omega), ha, qbl]
  have u : nI (p + 2) + -1 = nI (p + 1) := pk_m1 (p + 1)
  have u2 : nI (p + 1) - 1 = nI p := nI_pred p
  rw [if_pos (by decide), if_neg (by decide), if_pos (by decide), if_neg (by decide), u, u2, if_neg (nI_in (by omega) (by omega)), if_neg (nI_in (by omega) (by omega)), o_331_21 hO, qcl (by omega), qcl (by omega), hd, qb, qbl, nI_1, if_neg (ifin (by omega) (by omega))]
theorem mv8 (hO : OF O) (hx : x < 4200) (hen : J 334 (x + 2) = nI en) (hi : i < en) (hcb : cb + 2 * en < 4260) (ho : J 334 (cb + 2 * i) = nI 8) (ha : J 334 (cb + 2 * i + 1) = nI a) (hab : a < 2147483648) {p q : Nat} {v : Int64} (hp : p < 328) (hd : f12_two (nI 8) (L 338 p) (L 338 (p + 1)) = some v) : f12_summedUp_c40 n O (m + 1) J L 331 (nI x) (nI cb) (nI (p + 2)) (nI q) (nI i) = f12_summedUp_c40 n O m J (sL L 338 p v) 331 (nI x) (nI cb) (nI (p + 1)) (nI q) (nI (i + 1)) := by
  have y3 : nI x + 2 = nI (x + 2) := qadd x 2
  have y4 : nI cb + 2 * nI i = nI (cb + 2 * i) := by
    show nI cb + nI 2 * nI i = _
    rw [qmul, qadd]
  have y5 : nI (cb + 2 * i) + 1 = nI (cb + 2 * i + 1) := nI_1 _
  have hlt : ¬ nI en ≤ nI i := fun q => by rw [nI_leI (by omega) (by omega)] at q; omega
  rw [f12_summedUp_c40, y3, if_neg (nI_in (by omega) (by omega)), o_331_2 hO, qcl (by omega), hen, if_neg hlt, y4, if_neg (nI_in (by omega) (by omega)), qcl (by omega), ho, qbl, y5, if_neg (nI_in (by omega) (by omega)), qcl (by omega), ha, qbl]
  have u : nI (p + 2) + -1 = nI (p + 1) := pk_m1 (p + 1)
  have u2 : nI (p + 1) - 1 = nI p := nI_pred p
  rw [if_pos (by decide), if_neg (by decide), if_pos (by decide), if_neg (by decide), u, u2, if_neg (nI_in (by omega) (by omega)), if_neg (nI_in (by omega) (by omega)), o_331_21 hO, qcl (by omega), qcl (by omega), hd, qb, qbl, nI_1, if_neg (ifin (by omega) (by omega))]
theorem mv9 (hO : OF O) (hx : x < 4200) (hen : J 334 (x + 2) = nI en) (hi : i < en) (hcb : cb + 2 * en < 4260) (ho : J 334 (cb + 2 * i) = nI 9) (ha : J 334 (cb + 2 * i + 1) = nI a) (hab : a < 2147483648) {p q : Nat} {v : Int64} (hp : p < 328) (hd : f12_two (nI 9) (L 338 p) (L 338 (p + 1)) = some v) : f12_summedUp_c40 n O (m + 1) J L 331 (nI x) (nI cb) (nI (p + 2)) (nI q) (nI i) = f12_summedUp_c40 n O m J (sL L 338 p v) 331 (nI x) (nI cb) (nI (p + 1)) (nI q) (nI (i + 1)) := by
  have y3 : nI x + 2 = nI (x + 2) := qadd x 2
  have y4 : nI cb + 2 * nI i = nI (cb + 2 * i) := by
    show nI cb + nI 2 * nI i = _
    rw [qmul, qadd]
  have y5 : nI (cb + 2 * i) + 1 = nI (cb + 2 * i + 1) := nI_1 _
  have hlt : ¬ nI en ≤ nI i := fun q => by rw [nI_leI (by omega) (by omega)] at q; omega
  rw [f12_summedUp_c40, y3, if_neg (nI_in (by omega) (by omega)), o_331_2 hO, qcl (by omega), hen, if_neg hlt, y4, if_neg (nI_in (by omega) (by omega)), qcl (by omega), ho, qbl, y5, if_neg (nI_in (by omega) (by omega)), qcl (by omega), ha, qbl]
  have u : nI (p + 2) + -1 = nI (p + 1) := pk_m1 (p + 1)
  have u2 : nI (p + 1) - 1 = nI p := nI_pred p
  rw [if_pos (by decide), if_neg (by decide), if_pos (by decide), if_neg (by decide), u, u2, if_neg (nI_in (by omega) (by omega)), if_neg (nI_in (by omega) (by omega)), o_331_21 hO, qcl (by omega), qcl (by omega), hd, qb, qbl, nI_1, if_neg (ifin (by omega) (by omega))]
theorem mv10 (hO : OF O) (hx : x < 4200) (hen : J 334 (x + 2) = nI en) (hi : i < en) (hcb : cb + 2 * en < 4260) (ho : J 334 (cb + 2 * i) = nI 10) (ha : J 334 (cb + 2 * i + 1) = nI a) (hab : a < 2147483648) {p q : Nat} {v : Int32} (hp : p < 328) (hq : q < 330) (hd : f12_isAsked (nI 10) (L 338 p) (L 338 (p + 1)) = some v) : f12_summedUp_c40 n O (m + 1) J L 331 (nI x) (nI cb) (nI (p + 2)) (nI q) (nI i) = f12_summedUp_c40 n O m (sI J 339 q (vp_nar .boolean v)) L 331 (nI x) (nI cb) (nI p) (nI (q + 1)) (nI (i + 1)) := by
  have y3 : nI x + 2 = nI (x + 2) := qadd x 2
  have y4 : nI cb + 2 * nI i = nI (cb + 2 * i) := by
    show nI cb + nI 2 * nI i = _
    rw [qmul, qadd]
  have y5 : nI (cb + 2 * i) + 1 = nI (cb + 2 * i + 1) := nI_1 _
  have hlt : ¬ nI en ≤ nI i := fun q => by rw [nI_leI (by omega) (by omega)] at q; omega
  rw [f12_summedUp_c40, y3, if_neg (nI_in (by omega) (by omega)), o_331_2 hO, qcl (by omega), hen, if_neg hlt, y4, if_neg (nI_in (by omega) (by omega)), qcl (by omega), ho, qbl, y5, if_neg (nI_in (by omega) (by omega)), qcl (by omega), ha, qbl]
  have u : nI (p + 2) + -2 = nI p := by
    have := qaddn (a := p + 2) (b := 2) (by omega)
    rw [show p + 2 - 2 = p by omega] at this
    exact this
  have u2 : nI p + 1 = nI (p + 1) := nI_1 p
  rw [if_pos (by decide), if_neg (by decide), if_pos (by decide), if_pos (by decide), if_neg (by decide), u, u2, if_neg (nI_in (by omega) (by omega)), if_neg (nI_in (by omega) (by omega)), o_331_21 hO, qcl (by omega), qcl (by omega), hd, qb, if_neg (nI_in hq (by omega)), qbl, o_331_22 hO, qcl (by omega), nI_1, nI_1]
theorem mv11 (hO : OF O) (hx : x < 4200) (hen : J 334 (x + 2) = nI en) (hi : i < en) (hcb : cb + 2 * en < 4260) (ho : J 334 (cb + 2 * i) = nI 11) (ha : J 334 (cb + 2 * i + 1) = nI a) (hab : a < 2147483648) {p q : Nat} {v : Int32} (hp : p < 328) (hq : q < 330) (hd : f12_isAsked (nI 11) (L 338 p) (L 338 (p + 1)) = some v) : f12_summedUp_c40 n O (m + 1) J L 331 (nI x) (nI cb) (nI (p + 2)) (nI q) (nI i) = f12_summedUp_c40 n O m (sI J 339 q (vp_nar .boolean v)) L 331 (nI x) (nI cb) (nI p) (nI (q + 1)) (nI (i + 1)) := by
  have y3 : nI x + 2 = nI (x + 2) := qadd x 2
  have y4 : nI cb + 2 * nI i = nI (cb + 2 * i) := by
    show nI cb + nI 2 * nI i = _
    rw [qmul, qadd]
  have y5 : nI (cb + 2 * i) + 1 = nI (cb + 2 * i + 1) := nI_1 _
  have hlt : ¬ nI en ≤ nI i := fun q => by rw [nI_leI (by omega) (by omega)] at q; omega
  rw [f12_summedUp_c40, y3, if_neg (nI_in (by omega) (by omega)), o_331_2 hO, qcl (by omega), hen, if_neg hlt, y4, if_neg (nI_in (by omega) (by omega)), qcl (by omega), ho, qbl, y5, if_neg (nI_in (by omega) (by omega)), qcl (by omega), ha, qbl]
  have u : nI (p + 2) + -2 = nI p := by
    have := qaddn (a := p + 2) (b := 2) (by omega)
    rw [show p + 2 - 2 = p by omega] at this
    exact this
  have u2 : nI p + 1 = nI (p + 1) := nI_1 p
  rw [if_pos (by decide), if_neg (by decide), if_pos (by decide), if_pos (by decide), if_neg (by decide), u, u2, if_neg (nI_in (by omega) (by omega)), if_neg (nI_in (by omega) (by omega)), o_331_21 hO, qcl (by omega), qcl (by omega), hd, qb, if_neg (nI_in hq (by omega)), qbl, o_331_22 hO, qcl (by omega), nI_1, nI_1]
theorem mv12 (hO : OF O) (hx : x < 4200) (hen : J 334 (x + 2) = nI en) (hi : i < en) (hcb : cb + 2 * en < 4260) (ho : J 334 (cb + 2 * i) = nI 12) (ha : J 334 (cb + 2 * i + 1) = nI a) (hab : a < 2147483648) {p q : Nat} {v : Int32} (hp : p < 328) (hq : q < 330) (hd : f12_isAsked (nI 12) (L 338 p) (L 338 (p + 1)) = some v) : f12_summedUp_c40 n O (m + 1) J L 331 (nI x) (nI cb) (nI (p + 2)) (nI q) (nI i) = f12_summedUp_c40 n O m (sI J 339 q (vp_nar .boolean v)) L 331 (nI x) (nI cb) (nI p) (nI (q + 1)) (nI (i + 1)) := by
  have y3 : nI x + 2 = nI (x + 2) := qadd x 2
  have y4 : nI cb + 2 * nI i = nI (cb + 2 * i) := by
    show nI cb + nI 2 * nI i = _
    rw [qmul, qadd]
  have y5 : nI (cb + 2 * i) + 1 = nI (cb + 2 * i + 1) := nI_1 _
  have hlt : ¬ nI en ≤ nI i := fun q => by rw [nI_leI (by omega) (by omega)] at q; omega
  rw [f12_summedUp_c40, y3, if_neg (nI_in (by omega) (by omega)), o_331_2 hO, qcl (by omega), hen, if_neg hlt, y4, if_neg (nI_in (by omega) (by omega)), qcl (by omega), ho, qbl, y5, if_neg (nI_in (by omega) (by omega)), qcl (by omega), ha, qbl]
  have u : nI (p + 2) + -2 = nI p := by
    have := qaddn (a := p + 2) (b := 2) (by omega)
    rw [show p + 2 - 2 = p by omega] at this
    exact this
  have u2 : nI p + 1 = nI (p + 1) := nI_1 p
  rw [if_pos (by decide), if_neg (by decide), if_pos (by decide), if_pos (by decide), if_neg (by decide), u, u2, if_neg (nI_in (by omega) (by omega)), if_neg (nI_in (by omega) (by omega)), o_331_21 hO, qcl (by omega), qcl (by omega), hd, qb, if_neg (nI_in hq (by omega)), qbl, o_331_22 hO, qcl (by omega), nI_1, nI_1]
theorem mv13 (hO : OF O) (hx : x < 4200) (hen : J 334 (x + 2) = nI en) (hi : i < en) (hcb : cb + 2 * en < 4260) (ho : J 334 (cb + 2 * i) = nI 13) (ha : J 334 (cb + 2 * i + 1) = nI a) (hab : a < 2147483648) {p q : Nat} {v : Int32} (hp : p < 328) (hq : q < 330) (hd : f12_isAsked (nI 13) (L 338 p) (L 338 (p + 1)) = some v) : f12_summedUp_c40 n O (m + 1) J L 331 (nI x) (nI cb) (nI (p + 2)) (nI q) (nI i) = f12_summedUp_c40 n O m (sI J 339 q (vp_nar .boolean v)) L 331 (nI x) (nI cb) (nI p) (nI (q + 1)) (nI (i + 1)) := by
  have y3 : nI x + 2 = nI (x + 2) := qadd x 2
  have y4 : nI cb + 2 * nI i = nI (cb + 2 * i) := by
    show nI cb + nI 2 * nI i = _
    rw [qmul, qadd]
  have y5 : nI (cb + 2 * i) + 1 = nI (cb + 2 * i + 1) := nI_1 _
  have hlt : ¬ nI en ≤ nI i := fun q => by rw [nI_leI (by omega) (by omega)] at q; omega
  rw [f12_summedUp_c40, y3, if_neg (nI_in (by omega) (by omega)), o_331_2 hO, qcl (by omega), hen, if_neg hlt, y4, if_neg (nI_in (by omega) (by omega)), qcl (by omega), ho, qbl, y5, if_neg (nI_in (by omega) (by omega)), qcl (by omega), ha, qbl]
  have u : nI (p + 2) + -2 = nI p := by
    have := qaddn (a := p + 2) (b := 2) (by omega)
    rw [show p + 2 - 2 = p by omega] at this
    exact this
  have u2 : nI p + 1 = nI (p + 1) := nI_1 p
  rw [if_pos (by decide), if_neg (by decide), if_pos (by decide), if_pos (by decide), if_neg (by decide), u, u2, if_neg (nI_in (by omega) (by omega)), if_neg (nI_in (by omega) (by omega)), o_331_21 hO, qcl (by omega), qcl (by omega), hd, qb, if_neg (nI_in hq (by omega)), qbl, o_331_22 hO, qcl (by omega), nI_1, nI_1]
theorem mv14 (hO : OF O) (hx : x < 4200) (hen : J 334 (x + 2) = nI en) (hi : i < en) (hcb : cb + 2 * en < 4260) (ho : J 334 (cb + 2 * i) = nI 14) (ha : J 334 (cb + 2 * i + 1) = nI a) (hab : a < 2147483648) {p q : Nat} {v : Int32} (hp : p < 328) (hq : q < 330) (hd : f12_isAsked (nI 14) (L 338 p) (L 338 (p + 1)) = some v) : f12_summedUp_c40 n O (m + 1) J L 331 (nI x) (nI cb) (nI (p + 2)) (nI q) (nI i) = f12_summedUp_c40 n O m (sI J 339 q (vp_nar .boolean v)) L 331 (nI x) (nI cb) (nI p) (nI (q + 1)) (nI (i + 1)) := by
  have y3 : nI x + 2 = nI (x + 2) := qadd x 2
  have y4 : nI cb + 2 * nI i = nI (cb + 2 * i) := by
    show nI cb + nI 2 * nI i = _
    rw [qmul, qadd]
  have y5 : nI (cb + 2 * i) + 1 = nI (cb + 2 * i + 1) := nI_1 _
  have hlt : ¬ nI en ≤ nI i := fun q => by rw [nI_leI (by omega) (by omega)] at q; omega
  rw [f12_summedUp_c40, y3, if_neg (nI_in (by omega) (by omega)), o_331_2 hO, qcl (by omega), hen, if_neg hlt, y4, if_neg (nI_in (by omega) (by omega)), qcl (by omega), ho, qbl, y5, if_neg (nI_in (by omega) (by omega)), qcl (by omega), ha, qbl]
  have u : nI (p + 2) + -2 = nI p := by
    have := qaddn (a := p + 2) (b := 2) (by omega)
    rw [show p + 2 - 2 = p by omega] at this
    exact this
  have u2 : nI p + 1 = nI (p + 1) := nI_1 p
  rw [if_pos (by decide), if_neg (by decide), if_pos (by decide), if_pos (by decide), if_neg (by decide), u, u2, if_neg (nI_in (by omega) (by omega)), if_neg (nI_in (by omega) (by omega)), o_331_21 hO, qcl (by omega), qcl (by omega), hd, qb, if_neg (nI_in hq (by omega)), qbl, o_331_22 hO, qcl (by omega), nI_1, nI_1]
theorem mv15 (hO : OF O) (hx : x < 4200) (hen : J 334 (x + 2) = nI en) (hi : i < en) (hcb : cb + 2 * en < 4260) (ho : J 334 (cb + 2 * i) = nI 15) (ha : J 334 (cb + 2 * i + 1) = nI a) (hab : a < 2147483648) {p q : Nat} {v : Int32} (hp : p < 328) (hq : q < 330) (hd : f12_isAsked (nI 15) (L 338 p) (L 338 (p + 1)) = some v) : f12_summedUp_c40 n O (m + 1) J L 331 (nI x) (nI cb) (nI (p + 2)) (nI q) (nI i) = f12_summedUp_c40 n O m (sI J 339 q (vp_nar .boolean v)) L 331 (nI x) (nI cb) (nI p) (nI (q + 1)) (nI (i + 1)) := by
  have y3 : nI x + 2 = nI (x + 2) := qadd x 2
  have y4 : nI cb + 2 * nI i = nI (cb + 2 * i) := by
    show nI cb + nI 2 * nI i = _
    rw [qmul, qadd]
  have y5 : nI (cb + 2 * i) + 1 = nI (cb + 2 * i + 1) := nI_1 _
  have hlt : ¬ nI en ≤ nI i := fun q => by rw [nI_leI (by omega) (by omega)] at q; omega
  rw [f12_summedUp_c40, y3, if_neg (nI_in (by omega) (by omega)), o_331_2 hO, qcl (by omega), hen, if_neg hlt, y4, if_neg (nI_in (by omega) (by omega)), qcl (by omega), ho, qbl, y5, if_neg (nI_in (by omega) (by omega)), qcl (by omega), ha, qbl]
  have u : nI (p + 2) + -2 = nI p := by
    have := qaddn (a := p + 2) (b := 2) (by omega)
    rw [show p + 2 - 2 = p by omega] at this
    exact this
  have u2 : nI p + 1 = nI (p + 1) := nI_1 p
  rw [if_pos (by decide), if_neg (by decide), if_pos (by decide), if_pos (by decide), if_neg (by decide), u, u2, if_neg (nI_in (by omega) (by omega)), if_neg (nI_in (by omega) (by omega)), o_331_21 hO, qcl (by omega), qcl (by omega), hd, qb, if_neg (nI_in hq (by omega)), qbl, o_331_22 hO, qcl (by omega), nI_1, nI_1]
theorem mv20 (hO : OF O) (hx : x < 4200) (hen : J 334 (x + 2) = nI en) (hi : i < en) (hcb : cb + 2 * en < 4260) (ho : J 334 (cb + 2 * i) = nI 20) (ha : J 334 (cb + 2 * i + 1) = nI a) (hab : a < 2147483648) {p q : Nat} (hq : q < 329) : f12_summedUp_c40 n O (m + 1) J L 331 (nI x) (nI cb) (nI p) (nI (q + 1)) (nI i) = f12_summedUp_c40 n O m (sI J 339 q (vp_nar .boolean (if J 339 q = 0 then 1 else 0))) L 331 (nI x) (nI cb) (nI p) (nI (q + 1)) (nI (i + 1)) := by
  have y3 : nI x + 2 = nI (x + 2) := qadd x 2
  have y4 : nI cb + 2 * nI i = nI (cb + 2 * i) := by
    show nI cb + nI 2 * nI i = _
    rw [qmul, qadd]
  have y5 : nI (cb + 2 * i) + 1 = nI (cb + 2 * i + 1) := nI_1 _
  have hlt : ¬ nI en ≤ nI i := fun q => by rw [nI_leI (by omega) (by omega)] at q; omega
  rw [f12_summedUp_c40, y3, if_neg (nI_in (by omega) (by omega)), o_331_2 hO, qcl (by omega), hen, if_neg hlt, y4, if_neg (nI_in (by omega) (by omega)), qcl (by omega), ho, qbl, y5, if_neg (nI_in (by omega) (by omega)), qcl (by omega), ha, qbl]
  have u3 : nI (q + 1) - 1 = nI q := nI_pred q
  rw [if_pos (by decide), if_neg (by decide), if_pos (by decide), if_pos (by decide), if_pos (by decide), if_pos (by decide), u3, if_neg (nI_in (by omega) (by omega)), o_331_22 hO, qcl (by omega), qbl, qbl, nI_1]
  by_cases z : J 339 q = 0
  · rw [if_pos z, if_pos z, if_neg (ifin (by omega) (by omega))]
  · rw [if_neg z, if_neg z, if_neg (ifin (by omega) (by omega))]
theorem mv21 (hO : OF O) (hx : x < 4200) (hen : J 334 (x + 2) = nI en) (hi : i < en) (hcb : cb + 2 * en < 4260) (ho : J 334 (cb + 2 * i) = nI 21) (ha : J 334 (cb + 2 * i + 1) = nI a) (hab : a < 2147483648) {p q : Nat} {v : Int32} (hq : q < 328) (hd : f12_joined (nI 21) (J 339 q) (J 339 (q + 1)) = some v) : f12_summedUp_c40 n O (m + 1) J L 331 (nI x) (nI cb) (nI p) (nI (q + 2)) (nI i) = f12_summedUp_c40 n O m (sI J 339 q (vp_nar .boolean v)) L 331 (nI x) (nI cb) (nI p) (nI (q + 1)) (nI (i + 1)) := by
  have y3 : nI x + 2 = nI (x + 2) := qadd x 2
  have y4 : nI cb + 2 * nI i = nI (cb + 2 * i) := by
    show nI cb + nI 2 * nI i = _
    rw [qmul, qadd]
  have y5 : nI (cb + 2 * i) + 1 = nI (cb + 2 * i + 1) := nI_1 _
  have hlt : ¬ nI en ≤ nI i := fun q => by rw [nI_leI (by omega) (by omega)] at q; omega
  rw [f12_summedUp_c40, y3, if_neg (nI_in (by omega) (by omega)), o_331_2 hO, qcl (by omega), hen, if_neg hlt, y4, if_neg (nI_in (by omega) (by omega)), qcl (by omega), ho, qbl, y5, if_neg (nI_in (by omega) (by omega)), qcl (by omega), ha, qbl]
  have u : nI (q + 2) + -1 = nI (q + 1) := pk_m1 (q + 1)
  have u2 : nI (q + 1) - 1 = nI q := nI_pred q
  rw [if_pos (by decide), if_neg (by decide), if_pos (by decide), if_pos (by decide), if_pos (by decide), if_neg (by decide), u, u2, if_neg (nI_in (by omega) (by omega)), if_neg (nI_in (by omega) (by omega)), o_331_22 hO, qcl (by omega), qcl (by omega), hd, qb, qbl, nI_1, if_neg (ifin (by omega) (by omega))]
theorem mv22 (hO : OF O) (hx : x < 4200) (hen : J 334 (x + 2) = nI en) (hi : i < en) (hcb : cb + 2 * en < 4260) (ho : J 334 (cb + 2 * i) = nI 22) (ha : J 334 (cb + 2 * i + 1) = nI a) (hab : a < 2147483648) {p q : Nat} {v : Int32} (hq : q < 328) (hd : f12_joined (nI 22) (J 339 q) (J 339 (q + 1)) = some v) : f12_summedUp_c40 n O (m + 1) J L 331 (nI x) (nI cb) (nI p) (nI (q + 2)) (nI i) = f12_summedUp_c40 n O m (sI J 339 q (vp_nar .boolean v)) L 331 (nI x) (nI cb) (nI p) (nI (q + 1)) (nI (i + 1)) := by
  have y3 : nI x + 2 = nI (x + 2) := qadd x 2
  have y4 : nI cb + 2 * nI i = nI (cb + 2 * i) := by
    show nI cb + nI 2 * nI i = _
    rw [qmul, qadd]
  have y5 : nI (cb + 2 * i) + 1 = nI (cb + 2 * i + 1) := nI_1 _
  have hlt : ¬ nI en ≤ nI i := fun q => by rw [nI_leI (by omega) (by omega)] at q; omega
  rw [f12_summedUp_c40, y3, if_neg (nI_in (by omega) (by omega)), o_331_2 hO, qcl (by omega), hen, if_neg hlt, y4, if_neg (nI_in (by omega) (by omega)), qcl (by omega), ho, qbl, y5, if_neg (nI_in (by omega) (by omega)), qcl (by omega), ha, qbl]
  have u : nI (q + 2) + -1 = nI (q + 1) := pk_m1 (q + 1)
  have u2 : nI (q + 1) - 1 = nI q := nI_pred q
  rw [if_pos (by decide), if_neg (by decide), if_pos (by decide), if_pos (by decide), if_pos (by decide), if_neg (by decide), u, u2, if_neg (nI_in (by omega) (by omega)), if_neg (nI_in (by omega) (by omega)), o_331_22 hO, qcl (by omega), qcl (by omega), hd, qb, qbl, nI_1, if_neg (ifin (by omega) (by omega))]
end ME
/-- what the reference's evaluating reads -/
def EvM (J : TI) (O : TO) (x cb en : Nat) (N : TN) (e : lEnv) (cd : Nat → Nat × Nat) : Prop := x < 4200 ∧ cb + 2 * en < 4260 ∧ en ≤ 320 ∧ J 334 (x + 2) = nI en ∧ (∀ i, i < en → J 334 (cb + 2 * i) = nI (cd i).1 ∧ J 334 (cb + 2 * i + 1) = nI (cd i).2 ∧ ((cd i).1 ≤ 15 ∨ (20 ≤ (cd i).1 ∧ (cd i).1 ≤ 22)) ∧ (cd i).2 < 10000 ∧ ((cd i).1 = 1 → (cd i).2 < 7)) ∧ (∀ c, c < 7 → J 337 c = iV (e.1 c)) ∧ MV J O N ∧ e.2 = hlN N
def KF (I I' : TI) : Prop := ∀ a, a ≠ 339 → I' a = I a
section MG
variable {n x cb en : Nat} {O : TO} {N : TN} {e : lEnv} {cd : Nat → Nat × Nat}
theorem EvM_fr {J J' : TI} (h : EvM J O x cb en N e cd) (hf : KF J J') : EvM J' O x cb en N e cd := by
  obtain ⟨h1, h2, h2b, h3, h4, h5, h6, h7⟩ := h
  refine ⟨h1, h2, h2b, by rw [hf 334 (by omega)]; exact h3, by rw [hf 334 (by omega)]; exact h4, by rw [hf 337 (by omega)]; exact h5, MV_fr h6 (hf 332 (by omega)), h7⟩
theorem m_step (hn : 100000 ≤ n) (hO : OF O) (hB : WB N) {J : TI} {L : TL} (hE : EvM J O x cb en N e cd) {m i : Nat} {V V' : List Int} {T T' : List Bool} (hi : i < en) (hV : VLr L V) (hT : TRr J T) (oV : okV V) (oV' : okV V') (lV' : V.length ≤ i) (lT : T.length ≤ i) (hx : mqS e (cd i).1 (cd i).2 V T = some (V', T')) : ∃ J' L', f12_summedUp_c40 n O (m + 1) J L 331 (nI x) (nI cb) (nI V.length) (nI T.length) (nI i) = f12_summedUp_c40 n O m J' L' 331 (nI x) (nI cb) (nI V'.length) (nI T'.length) (nI (i + 1)) ∧ VLr L' V' ∧ TRr J' T' ∧ V'.length ≤ i + 1 ∧ T'.length ≤ i + 1 ∧ KF J J' := by
  obtain ⟨h1, h2, h2b, h3, h4, h5, h6, h7⟩ := hE
  obtain ⟨c1, c2, c3, c4⟩ := h4 i hi
  generalize (cd i).1 = o at *
  generalize (cd i).2 = a at *
  unfold mqS at hx
  by_cases k0 : o = 0
  · subst k0
    rw [if_pos rfl] at hx
    obtain ⟨rfl, rfl⟩ := Prod.mk.inj (Option.some.inj hx)
    refine ⟨J, sL L 338 V.length (lN a), mv0 hO h1 h3 hi h2 c1 c2 (by omega) (by omega), ?_, hT, by rw [List.length_cons]; omega, by omega, fun _ _ => rfl⟩
    rw [← lV_n]; exact VLr_push hV
  rw [if_neg k0] at hx
  by_cases k1 : o = 1
  · subst k1
    rw [if_pos rfl] at hx
    obtain ⟨rfl, rfl⟩ := Prod.mk.inj (Option.some.inj hx)
    by_cases ha : a < 7
    · refine ⟨J, sL L 338 V.length (J 337 a).toInt64, mv1 hO h1 h3 hi h2 c1 c2 (by omega) (by omega) ha, ?_, hT, by rw [List.length_cons]; omega, by omega, fun _ _ => rfl⟩
      rw [h5 a ha, iV_l (oV' _ List.mem_cons_self)]
      exact VLr_push hV
    · exact absurd (c4.2 rfl) ha
  rw [if_neg k1] at hx
  by_cases k3 : o = 3
  · subst k3
    rw [if_pos rfl] at hx
    match V, T, hV, hT, oV, lV', lT, hx with
    | y :: z :: V1, b :: T1, hV, hT, oV, lV', lT, hx =>
      obtain ⟨rfl, rfl⟩ := Prod.mk.inj (Option.some.inj hx)
      simp only [List.length_cons] at lV' lT
      have e := mv3 (n := n) (m := m) (L := L) hO h1 h3 hi h2 c1 c2 (by omega) (p := V1.length) (q := T1.length) (by omega) (by omega)
      obtain ⟨v1, v2, v3⟩ := hV
      obtain ⟨t1, t2⟩ := hT
      rw [t1] at e
      cases b
      · rw [if_pos (bI_0.mpr rfl)] at e
        refine ⟨J, sL L 338 V1.length (L 338 (V1.length + 1)), e, ?_, t2, by rw [List.length_cons]; omega, by omega, fun _ _ => rfl⟩
        have v1' : L 338 (V1.length + 1) = lV y := v1
        rw [v1']
        exact VLr_push v3
      · rw [if_neg (by decide)] at e
        exact ⟨J, L, e, ⟨v2, v3⟩, t2, by rw [List.length_cons]; omega, by omega, fun _ _ => rfl⟩
    | [], _, _, _, _, _, _, hx => exact absurd hx (by intro q; cases q)
    | [_], _, _, _, _, _, _, hx => exact absurd hx (by intro q; cases q)
    | _ :: _ :: _, [], _, _, _, _, _, hx => exact absurd hx (by intro q; cases q)
  rw [if_neg k3] at hx
  by_cases k5 : o ≤ 5
  · rw [if_pos k5] at hx
    match V, hV, oV, lV', hx with
    | z :: V1, hV, oV, lV', hx =>
      obtain ⟨rfl, rfl⟩ := Prod.mk.inj (Option.some.inj hx)
      simp only [List.length_cons] at lV'
      obtain ⟨v1, v2⟩ := hV
      have ok : o = 2 ∨ o = 4 ∨ o = 5 := by omega
      have d := m_ofOne hn h6 hB h7 ok (oV z List.mem_cons_self)
      rw [← v1] at d
      refine ⟨J, sL L 338 V1.length (lV (xS1 e (kso o) z)), ?_, VLr_push v2, hT, by rw [List.length_cons]; omega, by omega, fun _ _ => rfl⟩
      rcases ok with rfl | rfl | rfl
      · exact mv2 hO h1 h3 hi h2 c1 c2 (by omega) (by omega) d
      · exact mv4 hO h1 h3 hi h2 c1 c2 (by omega) (by omega) d
      · exact mv5 hO h1 h3 hi h2 c1 c2 (by omega) (by omega) d
    | [], _, _, _, hx => exact absurd hx (by intro q; cases q)
  rw [if_neg k5] at hx
  by_cases k10 : o < 10
  · rw [if_pos k10] at hx
    match V, hV, oV, lV', hx with
    | y :: z :: V1, hV, oV, lV', hx =>
      obtain ⟨rfl, rfl⟩ := Prod.mk.inj (Option.some.inj hx)
      simp only [List.length_cons] at lV'
      obtain ⟨v1, v2, v3⟩ := hV
      have ok : o = 6 ∨ o = 7 ∨ o = 8 ∨ o = 9 := by omega
      have d := m_two ok (oV z (List.mem_cons_of_mem _ List.mem_cons_self)) (oV y List.mem_cons_self)
      have v1' : L 338 (V1.length + 1) = lV y := v1
      rw [← v1', ← v2] at d
      refine ⟨J, sL L 338 V1.length (lV (ar (kxo o) z y)), ?_, VLr_push v3, hT, by rw [List.length_cons]; omega, by omega, fun _ _ => rfl⟩
      rcases ok with rfl | rfl | rfl | rfl
      · exact mv6 hO h1 h3 hi h2 c1 c2 (by omega) (by omega) d
      · exact mv7 hO h1 h3 hi h2 c1 c2 (by omega) (by omega) d
      · exact mv8 hO h1 h3 hi h2 c1 c2 (by omega) (by omega) d
      · exact mv9 hO h1 h3 hi h2 c1 c2 (by omega) (by omega) d
    | [], _, _, _, hx => exact absurd hx (by intro q; cases q)
    | [_], _, _, _, hx => exact absurd hx (by intro q; cases q)
  rw [if_neg k10] at hx
  by_cases k20 : o < 20
  · rw [if_pos k20] at hx
    match V, hV, oV, lV', hx with
    | y :: z :: V1, hV, oV, lV', hx =>
      obtain ⟨rfl, rfl⟩ := Prod.mk.inj (Option.some.inj hx)
      simp only [List.length_cons] at lV'
      obtain ⟨v1, v2, v3⟩ := hV
      by_cases ok : o = 10 ∨ o = 11 ∨ o = 12 ∨ o = 13 ∨ o = 14 ∨ o = 15
      · have d := m_asked ok (oV z (List.mem_cons_of_mem _ List.mem_cons_self)) (oV y List.mem_cons_self)
        have v1' : L 338 (V1.length + 1) = lV y := v1
        rw [← v1', ← v2] at d
        refine ⟨sI J 339 T.length (bI (cmpB (kco o) z y)), L, ?_, v3, TRr_push hT, by omega, by rw [List.length_cons]; omega, fun a ha => sI_o _ _ ha⟩
        rw [← nar_b]
        rcases ok with rfl | rfl | rfl | rfl | rfl | rfl
        · exact mv10 hO h1 h3 hi h2 c1 c2 (by omega) (by omega) (by omega) d
        · exact mv11 hO h1 h3 hi h2 c1 c2 (by omega) (by omega) (by omega) d
        · exact mv12 hO h1 h3 hi h2 c1 c2 (by omega) (by omega) (by omega) d
        · exact mv13 hO h1 h3 hi h2 c1 c2 (by omega) (by omega) (by omega) d
        · exact mv14 hO h1 h3 hi h2 c1 c2 (by omega) (by omega) (by omega) d
        · exact mv15 hO h1 h3 hi h2 c1 c2 (by omega) (by omega) (by omega) d
      · exact absurd ok (by have := c3; omega)
    | [], _, _, _, hx => exact absurd hx (by intro q; cases q)
    | [_], _, _, _, hx => exact absurd hx (by intro q; cases q)
  rw [if_neg k20] at hx
  by_cases kn : o = 20
  · subst kn
    rw [if_pos rfl] at hx
    match T, hT, lT, hx with
    | b :: T1, hT, lT, hx =>
      obtain ⟨rfl, rfl⟩ := Prod.mk.inj (Option.some.inj hx)
      simp only [List.length_cons] at lT
      obtain ⟨t1, t2⟩ := hT
      refine ⟨sI J 339 T1.length (bI (!b)), L, ?_, hV, TRr_push t2, by omega, by rw [List.length_cons]; omega, fun a ha => sI_o _ _ ha⟩
      have d := mv20 (n := n) (m := m) (L := L) hO h1 h3 hi h2 c1 c2 (by omega) (p := V.length) (q := T1.length) (by omega)
      rw [t1] at d
      rw [show bI (!b) = vp_nar .boolean (if bI b = 0 then 1 else 0) by cases b <;> decide]
      exact d
    | [], _, _, hx => exact absurd hx (by intro q; cases q)
  rw [if_neg kn] at hx
  match T, hT, lT, hx with
  | c :: b :: T1, hT, lT, hx =>
    obtain ⟨rfl, rfl⟩ := Prod.mk.inj (Option.some.inj hx)
    simp only [List.length_cons] at lT
    obtain ⟨t1, t2, t3⟩ := hT
    have ok : o = 21 ∨ o = 22 := by omega
    have d := m_joined ok b c
    have t1' : J 339 (T1.length + 1) = bI c := t1
    rw [← t1', ← t2] at d
    refine ⟨sI J 339 T1.length (bI (if o = 21 then b && c else b || c)), L, ?_, hV, TRr_push t3, by omega, by rw [List.length_cons]; omega, fun a ha => sI_o _ _ ha⟩
    rw [← nar_b]
    rcases ok with rfl | rfl
    · exact mv21 hO h1 h3 hi h2 c1 c2 (by omega) (by omega) d
    · exact mv22 hO h1 h3 hi h2 c1 c2 (by omega) (by omega) d
  | [], _, _, hx => exact absurd hx (by intro q; cases q)
  | [_], _, _, hx => exact absurd hx (by intro q; cases q)
def cdl (cd : Nat → Nat × Nat) : Nat → Nat → List (Nat × Nat)
  | 0, _ => []
  | d + 1, i => cd i :: cdl cd d (i + 1)
theorem m_run (hn : 100000 ≤ n) (hO : OF O) (hB : WB N) : ∀ d (J : TI) (L : TL) i V T v m, EvM J O x cb en N e cd → i + d = en → VLr L V → TRr J T → okV V → V.length ≤ i → T.length ≤ i → mR e (cdl cd d i) V T = some ([v], []) → d < m → ∃ J' L', f12_summedUp_c40 n O m J L 331 (nI x) (nI cb) (nI V.length) (nI T.length) (nI i) = some (lV v, J', L') ∧ KF J J' := by
  intro d
  induction d with
  | zero =>
    intro J L i V T v m hE hi hV hT oV lV' lT hr hm
    obtain ⟨m', rfl⟩ : ∃ m', m = m' + 1 := ⟨m - 1, by omega⟩
    obtain ⟨rfl, rfl⟩ := Prod.mk.inj (Option.some.inj (show some (V, T) = some ([v], []) from hr))
    obtain ⟨h1, h2, h2b, h3, -⟩ := hE
    have y3 : nI x + 2 = nI (x + 2) := qadd x 2
    have hlt : nI en ≤ nI i := by rw [nI_leI (by omega) (by omega)]; omega
    have v0 : L 338 0 = lV v := hV.1
    refine ⟨J, L, ?_, fun _ _ => rfl⟩
    rw [f12_summedUp_c40, y3, if_neg (nI_in (by omega) (by omega)), o_331_2 hO, qcl (by omega), h3, if_pos hlt, o_331_21 hO, v0]
  | succ d ih =>
    intro J L i V T v m hE hi hV hT oV lV' lT hr hm
    obtain ⟨m', rfl⟩ : ∃ m', m = m' + 1 := ⟨m - 1, by omega⟩
    have hr1 : ((mqS e (cd i).1 (cd i).2 V T).bind fun r => if okb r.1 then mR e (cdl cd d (i + 1)) r.1 r.2 else none) = some ([v], []) := hr
    cases hq : mqS e (cd i).1 (cd i).2 V T with
    | none => rw [hq] at hr1; exact absurd hr1 (by intro q; cases q)
    | some r =>
      obtain ⟨V', T'⟩ := r
      rw [hq] at hr1
      have hr2 : (if okb V' then mR e (cdl cd d (i + 1)) V' T' else none) = some ([v], []) := hr1
      cases ho : okb V'
      · rw [ho] at hr2; exact absurd hr2 (by intro q; cases q)
      · rw [ho] at hr2
        have hr3 : mR e (cdl cd d (i + 1)) V' T' = some ([v], []) := hr2
        obtain ⟨J1, L1, a1, a2, a3, a4, a5, a6⟩ := m_step hn hO hB hE (m := m') (by omega) hV hT oV (okb_i.mp ho) lV' lT hq
        obtain ⟨J2, L2, b1, b2⟩ := ih J1 L1 (i + 1) V' T' v m' (EvM_fr hE a6) (by omega) a2 a3 (okb_i.mp ho) a4 a5 hr3 (by omega)
        exact ⟨J2, L2, by rw [a1]; exact b1, fun a ha => by rw [b2 a ha, a6 a ha]⟩
end MG
