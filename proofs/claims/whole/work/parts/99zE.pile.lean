/-! the reference reads a law: its pile and its code -/
def rkN (x : Nat) : Nat := if 40 ≤ x then 0 else if x = 22 then 1 else if x = 21 then 2 else if x = 20 then 3 else if 10 ≤ x then 4 else if 8 ≤ x then 6 else if 6 ≤ x then 5 else 7
theorem rk_ok : ∀ x, x < 64 → f12_rank (nI x) = some (nI (rkN x)) := by decide +kernel
theorem rk_le (x : Nat) : rkN x ≤ 7 := by
  unfold rkN
  repeat' split
  all_goals omega
def PiA (J : TI) (Q : List Nat) : Prop := J 331 16 = nI Q.length ∧ ∀ k, k < Q.length → Q.getD k 0 < 64 ∧ J 336 (Q.length - 1 - k) = nI (Q.getD k 0)
def CdA (J : TI) (T0 : Nat) (cd : List (Nat × Nat)) : Prop := J 331 13 = nI cd.length ∧ ∀ k, k < cd.length → J 334 (T0 + 457 + 2 * k) = nI (cd.getD k (0, 0)).1 ∧ J 334 (T0 + 457 + 2 * k + 1) = nI (cd.getD k (0, 0)).2
/-- what reading a law changes -/
def SFr (T0 : Nat) (J0 J : TI) : Prop := (∀ a, a ≠ 331 → a ≠ 334 → a ≠ 336 → J a = J0 a) ∧ (∀ k, k ≠ 7 → k ≠ 8 → k ≠ 9 → k ≠ 10 → k ≠ 13 → k ≠ 16 → k ≠ 17 → k ≠ 18 → J 331 k = J0 331 k) ∧ ∀ x, (x < T0 + 457 ∨ T0 + 1065 ≤ x) → J 334 x = J0 334 x
/-- what emitting and settling change -/
def EF (T0 : Nat) (J J' : TI) : Prop := (∀ a, a ≠ 331 → a ≠ 334 → J' a = J a) ∧ (∀ k, k ≠ 13 → k ≠ 16 → k ≠ 17 → J' 331 k = J 331 k) ∧ ∀ x, (x < T0 + 457 ∨ T0 + 1065 ≤ x) → J' 334 x = J 334 x
theorem EF_t {T0 : Nat} {J1 J2 J3 : TI} (h : EF T0 J1 J2) (g : EF T0 J2 J3) : EF T0 J1 J3 := ⟨fun a h1 h2 => (g.1 a h1 h2).trans (h.1 a h1 h2), fun k h1 h2 h3 => (g.2.1 k h1 h2 h3).trans (h.2.1 k h1 h2 h3), fun x hx => (g.2.2 x hx).trans (h.2.2 x hx)⟩
theorem EF_r (T0 : Nat) (J : TI) : EF T0 J J := ⟨fun _ _ _ => rfl, fun _ _ _ _ => rfl, fun _ _ => rfl⟩
theorem EF_s {T0 k : Nat} {J : TI} {v : Int32} (hk : k = 13 ∨ k = 16 ∨ k = 17) : EF T0 J (sI J 331 k v) := ⟨fun a h1 _ => sI_o _ _ h1, fun j h1 h2 h3 => sI_k _ _ (by omega), fun x _ => by rw [sI_o _ _ (by omega)]⟩
theorem SF_e {T0 : Nat} {J0 J J' : TI} (h : SFr T0 J0 J) (g : EF T0 J J') : SFr T0 J0 J' := ⟨fun a h1 h2 h3 => (g.1 a h1 h2).trans (h.1 a h1 h2 h3), fun k h1 h2 h3 h4 h5 h6 h7 h8 => (g.2.1 k h5 h6 h7).trans (h.2.1 k h1 h2 h3 h4 h5 h6 h7 h8), fun x hx => (g.2.2 x hx).trans (h.2.2 x hx)⟩
theorem SF_n {T0 : Nat} {J0 J J' : TI} (h : SFr T0 J0 J) (g : NtF J J') : SFr T0 J0 J' := ⟨fun a h1 h2 h3 => (g.1 a h1).trans (h.1 a h1 h2 h3), fun k h1 h2 h3 h4 h5 h6 h7 h8 => (g.2 k h1 h2 h3 h4).trans (h.2.1 k h1 h2 h3 h4 h5 h6 h7 h8), fun x hx => by rw [g.1 334 (by omega)]; exact h.2.2 x hx⟩
theorem gdc_l {c : List (Nat × Nat)} {x : Nat × Nat} {j : Nat} (h : j < c.length) : (c ++ [x]).getD j (0, 0) = c.getD j (0, 0) := by
  rw [List.getD_eq_getElem?_getD, List.getD_eq_getElem?_getD, List.getElem?_append_left h]
theorem gdc_r {c : List (Nat × Nat)} {x : Nat × Nat} : (c ++ [x]).getD c.length (0, 0) = x := by
  rw [List.getD_eq_getElem?_getD, List.getElem?_append_right (Nat.le_refl _), Nat.sub_self]; rfl
section PL
variable {n : Nat} {J : TI} {O : TO} {T0 : Nat}
theorem m_emit (hO : OF O) (hT : T0 ≤ 3195) {cd : List (Nat × Nat)} (h12 : J 331 12 = nI T0) (hC : CdA J T0 cd) (hl : cd.length ≤ 302) (a b : Nat) : ∃ J', f12_emit J O 331 (nI a) (nI b) = some J' ∧ CdA J' T0 (cd ++ [(a, b)]) ∧ EF T0 J J' ∧ J' 331 16 = J 331 16 ∧ J' 331 17 = J 331 17 := by
  obtain ⟨h13, hc⟩ := hC
  have e1 : nI T0 + 457 = nI (T0 + 457) := qadd T0 457
  have e2 : (2 : Int32) * nI cd.length = nI (2 * cd.length) := qmul 2 cd.length
  refine ⟨sI (sI (sI J 334 (T0 + 457 + 2 * cd.length) (nI a)) 334 (T0 + 457 + 2 * cd.length + 1) (nI b)) 331 13 (nI (cd.length + 1)), ?_, ⟨?_, fun k hk => ?_⟩, ⟨fun c h1 h2 => by rw [sI_o _ _ h1, sI_o _ _ h2, sI_o _ _ h2], fun k h1 h2 h3 => by rw [sI_k _ _ h1, sI_o _ _ (by omega), sI_o _ _ (by omega)], fun x hx => by rw [sI_o _ _ (by omega), sI_k _ _ (by omega), sI_k _ _ (by omega)]⟩, ?_, ?_⟩
  · rw [f12_emit, h12, h13, e1, e2, qadd, if_neg (nI_in (by omega) (by omega)), o_331_2 hO, qcl (by omega), qbl, sI_o _ _ (show 331 ≠ 334 by omega), h12, h13, e1, e2, qadd, nI_1, if_neg (nI_in (by omega) (by omega)), qcl (by omega), qbl, sI_o _ _ (show 331 ≠ 334 by omega), sI_o _ _ (show 331 ≠ 334 by omega), h13, nI_1, qbl]
  · rw [sI_s, List.length_append]; rfl
  · rw [List.length_append] at hk
    have hk' : k < cd.length + 1 := hk
    rw [sI_o _ _ (show 334 ≠ 331 by omega)]
    by_cases w : k = cd.length
    · subst w
      rw [gdc_r, sI_k _ _ (by omega), sI_s, sI_s]; exact ⟨rfl, rfl⟩
    · rw [gdc_l (by omega), sI_k _ _ (by omega), sI_k _ _ (by omega), sI_k _ _ (by omega), sI_k _ _ (by omega)]
      exact hc k (by omega)
  · rw [sI_k _ _ (by omega), sI_o _ _ (by omega), sI_o _ _ (by omega)]
  · rw [sI_k _ _ (by omega), sI_o _ _ (by omega), sI_o _ _ (by omega)]
def tpR (Q : List Nat) : Nat := match Q with
  | [] => 0
  | x :: _ => rkN x
def cnO (P : List Nat) : Nat := match P with
  | [] => 0
  | x :: P => (if rkN x = 7 ∨ x = 20 then 1 else 0) + cnO P
theorem Pi_top {Q : List Nat} {x : Nat} (h : PiA J (x :: Q)) : J 331 16 = nI (Q.length + 1) ∧ x < 64 ∧ J 336 Q.length = nI x := by
  obtain ⟨h1, h2⟩ := h
  have := h2 0 (Nat.succ_pos _)
  refine ⟨h1, this.1, ?_⟩
  have e : (x :: Q).length - 1 - 0 = Q.length := by show Q.length + 1 - 1 - 0 = Q.length; omega
  rw [e] at this
  exact this.2
theorem Pi_pop {J' : TI} {Q : List Nat} {x : Nat} (h : PiA J (x :: Q)) (e : J' 336 = J 336) (h16 : J' 331 16 = nI Q.length) : PiA J' Q := by
  refine ⟨h16, fun k hk => ?_⟩
  have := h.2 (k + 1) (Nat.succ_lt_succ hk)
  have e2 : (x :: Q).length - 1 - (k + 1) = Q.length - 1 - k := by show Q.length + 1 - 1 - (k + 1) = _; omega
  rw [e2] at this
  rw [e]
  exact this
theorem Pi_fr {J' : TI} {Q : List Nat} (h : PiA J Q) (e : J' 336 = J 336) (h16 : J' 331 16 = J 331 16) : PiA J' Q := ⟨by rw [h16]; exact h.1, fun k hk => by rw [e]; exact h.2 k hk⟩
theorem Cd_fr {J' : TI} {cd : List (Nat × Nat)} (h : CdA J T0 cd) (e : J' 334 = J 334) (h13 : J' 331 13 = J 331 13) : CdA J' T0 cd := ⟨by rw [h13]; exact h.1, fun k hk => by rw [e]; exact h.2 k hk⟩
theorem Pi_push {Q : List Nat} {x : Nat} (h : PiA J Q) (hx : x < 64) : PiA (sI (sI J 336 Q.length (nI x)) 331 16 (nI (Q.length + 1))) (x :: Q) := by
  refine ⟨sI_s _ _ _ _, fun k hk => ?_⟩
  rw [sI_o _ _ (show 336 ≠ 331 by omega)]
  cases k with
  | zero =>
    have e : (x :: Q).length - 1 - 0 = Q.length := by show Q.length + 1 - 1 - 0 = Q.length; omega
    rw [e, sI_s]; exact ⟨hx, rfl⟩
  | succ k =>
    have hk' : k < Q.length := Nat.lt_of_succ_lt_succ hk
    have e : (x :: Q).length - 1 - (k + 1) = Q.length - 1 - k := by show Q.length + 1 - 1 - (k + 1) = _; omega
    rw [e, sI_k _ _ (by omega)]
    exact h.2 k hk'
theorem m_settle (hO : OF O) (hT : T0 ≤ 3195) {lv : Nat} (hlv : 1 ≤ lv) (hl7 : lv ≤ 7) {ctx : List Nat} (hc : tpR ctx < lv) : ∀ (P : List Nat) m J cd o, P.length < m → J 331 12 = nI T0 → PiA J (P ++ ctx) → CdA J T0 cd → J 331 17 = nI o → cnO P ≤ o → o ≤ 1000 → (∀ x, x ∈ P → lv ≤ rkN x) → P.length + ctx.length ≤ 159 → cd.length + P.length ≤ 302 → ∃ J', f12_settle_c0 n O m J 331 (nI lv) = some J' ∧ PiA J' ctx ∧ CdA J' T0 (cd ++ P.map (fun x => (x, 0))) ∧ J' 331 17 = nI (o - cnO P) ∧ EF T0 J J' := by
  intro P
  induction P with
  | nil =>
    intro m J cd o hm h12 hP hC h17 ho ho2 hr hlen hcl
    obtain ⟨m, rfl⟩ : ∃ m', m = m' + 1 := ⟨m - 1, by omega⟩
    refine ⟨J, ?_, hP, by rw [List.map_nil, List.append_nil]; exact hC, by rw [h17]; rfl, EF_r _ _⟩
    have hP' : PiA J ctx := hP
    have hlen' : ctx.length ≤ 159 := by have : ([] : List Nat).length = 0 := rfl; omega
    cases ctx with
    | nil =>
      have h16 : J 331 16 = nI 0 := hP'.1
      rw [f12_settle_c0, h16, if_pos (show nI 0 ≤ 0 by decide)]
    | cons x Q =>
      obtain ⟨t1, t2, t3⟩ := Pi_top hP'
      have hl' : Q.length + 1 ≤ 159 := hlen'
      have rk : rkN x < lv := hc
      rw [f12_settle_c0, t1, if_neg (show ¬ nI (Q.length + 1) ≤ 0 from nle_i (b := 0) (by omega) (by omega) (by omega)), show nI (Q.length + 1) - 1 = nI Q.length from qsub (b := 1) (by omega), if_neg (nI_in (by omega) (by omega)), o_331_15 hO, qcl (by omega), t3, rk_ok x t2, qb, if_pos ((nI_ltI (by omega) (by omega)).mpr rk)]
  | cons x P ih =>
    intro m J cd o hm h12 hP hC h17 ho ho2 hr hlen hcl
    obtain ⟨m, rfl⟩ : ∃ m', m = m' + 1 := ⟨m - 1, by omega⟩
    have hm' : P.length + 1 < m + 1 := hm
    have hlen' : P.length + 1 + ctx.length ≤ 159 := hlen
    have hcl' : cd.length + (P.length + 1) ≤ 302 := hcl
    have hP' : PiA J (x :: (P ++ ctx)) := hP
    obtain ⟨t1, t2, t3⟩ := Pi_top hP'
    have ll : (P ++ ctx).length = P.length + ctx.length := List.length_append
    rw [ll] at t1 t3
    have rk := hr x List.mem_cons_self
    have rb := rk_le x
    have ec : cnO (x :: P) = (if rkN x = 7 ∨ x = 20 then 1 else 0) + cnO P := rfl
    rw [ec] at ho ⊢
    let J1 := sI J 331 16 (nI (P.length + ctx.length))
    have j12 : J1 331 12 = nI T0 := by show sI _ _ _ _ _ _ = _; rw [sI_k _ _ (by omega)]; exact h12
    have j336 : J1 336 = J 336 := sI_o _ _ (by omega)
    obtain ⟨J2, g1, g2, g3, g4, g5⟩ := m_emit (J := J1) hO hT j12 ⟨by show sI _ _ _ _ _ _ = _; rw [sI_k _ _ (by omega)]; exact hC.1, fun k hk => by show sI _ _ _ _ _ _ = _ ∧ sI _ _ _ _ _ _ = _; rw [sI_o _ _ (by omega)]; exact hC.2 k hk⟩ (by omega) x 0
    have k16 : J2 331 16 = nI (P.length + ctx.length) := by rw [g4]; exact sI_s _ _ _ _
    have k336 : J2 336 = J 336 := by rw [g3.1 336 (by omega) (by omega), j336]
    have k17 : J2 331 17 = nI o := by rw [g5]; show sI _ _ _ _ _ _ = _; rw [sI_k _ _ (by omega)]; exact h17
    have k12 : J2 331 12 = nI T0 := by rw [g3.2.1 12 (by omega) (by omega) (by omega)]; exact j12
    have ef : EF T0 J J2 := EF_t (EF_s (by omega)) g3
    have ng : ¬ (nI (P.length + ctx.length) < 0 ∨ 160 ≤ (nI (P.length + ctx.length)).toNatClampNeg) := nI_in (by omega) (by omega)
    have hpp : PiA J2 (P ++ ctx) := Pi_pop hP' k336 (by rw [k16, ll])
    have pre : f12_settle_c0 n O (m + 1) J 331 (nI lv) = if nI (rkN x) = (7 : Int32) then f12_settle_c0 n O m (sI J2 331 17 (nI o - 1)) 331 (nI lv) else (if nI x = (20 : Int32) then f12_settle_c0 n O m (sI J2 331 17 (nI o - 1)) 331 (nI lv) else f12_settle_c0 n O m J2 331 (nI lv)) := by
      have j16 : J1 331 16 = nI (P.length + ctx.length) := sI_s _ _ _ _
      rw [f12_settle_c0, t1, if_neg (show ¬ nI (P.length + ctx.length + 1) ≤ 0 from nle_i (b := 0) (by omega) (by omega) (by omega)), show nI (P.length + ctx.length + 1) - 1 = nI (P.length + ctx.length) from qsub (b := 1) (by omega), if_neg ng, o_331_15 hO, qcl (by omega), t3, rk_ok x t2, qb, if_neg (fun g => by have := (nI_ltI (by omega) (by omega)).mp g; omega), qbl]
      show (if J1 331 16 < 0 ∨ 160 ≤ (J1 331 16).toNatClampNeg then none else (f12_emit J1 O 331 (J1 336 (J1 331 16).toNatClampNeg) (0 : Int32)).bind _) = _
      rw [j16, if_neg ng, qcl (by omega), j336, t3, show f12_emit J1 O 331 (nI x) 0 = _ from g1, qb, k16, if_neg ng, if_neg ng, qcl (by omega), k336, t3, rk_ok x t2, qb, k17, qbl]
    rw [pre]
    have lm : (cd ++ [(x, 0)]).length = cd.length + 1 := by rw [List.length_append]; rfl
    have mp : cd ++ (x :: P).map (fun x => (x, 0)) = (cd ++ [(x, 0)]) ++ P.map (fun x => (x, 0)) := by
      rw [List.append_assoc]; rfl
    rw [mp]
    have dn : (rkN x = 7 ∨ x = 20) → 1 ≤ o → ∃ J', f12_settle_c0 n O m (sI J2 331 17 (nI o - 1)) 331 (nI lv) = some J' ∧ PiA J' ctx ∧ CdA J' T0 ((cd ++ [(x, 0)]) ++ P.map (fun x => (x, 0))) ∧ J' 331 17 = nI (o - ((if rkN x = 7 ∨ x = 20 then 1 else 0) + cnO P)) ∧ EF T0 J J' := by
      intro hx h1
      rw [if_pos hx] at ho ⊢
      obtain ⟨J', q1, q2, q3, q4, q5⟩ := ih m (sI J2 331 17 (nI o - 1)) (cd ++ [(x, 0)]) (o - 1) (by omega) (by rw [sI_k _ _ (by omega)]; exact k12) (Pi_fr hpp (sI_o _ _ (by omega)) (sI_k _ _ (by omega))) (Cd_fr g2 (sI_o _ _ (by omega)) (sI_k _ _ (by omega))) (by rw [sI_s]; exact qsub (b := 1) h1) (by omega) (by omega) (fun y hy => hr y (List.mem_cons_of_mem _ hy)) (by omega) (by rw [lm]; omega)
      exact ⟨J', q1, q2, q3, by rw [q4, show o - 1 - cnO P = o - (1 + cnO P) by omega], EF_t ef (EF_t (EF_s (by omega)) q5)⟩
    by_cases r7 : rkN x = 7
    · rw [if_pos (show nI (rkN x) = 7 by rw [r7]; rfl)]
      rw [if_pos (Or.inl r7)] at ho
      exact dn (Or.inl r7) (by omega)
    · rw [if_neg (show ¬ nI (rkN x) = 7 from fun g => r7 (by rw [show (7 : Int32) = nI 7 from rfl, nI_eq (by omega) (by omega)] at g; exact g))]
      by_cases x20 : x = 20
      · rw [if_pos (show nI x = 20 by rw [x20]; rfl)]
        rw [if_pos (Or.inr x20)] at ho
        exact dn (Or.inr x20) (by omega)
      · rw [if_neg (show ¬ nI x = 20 from fun g => x20 (by rw [show (20 : Int32) = nI 20 from rfl, nI_eq (by omega) (by omega)] at g; exact g))]
        have nx : ¬ (rkN x = 7 ∨ x = 20) := fun g => by rcases g with g | g; exact r7 g; exact x20 g
        rw [if_neg nx] at ho ⊢
        obtain ⟨J', q1, q2, q3, q4, q5⟩ := ih m J2 (cd ++ [(x, 0)]) o (by omega) k12 hpp g2 k17 (by omega) ho2 (fun y hy => hr y (List.mem_cons_of_mem _ hy)) (by omega) (by rw [lm]; omega)
        exact ⟨J', q1, q2, q3, by rw [q4, Nat.zero_add], EF_t ef q5⟩
/-- what stands in the pile -/
def opN (Q : List Nat) : Option (Nat × Nat) := match Q with
  | [] => none
  | x :: Q => if 40 ≤ x then some (x, Q.length) else opN Q
def cmQ (Q : List Nat) : Bool := match Q with
  | [] => false
  | x :: Q => if 4 < rkN x then cmQ Q else decide (rkN x = 4)
def askQ (Q : List Nat) : Bool := match opN Q with
  | none => false
  | some (c, _) => decide (c = 41) && (match Q with
    | [] => false
    | x :: _ => decide (40 ≤ x) || (decide (1 ≤ rkN x) && decide (rkN x ≤ 3)))
theorem opN_lt : ∀ (Q : List Nat) c k, opN Q = some (c, k) → k < Q.length ∧ 40 ≤ c := by
  intro Q
  induction Q with
  | nil => intro c k h; exact absurd h (by intro g; cases g)
  | cons x Q ih =>
    intro c k h
    have h' : (if 40 ≤ x then some (x, Q.length) else opN Q) = some (c, k) := h
    by_cases z : 40 ≤ x
    · rw [if_pos z] at h'
      injection h' with h2
      injection h2 with h3 h4
      show k < Q.length + 1 ∧ 40 ≤ c
      omega
    · rw [if_neg z] at h'
      have := ih c k h'
      show k < Q.length + 1 ∧ 40 ≤ c
      omega
theorem Pi_tail {Q : List Nat} {x : Nat} (h : ∀ k, k < (x :: Q).length → (x :: Q).getD k 0 < 64 ∧ J 336 ((x :: Q).length - 1 - k) = nI ((x :: Q).getD k 0)) : (x < 64 ∧ J 336 Q.length = nI x) ∧ ∀ k, k < Q.length → Q.getD k 0 < 64 ∧ J 336 (Q.length - 1 - k) = nI (Q.getD k 0) := by
  refine ⟨?_, fun k hk => ?_⟩
  · have := h 0 (Nat.succ_pos _)
    have e : (x :: Q).length - 1 - 0 = Q.length := by show Q.length + 1 - 1 - 0 = Q.length; omega
    rw [e] at this
    exact this
  · have := h (k + 1) (Nat.succ_lt_succ hk)
    have e2 : (x :: Q).length - 1 - (k + 1) = Q.length - 1 - k := by show Q.length + 1 - 1 - (k + 1) = _; omega
    rw [e2] at this
    exact this
theorem m_openAt (hO : OF O) : ∀ (Q : List Nat) m, Q.length < m → Q.length ≤ 159 → (∀ k, k < Q.length → Q.getD k 0 < 64 ∧ J 336 (Q.length - 1 - k) = nI (Q.getD k 0)) → f12_openAt_c7 n J O m 331 (nI Q.length + (-1)) = some (match opN Q with
    | none => -1
    | some (_, k) => nI k) := by
  intro Q
  induction Q with
  | nil =>
    intro m hm hl h
    obtain ⟨m, rfl⟩ : ∃ m', m = m' + 1 := ⟨m - 1, by omega⟩
    show f12_openAt_c7 n J O (m + 1) 331 (nI 0 + (-1)) = some (-1)
    rw [f12_openAt_c7, show nI 0 + (-1) = (-1 : Int32) by decide, if_pos (by decide)]
  | cons x Q ih =>
    intro m hm hl h
    obtain ⟨m, rfl⟩ : ∃ m', m = m' + 1 := ⟨m - 1, by omega⟩
    have hl' : Q.length + 1 ≤ 159 := hl
    have hm' : Q.length + 1 < m + 1 := hm
    obtain ⟨⟨t1, t2⟩, t3⟩ := Pi_tail h
    have e : nI (x :: Q).length + (-1) = nI Q.length := nI_pr Q.length
    rw [e, f12_openAt_c7, if_neg (fun g => by have := (nI_ltI (b := 0) (by omega) (by omega)).mp g; omega), if_neg (nI_in (by omega) (by omega)), o_331_15 hO, qcl (by omega), t2]
    by_cases z : 40 ≤ x
    · have eo : opN (x :: Q) = some (x, Q.length) := by show (if 40 ≤ x then _ else _) = _; rw [if_pos z]
      rw [if_pos (show (40 : Int32) ≤ nI x from (nI_leI (a := 40) (by omega) (by omega)).mpr z), eo]
    · have eo : opN (x :: Q) = opN Q := by show (if 40 ≤ x then _ else _) = _; rw [if_neg z]
      rw [if_neg (show ¬ (40 : Int32) ≤ nI x from nle_i (a := 40) (by omega) (by omega) (by omega)), eo]
      exact ih m (by omega) (by omega) t3
theorem nI_m1 (k : Nat) : nI k - 1 = nI k + (-1) := by rw [Int32.sub_eq_add_neg]
theorem opN_at : ∀ (Q : List Nat) c k, opN Q = some (c, k) → (∀ k, k < Q.length → Q.getD k 0 < 64 ∧ J 336 (Q.length - 1 - k) = nI (Q.getD k 0)) → J 336 k = nI c ∧ c < 64 := by
  intro Q
  induction Q with
  | nil => intro c k h; exact absurd h (by intro g; cases g)
  | cons x Q ih =>
    intro c k h hP
    obtain ⟨⟨t1, t2⟩, t3⟩ := Pi_tail hP
    have h' : (if 40 ≤ x then some (x, Q.length) else opN Q) = some (c, k) := h
    by_cases z : 40 ≤ x
    · rw [if_pos z] at h'
      injection h' with h2
      injection h2 with h3 h4
      rw [← h3, ← h4]; exact ⟨t2, t1⟩
    · rw [if_neg z] at h'
      exact ih c k h' t3
theorem m_openA (hn : 100000 ≤ n) (hO : OF O) {Q : List Nat} (hP : PiA J Q) (hl : Q.length ≤ 159) : f12_openAt n J O 331 = some (match opN Q with
    | none => -1
    | some (_, k) => nI k) := by
  rw [f12_openAt, hP.1, nI_m1]
  exact m_openAt hO Q n (by omega) hl hP.2
theorem m_openN (hn : 100000 ≤ n) (hO : OF O) {Q : List Nat} (hP : PiA J Q) (hl : Q.length ≤ 159) : f12_openNow n J O 331 = some (match opN Q with
    | none => -1
    | some (c, _) => nI c) := by
  have e := m_openA hn hO hP hl
  rw [f12_openNow, e, qb]
  cases h : opN Q with
  | none =>
    rw [h] at e
    show (if (0 : Int32) ≤ -1 then _ else some (-1)) = some (-1)
    rw [if_neg (by decide)]
  | some q =>
    obtain ⟨c, k⟩ := q
    rw [h] at e
    have b := opN_lt Q c k h
    have at1 := opN_at Q c k h hP.2
    show (if (0 : Int32) ≤ nI k then (some (nI k)).bind _ else _) = some (nI c)
    rw [if_pos (show (0 : Int32) ≤ nI k from (nI_leI (a := 0) (by omega) (by omega)).mpr (Nat.zero_le _)), qb, if_neg (nI_in (by omega) (by omega)), o_331_15 hO, qcl (by omega), at1.1]
theorem m_cmp (hO : OF O) : ∀ (Q : List Nat) m, Q.length < m → Q.length ≤ 159 → (∀ k, k < Q.length → Q.getD k 0 < 64 ∧ J 336 (Q.length - 1 - k) = nI (Q.getD k 0)) → f12_isCompared_c7 n J O m 331 (nI Q.length + (-1)) = some (if cmQ Q then 1 else 0) := by
  intro Q
  induction Q with
  | nil =>
    intro m hm hl h
    obtain ⟨m, rfl⟩ : ∃ m', m = m' + 1 := ⟨m - 1, by omega⟩
    show f12_isCompared_c7 n J O (m + 1) 331 (nI 0 + (-1)) = some 0
    rw [f12_isCompared_c7, show nI 0 + (-1) = (-1 : Int32) by decide, if_pos (by decide), f12_isCompared_c30, if_pos (by decide)]
  | cons x Q ih =>
    intro m hm hl h
    obtain ⟨m, rfl⟩ : ∃ m', m = m' + 1 := ⟨m - 1, by omega⟩
    have hl' : Q.length + 1 ≤ 159 := hl
    have hm' : Q.length + 1 < m + 1 := hm
    obtain ⟨⟨t1, t2⟩, t3⟩ := Pi_tail h
    have rb := rk_le x
    have e : nI (x :: Q).length + (-1) = nI Q.length := nI_pr Q.length
    have n0 : ¬ nI Q.length < 0 := fun g => by have := (nI_ltI (b := 0) (by omega) (by omega)).mp g; omega
    have ng : ¬ (nI Q.length < 0 ∨ 160 ≤ (nI Q.length).toNatClampNeg) := nI_in (by omega) (by omega)
    have ec : cmQ (x :: Q) = if 4 < rkN x then cmQ Q else decide (rkN x = 4) := rfl
    rw [e, ec, f12_isCompared_c7, if_neg n0, if_neg ng, o_331_15 hO, qcl (by omega), t2, rk_ok x t1, qb]
    by_cases z : 4 < rkN x
    · rw [if_neg (show ¬ nI (rkN x) ≤ 4 from nle_i (b := 4) (by omega) (by omega) z), if_pos z]
      exact ih m (by omega) (by omega) t3
    · rw [if_pos (show nI (rkN x) ≤ 4 from (nI_leI (b := 4) (by omega) (by omega)).mpr (by omega)), if_neg z, f12_isCompared_c30, if_neg n0, if_neg ng, o_331_15 hO, qcl (by omega), t2, rk_ok x t1, qb]
      by_cases w : rkN x = 4
      · rw [if_pos (show nI (rkN x) = 4 by rw [w]; rfl), decide_eq_true w]; rfl
      · rw [if_neg (show ¬ nI (rkN x) = 4 from fun g => w (by rw [show (4 : Int32) = nI 4 from rfl, nI_eq (by omega) (by omega)] at g; exact g)), decide_eq_false w]; rfl
theorem m_cmpd (hn : 100000 ≤ n) (hO : OF O) {Q : List Nat} (hP : PiA J Q) (hl : Q.length ≤ 159) : f12_isCompared n J O 331 = some (if cmQ Q then 1 else 0) := by
  rw [f12_isCompared, hP.1, nI_m1]
  exact m_cmp hO Q n (by omega) hl hP.2
theorem m_ask (hn : 100000 ≤ n) (hO : OF O) {Q : List Nat} (hP : PiA J Q) (hl : Q.length ≤ 159) : f12_isAskAhead n J O 331 = some (if askQ Q then 1 else 0) := by
  have e := m_openN hn hO hP hl
  rw [f12_isAskAhead, e, qb]
  unfold askQ
  cases h : opN Q with
  | none =>
    show (if (-1 : Int32) = 41 then _ else some 0) = some 0
    rw [if_neg (by decide)]
  | some q =>
    obtain ⟨c, k⟩ := q
    have b := opN_lt Q c k h
    have c64 := (opN_at Q c k h hP.2).2
    show (if nI c = (41 : Int32) then _ else some 0) = some (if (decide (c = 41) && _) = true then 1 else 0)
    by_cases w : c = 41
    · rw [if_pos (show nI c = 41 by rw [w]; rfl), decide_eq_true w, Bool.true_and]
      cases Q with
      | nil => exact absurd h (by intro g; cases g)
      | cons x Q =>
        obtain ⟨t1, t2, t3⟩ := Pi_top hP
        have hl' : Q.length + 1 ≤ 159 := hl
        have rb := rk_le x
        have ng : ¬ (nI Q.length < 0 ∨ 160 ≤ (nI Q.length).toNatClampNeg) := nI_in (by omega) (by omega)
        rw [t1, show nI (Q.length + 1) - 1 = nI Q.length from qsub (b := 1) (by omega), if_neg ng, if_neg ng, o_331_15 hO, qcl (by omega), t3, rk_ok x t2, qb]
        show (if (40 : Int32) ≤ nI x then some 1 else _) = some (if (decide (40 ≤ x) || (decide (1 ≤ rkN x) && decide (rkN x ≤ 3))) = true then 1 else 0)
        by_cases y : 40 ≤ x
        · rw [if_pos (show (40 : Int32) ≤ nI x from (nI_leI (a := 40) (by omega) (by omega)).mpr y), decide_eq_true y]; rfl
        · rw [if_neg (show ¬ (40 : Int32) ≤ nI x from nle_i (a := 40) (by omega) (by omega) (by omega)), decide_eq_false y, Bool.false_or]
          by_cases v : 1 ≤ rkN x ∧ rkN x ≤ 3
          · rw [show f12_isIn (nI (rkN x)) 1 3 = some (nI 1) from m_inT (a := 1) (b := 3) v.1 v.2 (by omega), qb, if_neg (by decide), decide_eq_true v.1, decide_eq_true v.2]; rfl
          · rw [show f12_isIn (nI (rkN x)) 1 3 = some (nI 0) from m_inF (a := 1) (b := 3) (by rw [qtoI (by omega)]; omega) (by omega) (by omega), qb, if_pos (show nI 0 = 0 from rfl)]
            rw [show (decide (1 ≤ rkN x) && decide (rkN x ≤ 3)) = false by
              cases h1 : decide (1 ≤ rkN x)
              · rfl
              · rw [decide_eq_true_eq] at h1
                exact decide_eq_false (by omega)]
            rfl
    · rw [if_neg (show ¬ nI c = 41 from fun g => w (by rw [show (41 : Int32) = nI 41 from rfl, nI_eq (by omega) (by omega)] at g; exact g)), decide_eq_false w]; rfl
end PL
