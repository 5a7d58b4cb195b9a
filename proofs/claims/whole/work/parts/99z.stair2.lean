/-! the stair: the reference's orders, and both -/
def RbI (J : TI) (y4 : Int32) (b : Option (Nat × List Nat)) : Prop := match b with
  | none => y4 = 1000000
  | some (z, l) => y4 = nI z ∧ z ≤ 80 ∧ LstA (J 344) l ∧ l.length ≤ 5
def SgF (J J' : TI) : Prop := (∀ a, a ≠ 331 → a ≠ 343 → a ≠ 344 → a ≠ 345 → J' a = J a) ∧ ∀ k, k ≠ 31 → J' 331 k = J 331 k
theorem SgF_t {J1 J2 J3 : TI} (h : SgF J1 J2) (g : SgF J2 J3) : SgF J1 J3 := ⟨fun a h1 h2 h3 h4 => (g.1 a h1 h2 h3 h4).trans (h.1 a h1 h2 h3 h4), fun k hk => (g.2 k hk).trans (h.2 k hk)⟩
theorem SgF_r (J : TI) : SgF J J := ⟨fun _ _ _ _ _ => rfl, fun _ _ => rfl⟩
theorem MV_sg {J J' : TI} {O : TO} {N : TN} (hM : MV J O N) (h : SgF J J') : MV J' O N := ⟨hM.1, fun t ht => by rw [h.1 332 (by omega) (by omega) (by omega) (by omega)]; exact hM.2 t ht⟩
theorem RbI_fr {J J' : TI} {y4 : Int32} {b : Option (Nat × List Nat)} (h : RbI J y4 b) (e : J' 344 = J 344) : RbI J' y4 b := by
  cases b with
  | none => exact h
  | some q =>
    obtain ⟨z, l⟩ := q
    show y4 = nI z ∧ z ≤ 80 ∧ LstA (J' 344) l ∧ l.length ≤ 5
    rw [e]; exact h
section RS
variable {n : Nat} {O : TO} {N : TN}
theorem m_lays (hn : 100000 ≤ n) (hO : OF O) (hB : WB N) {l : List Nat} (hl : l.length ≤ 5) (hr : ∀ r, r ∈ l → r < N 0) {k100 : TI → Nat → Int32 → Int32 → Int32 → Int32 → Option (Int32 × TI)} {y2 y4 : Int32} : ∀ (suf pre : List Nat) m' J, pre ++ suf = l → suf.length < m' → MV J O N → LstA (J 343) l → J 331 31 = nI (szN N pre) → RowA (J 345) (stL N z0S pre) → ∃ J', f12_stair_c113 n O k100 m' J 331 y2 (nI l.length) y4 (nI pre.length) = f12_stair_c113 n O k100 1 J' 331 y2 (nI l.length) y4 (nI l.length) ∧ StF J J' ∧ J' 331 31 = nI (szN N l) := by
  have b1 := hB.1
  intro suf
  induction suf with
  | nil =>
    intro pre m' J hp hm' hM hA h31 hR
    obtain ⟨m', rfl⟩ : ∃ m'', m' = m'' + 1 := ⟨m' - 1, by have : ([] : List Nat).length = 0 := rfl; omega⟩
    rw [List.append_nil] at hp
    subst hp
    refine ⟨J, ?_, ⟨fun _ _ _ => rfl, fun _ _ => rfl⟩, h31⟩
    rw [f12_stair_c113, f12_stair_c113, if_pos (Int32.le_refl _), if_pos (Int32.le_refl _)]
  | cons r suf ih =>
    intro pre m' J hp hm' hM hA h31 hR
    have hm2 : suf.length + 1 < m' := hm'
    obtain ⟨m', rfl⟩ : ∃ m'', m' = m'' + 1 := ⟨m' - 1, by omega⟩
    have hlen : pre.length + (suf.length + 1) = l.length := by rw [← hp, List.length_append]; rfl
    have hmem : r ∈ l := by rw [← hp]; exact List.mem_append_right _ List.mem_cons_self
    have r0 := hr r hmem
    have er : l.getD pre.length 0 = r := by
      rw [← hp, List.getD_eq_getElem?_getD, List.getElem?_append_right (Nat.le_refl _), Nat.sub_self]; rfl
    have e2 := (hA pre.length (by omega)).2
    rw [er] at e2
    have h5 : ∀ x, x ∈ pre → x < 5 := fun x hx => by have := hr x (by rw [← hp]; exact List.mem_append_left _ hx); omega
    have hz : szN N pre ≤ 64 := by
      have := stL_len hB pre z0S h5
      have e : z0S.2 = 0 := rfl
      unfold szN
      omega
    obtain ⟨J1, q1, q2, q3, q4⟩ := m_layOn hn hO hB hM hR h31 r0 hz
    obtain ⟨J', g1, g2, g3⟩ := ih (pre ++ [r]) m' J1 (by rw [List.append_assoc]; exact hp) (by omega) (MV_st hM q2) (by rw [q2.1 343 (by omega) (by omega)]; exact hA) (by rw [q3]; unfold szN; rw [stL_s]) (by rw [stL_s]; exact q4)
    refine ⟨J', ?_, ⟨fun a h1 h2 => (g2.1 a h1 h2).trans (q2.1 a h1 h2), fun k hk => (g2.2 k hk).trans (q2.2 k hk)⟩, g3⟩
    rw [List.length_append] at g1
    rw [f12_stair_c113, if_neg (nle_i (by omega) (by omega) (by omega)), if_neg (nI_in (by omega) (by omega)), o_331_28 hO, qcl (by omega), e2, q1, qb, nI_1]
    exact g1
theorem m_c154 (hO : OF O) {l : List Nat} (hl : l.length ≤ 5) {k100 : TI → Nat → Int32 → Int32 → Int32 → Int32 → Option (Int32 × TI)} {y2 y4 : Int32} : ∀ d j m' J, j + d = l.length → d < m' → LstA (J 343) l → (∀ i, i < j → J 344 i = nI (l.getD i 0)) → ∃ J', f12_stair_c154 n O k100 m' J 331 y2 (nI l.length) y4 (nI j) = ((f12_isNextOrder n J' O 331 (nI l.length)).bind fun r2 => k100 r2.2 331 y2 (nI l.length) y4 r2.1) ∧ LstA (J' 344) l ∧ ∀ a, a ≠ 344 → J' a = J a := by
  intro d
  induction d with
  | zero =>
    intro j m' J hj hm' hA h
    obtain ⟨m', rfl⟩ : ∃ m'', m' = m'' + 1 := ⟨m' - 1, by omega⟩
    refine ⟨J, ?_, fun i hi => ⟨(hA i hi).1, h i (by omega)⟩, fun _ _ => rfl⟩
    rw [f12_stair_c154, show j = l.length by omega, if_pos (Int32.le_refl _)]
  | succ d ih =>
    intro j m' J hj hm' hA h
    obtain ⟨m', rfl⟩ : ∃ m'', m' = m'' + 1 := ⟨m' - 1, by omega⟩
    have e2 := (hA j (by omega)).2
    obtain ⟨J', q1, q2, q3⟩ := ih (j + 1) m' (sI J 344 j (J 343 j)) (by omega) (by omega) (by rw [sI_o _ _ (by omega)]; exact hA) (fun i hi => by
      by_cases w : i = j
      · rw [w, sI_s, e2]
      · rw [sI_k _ _ w]; exact h i (by omega))
    refine ⟨J', ?_, q2, fun a ha => by rw [q3 a ha, sI_o _ _ ha]⟩
    rw [f12_stair_c154, if_neg (nle_i (by omega) (by omega) (by omega)), if_neg (nI_in (by omega) (by omega)), if_neg (nI_in (by omega) (by omega)), o_331_28 hO, o_331_29 hO, qcl (by omega), qbl, nI_1, q1]
def fin2 (y2 y4 : Int32) (J : TI) : Option (Int32 × TI) := if y2 = (-1 : Int32) then some (y4, J) else (if y2 < 0 ∨ 5 ≤ y2.toNatClampNeg then none else some ((J 344 y2.toNatClampNeg), J))
theorem m_c100 (hn : 100000 ≤ n) (hO : OF O) (hB : WB N) {k : Nat} (h1 : 1 ≤ k) (hk : k ≤ 5) {y2 : Int32} : ∀ f (l : List Nat) ls m' J y4 b, rnE f l = some ls → f < m' → (∀ l', l' ∈ ls → l'.length = k ∧ ∀ r, r ∈ l' → r < N 0) → MV J O N → LstA (J 343) l → RbI J y4 b → ∃ J' y4', f12_stair_c100 n O m' J 331 y2 (nI k) y4 1 = fin2 y2 y4' J' ∧ RbI J' y4' (ls.foldl (bsU N) b) ∧ SgF J J' := by
  have b1 := hB.1
  intro f
  induction f with
  | zero => intro l ls m' J y4 b h; exact absurd h (by intro g; cases g)
  | succ f ih =>
    intro l ls m' J y4 b hrn hm' hg hM hA hb
    obtain ⟨m', rfl⟩ : ∃ m'', m' = m'' + 1 := ⟨m' - 1, by omega⟩
    have hlm : l ∈ ls := by
      unfold rnE at hrn
      cases hx : nxL l with
      | none => rw [hx] at hrn; injection hrn with e; rw [← e]; exact List.mem_cons_self
      | some l' =>
        rw [hx] at hrn
        have hrn2 : Option.map (fun ls => l :: ls) (rnE f l') = some ls := hrn
        cases hy : rnE f l' with
        | none => rw [hy] at hrn2; exact absurd hrn2 (by intro g; cases g)
        | some ls' => rw [hy] at hrn2; injection hrn2 with e; rw [← e]; exact List.mem_cons_self
    obtain ⟨hlk, hlr⟩ := hg l hlm
    obtain ⟨J1, q1, q2, q3⟩ := m_lays hn hO hB (l := l) (by omega) hlr (k100 := f12_stair_c100 n O m') (y2 := y2) (y4 := y4) l [] n (sI J 331 31 0) rfl (by omega) ⟨hM.1, fun t ht => by rw [sI_o _ _ (by omega)]; exact hM.2 t ht⟩ (by rw [sI_o _ _ (by omega)]; exact hA) (sI_s _ _ _ _) (fun p hp => absurd hp (Nat.not_lt_zero _))
    have fr1 : SgF J J1 := ⟨fun a g1 g2 g3 g4 => by rw [q2.1 a g1 g4, sI_o _ _ g1], fun j hj => by rw [q2.2 j hj, sI_k _ _ hj]⟩
    have e343 : J1 343 = J 343 := by rw [q2.1 343 (by omega) (by omega), sI_o _ _ (by omega)]
    have e344 : J1 344 = J 344 := by rw [q2.1 344 (by omega) (by omega), sI_o _ _ (by omega)]
    have hz : szN N l ≤ 80 := sz_le hB (fun r hr => by have := hlr r hr; omega) (by omega)
    -- the better of the two
    have st : ∃ J2 y5, f12_stair_c100 n O (m' + 1) J 331 y2 (nI k) y4 1 = ((f12_isNextOrder n J2 O 331 (nI l.length)).bind fun r2 => f12_stair_c100 n O m' r2.2 331 y2 (nI l.length) y5 r2.1) ∧ RbI J2 y5 (bsU N b l) ∧ SgF J J2 ∧ J2 343 = J 343 := by
      have pre : f12_stair_c100 n O (m' + 1) J 331 y2 (nI k) y4 1 = if y4 ≤ nI (szN N l) then ((f12_isNextOrder n J1 O 331 (nI l.length)).bind fun r3 => f12_stair_c100 n O m' r3.2 331 y2 (nI l.length) y4 r3.1) else f12_stair_c154 n O (f12_stair_c100 n O m') n J1 331 y2 (nI l.length) (nI (szN N l)) 0 := by
        rw [f12_stair_c100, if_neg (show ¬ (1 : Int32) = 0 by decide), qbl, ← hlk, show f12_stair_c113 n O (f12_stair_c100 n O m') n (sI J 331 31 0) 331 y2 (nI l.length) y4 0 = _ from q1, f12_stair_c113, if_pos (Int32.le_refl _), q3]
      have put : ¬ y4 ≤ nI (szN N l) → ∃ J2 y5, f12_stair_c100 n O (m' + 1) J 331 y2 (nI k) y4 1 = ((f12_isNextOrder n J2 O 331 (nI l.length)).bind fun r2 => f12_stair_c100 n O m' r2.2 331 y2 (nI l.length) y5 r2.1) ∧ RbI J2 y5 (some (szN N l, l)) ∧ SgF J J2 ∧ J2 343 = J 343 := by
        intro hnot
        obtain ⟨J2, c1, c2, c3⟩ := m_c154 (n := n) hO (l := l) (by omega) (k100 := f12_stair_c100 n O m') (y2 := y2) (y4 := nI (szN N l)) l.length 0 n J1 (by omega) (by omega) (by rw [e343]; exact hA) (fun i hi => by omega)
        refine ⟨J2, nI (szN N l), ?_, ⟨rfl, hz, c2, by omega⟩, SgF_t fr1 ⟨fun a g1 g2 g3 g4 => c3 a g3, fun j _ => by rw [c3 331 (by omega)]⟩, by rw [c3 343 (by omega), e343]⟩
        rw [pre, if_neg hnot]; exact c1
      cases b with
      | none =>
        have hb' : y4 = 1000000 := hb
        exact put (by rw [hb']; exact nle_i (a := 1000000) (by omega) (by omega) (by omega))
      | some q =>
        obtain ⟨z, l0⟩ := q
        have hb' : y4 = nI z ∧ z ≤ 80 ∧ LstA (J 344) l0 ∧ l0.length ≤ 5 := hb
        show ∃ J2 y5, _ ∧ RbI J2 y5 (if z ≤ szN N l then some (z, l0) else some (szN N l, l)) ∧ _
        by_cases w : z ≤ szN N l
        · rw [if_pos w]
          refine ⟨J1, y4, ?_, RbI_fr hb e344, fr1, e343⟩
          rw [pre, if_pos (by rw [hb'.1]; exact (nI_leI (by omega) (by omega)).mpr w)]
        · rw [if_neg w]
          exact put (by rw [hb'.1]; exact nle_i (by omega) (by omega) (by omega))
    obtain ⟨J2, y5, c1, c2, c3, c4⟩ := st
    rw [c1]
    rcases m_next hO hn (J := J2) (l := l) (by omega) (by omega) (by rw [c4]; exact hA) with ⟨a1, a2⟩ | ⟨l', J3, a1, a2, a3, a4, a5⟩
    · have els : ls = [l] := by
        unfold rnE at hrn
        rw [a1] at hrn
        injection hrn with e
        exact e.symm
      obtain ⟨m', rfl⟩ : ∃ m'', m' = m'' + 1 := ⟨m' - 1, by omega⟩
      refine ⟨J2, y5, ?_, by rw [els]; exact c2, c3⟩
      rw [a2, qb, f12_stair_c100, if_pos rfl, o_331_29 hO]; rfl
    · have els : ∃ ls', rnE f l' = some ls' ∧ ls = l :: ls' := by
        unfold rnE at hrn
        rw [a1] at hrn
        have hrn2 : Option.map (fun ls => l :: ls) (rnE f l') = some ls := hrn
        cases hy : rnE f l' with
        | none => rw [hy] at hrn2; exact absurd hrn2 (by intro g; cases g)
        | some ls' => rw [hy] at hrn2; injection hrn2 with e; exact ⟨ls', rfl, e.symm⟩
      obtain ⟨ls', e1, e2⟩ := els
      have fr3 : SgF J2 J3 := ⟨fun a _ g2 _ _ => a5 a g2, fun j _ => by rw [a5 331 (by omega)]⟩
      obtain ⟨J', y4', g1, g2, g3⟩ := ih l' ls' m' J3 y5 (bsU N b l) e1 (by omega) (fun x hx => hg x (by rw [e2]; exact List.mem_cons_of_mem _ hx)) (MV_sg hM (SgF_t c3 fr3)) a3 (RbI_fr c2 (a5 344 (by omega)))
      refine ⟨J', y4', ?_, by rw [e2]; exact g2, SgF_t c3 (SgF_t fr3 g3)⟩
      rw [a2, qb, hlk]; exact g1
/-- none of the rolls is torn -/
def ClR (N : TN) (m : Nat) : Prop := ∀ r, r < N 0 → m / 2 ^ r % 2 = 1 → fo (toG N r) (Ln N r) 0 0 = (0 : Int32)
theorem tm_0 {r : Nat} : ∀ d, tmN N r d = 0 → ∀ p, p < d → tornB N r p = false := by
  intro d
  induction d with
  | zero => intro _ p hp; omega
  | succ d ih =>
    intro h p hp
    rw [tmN_s] at h
    cases ht : tornB N r d
    · rw [ht, if_neg (by decide)] at h
      by_cases w : p = d
      · rw [w]; exact ht
      · exact ih h p (by omega)
    · rw [ht, if_pos rfl] at h
      have : 0 < 2 ^ d := Nat.pow_pos (by omega)
      omega
theorem cl_mk (hB : WB N) {m : Nat} (hm : m < 2 ^ N 0) (h : ClR N m) : MkO N m := by
  have b1 := hB.1
  intro r hr hb
  have r0 : r < N 0 := by
    by_cases w : r < N 0
    · exact w
    · have : 2 ^ N 0 ≤ 2 ^ r := Nat.pow_le_pow_right (by omega) (by omega)
      rw [Nat.div_eq_of_lt (by omega)] at hb
      omega
  have l1 := hB.2.2.1 r (by omega)
  have e := h r r0 hb
  rw [to_tm _ l1] at e
  have t := tm_16 (N := N) (r := r) l1
  refine ⟨r0, tm_0 (Ln N r) ?_⟩
  rw [show (0 : Int32) = nI 0 from rfl, nI_eq (by omega) (by omega)] at e
  exact e
theorem x_c24 (hn : 100000 ≤ n) (hO : OF O) (hB : WB N) {I : TI} (hV : WV I O 3 4 5 6 7 8 N) {m : Nat} (hm : m < 32) : ∀ d r m', r + d = N 0 → d < m' → (∀ q, q < r → m / 2 ^ q % 2 = 1 → fo (toG N q) (Ln N q) 0 0 = (0 : Int32)) → (ClR N m ∧ f11_canStand_c24 n I O m' 1 (nI m) (nI r) = some 1) ∨ (¬ ClR N m ∧ f11_canStand_c24 n I O m' 1 (nI m) (nI r) = some 0) := by
  have b1 := hB.1
  intro d
  induction d with
  | zero =>
    intro r m' hr hm' h
    obtain ⟨m', rfl⟩ : ∃ m'', m' = m'' + 1 := ⟨m' - 1, by omega⟩
    refine Or.inl ⟨fun q hq => h q (by omega), ?_⟩
    rw [f11_canStand_c24, o_1_0 hO, o_2_0 hO, hV.2.1, show r = N 0 by omega, if_pos (Int32.le_refl _)]
  | succ d ih =>
    intro r m' hr hm' h
    obtain ⟨m', rfl⟩ : ∃ m'', m' = m'' + 1 := ⟨m' - 1, by omega⟩
    have eb := bit_t (b := m) (p := r) (by omega) (by omega)
    have pre : f11_canStand_c24 n I O (m' + 1) 1 (nI m) (nI r) = if nI (m / 2 ^ r % 2) = 0 then f11_canStand_c24 n I O m' 1 (nI m) (nI (r + 1)) else if fo (toG N r) (Ln N r) 0 0 = (0 : Int32) then f11_canStand_c24 n I O m' 1 (nI m) (nI (r + 1)) else some 0 := by
      rw [f11_canStand_c24, o_1_0 hO, o_2_0 hO, hV.2.1, if_neg (nle_i (by omega) (by omega) (by omega)), eb, x_torn hn hB hV (by omega), qb, nI_1]
    rw [pre]
    by_cases z : m / 2 ^ r % 2 = 0
    · rw [z, if_pos (show nI 0 = 0 from rfl)]
      exact ih (r + 1) m' (by omega) (by omega) (fun q hq hb => by
        by_cases w : q = r
        · rw [w] at hb; omega
        · exact h q (by omega) hb)
    · have z1 : m / 2 ^ r % 2 = 1 := by omega
      rw [z1, if_neg (show ¬ nI 1 = 0 by decide)]
      by_cases t : fo (toG N r) (Ln N r) 0 0 = (0 : Int32)
      · rw [if_pos t]
        exact ih (r + 1) m' (by omega) (by omega) (fun q hq hb => by
          by_cases w : q = r
          · rw [w]; exact t
          · exact h q (by omega) hb)
      · rw [if_neg t]
        exact Or.inr ⟨fun g => t (g r (by omega) z1), rfl⟩
theorem m_s40 (hn : 100000 ≤ n) (hO : OF O) (hB : WB N) {m : Nat} (hm : m < 32) {y2 : Int32} : ∀ d r (pre : List Nat) m' J, r + d = N 0 → d < m' → pre.length ≤ r → MV J O N → LstA (J 343) pre → (∀ q, q < r → m / 2 ^ q % 2 = 1 → fo (toG N q) (Ln N q) 0 0 = (0 : Int32)) → (ClR N m ∧ ∃ J', f12_stair_c40 n O m' J 331 (nI m) y2 (nI pre.length) (nI r) = f12_stair_c100 n O n J' 331 y2 (nI (pre ++ blT m d r).length) 1000000 1 ∧ LstA (J' 343) (pre ++ blT m d r) ∧ ∀ a, a ≠ 343 → J' a = J a) ∨ (¬ ClR N m ∧ ∃ J', f12_stair_c40 n O m' J 331 (nI m) y2 (nI pre.length) (nI r) = some (-2, J') ∧ ∀ a, a ≠ 343 → J' a = J a) := by
  have b1 := hB.1
  intro d
  induction d with
  | zero =>
    intro r pre m' J hr hm' hl hM hA h
    obtain ⟨m', rfl⟩ : ∃ m'', m' = m'' + 1 := ⟨m' - 1, by omega⟩
    refine Or.inl ⟨fun q hq => h q (by omega), J, ?_, ?_, fun _ _ => rfl⟩
    · show _ = f12_stair_c100 n O n J 331 y2 (nI (pre ++ []).length) 1000000 1
      rw [List.append_nil, f12_stair_c40, hM.1, hM.2 0 (by omega), show r = N 0 by omega, if_pos (Int32.le_refl _)]
    · show LstA (J 343) (pre ++ [])
      rw [List.append_nil]; exact hA
  | succ d ih =>
    intro r pre m' J hr hm' hl hM hA h
    obtain ⟨m', rfl⟩ : ∃ m'', m' = m'' + 1 := ⟨m' - 1, by omega⟩
    have eb := bit_t (b := m) (p := r) (by omega) (by omega)
    show (ClR N m ∧ ∃ J', _ = f12_stair_c100 n O n J' 331 y2 (nI (pre ++ ((if m / 2 ^ r % 2 = 1 then [r] else []) ++ blT m d (r + 1))).length) 1000000 1 ∧ LstA (J' 343) (pre ++ ((if m / 2 ^ r % 2 = 1 then [r] else []) ++ blT m d (r + 1))) ∧ _) ∨ _
    by_cases z : m / 2 ^ r % 2 = 1
    · have eh : f12_has (nI m) (nI r) = some 1 := by
        rw [f12_has, eb, z, if_pos (show nI 1 = 1 from rfl)]
      by_cases t : fo (toG N r) (Ln N r) 0 0 = (0 : Int32)
      · rw [if_pos z, ← List.append_assoc]
        have key := ih (r + 1) (pre ++ [r]) m' (sI J 343 pre.length (nI r)) (by omega) (by omega) (by rw [List.length_append]; show pre.length + 1 ≤ r + 1; omega) ⟨hM.1, fun t ht => by rw [sI_o _ _ (by omega)]; exact hM.2 t ht⟩ (fun j hj => by
          rw [List.length_append] at hj
          have hj' : j < pre.length + 1 := hj
          by_cases w : j = pre.length
          · rw [w, gd_r, sI_s]; exact ⟨by omega, rfl⟩
          · rw [gd_l (by omega), sI_k _ _ w]; exact hA j (by omega)) (fun q hq hb => by
          by_cases w : q = r
          · rw [w]; exact t
          · exact h q (by omega) hb)
        have pr : f12_stair_c40 n O (m' + 1) J 331 (nI m) y2 (nI pre.length) (nI r) = f12_stair_c40 n O m' (sI J 343 pre.length (nI r)) 331 (nI m) y2 (nI (pre.length + 1)) (nI (r + 1)) := by
          rw [f12_stair_c40, hM.1, hM.2 0 (by omega), if_neg (nle_i (by omega) (by omega) (by omega)), eh, qb, if_neg (by decide), m_torn hn hB hM (by omega), qb, if_pos t, if_neg (nI_in (by omega) (by omega)), o_331_28 hO, qcl (by omega), qbl, nI_1, nI_1]
        rw [pr]
        rw [show (pre ++ [r]).length = pre.length + 1 by rw [List.length_append]; rfl] at key
        rcases key with ⟨k1, J', k2, k3, k4⟩ | ⟨k1, J', k2, k4⟩
        · exact Or.inl ⟨k1, J', k2, k3, fun a ha => by rw [k4 a ha, sI_o _ _ ha]⟩
        · exact Or.inr ⟨k1, J', k2, fun a ha => by rw [k4 a ha, sI_o _ _ ha]⟩
      · refine Or.inr ⟨fun g => t (g r (by omega) z), J, ?_, fun _ _ => rfl⟩
        rw [f12_stair_c40, hM.1, hM.2 0 (by omega), if_neg (nle_i (by omega) (by omega) (by omega)), eh, qb, if_neg (by decide), m_torn hn hB hM (by omega), qb, if_neg t]
    · have z0 : m / 2 ^ r % 2 = 0 := by omega
      have eh : f12_has (nI m) (nI r) = some 0 := by
        rw [f12_has, eb, z0, if_neg (show ¬ nI 0 = 1 by decide)]
      rw [if_neg z, List.nil_append]
      have pr : f12_stair_c40 n O (m' + 1) J 331 (nI m) y2 (nI pre.length) (nI r) = f12_stair_c40 n O m' J 331 (nI m) y2 (nI pre.length) (nI (r + 1)) := by
        rw [f12_stair_c40, hM.1, hM.2 0 (by omega), if_neg (nle_i (by omega) (by omega) (by omega)), eh, qb, if_pos rfl, nI_1]
      rw [pr]
      exact ih (r + 1) pre m' J (by omega) (by omega) (by omega) hM hA (fun q hq hb => by
        by_cases w : q = r
        · rw [w] at hb; omega
        · exact h q (by omega) hb)
theorem bs_mem : ∀ (ls : List (List Nat)) b z l, ls.foldl (bsU N) b = some (z, l) → l ∈ ls ∨ b = some (z, l) := by
  intro ls
  induction ls with
  | nil => intro b z l h; exact Or.inr h
  | cons x ls ih =>
    intro b z l h
    rcases ih (bsU N b x) z l h with h1 | h1
    · exact Or.inl (List.mem_cons_of_mem _ h1)
    · cases b with
      | none =>
        have h2 : some (szN N x, x) = some (z, l) := h1
        injection h2 with h3
        injection h3 with h4 h5
        exact Or.inl (by rw [← h5]; exact List.mem_cons_self)
      | some q =>
        obtain ⟨y, l0⟩ := q
        have h2 : (if y ≤ szN N x then some (y, l0) else some (szN N x, x)) = some (z, l) := h1
        by_cases w : y ≤ szN N x
        · rw [if_pos w] at h2; exact Or.inr h2
        · rw [if_neg w] at h2
          injection h2 with h3
          injection h3 with h4 h5
          exact Or.inl (by rw [← h5]; exact List.mem_cons_self)
theorem bs_some : ∀ (ls : List (List Nat)) q, ∃ q', ls.foldl (bsU N) (some q) = some q' := by
  intro ls
  induction ls with
  | nil => intro q; exact ⟨q, rfl⟩
  | cons x ls ih =>
    intro q
    obtain ⟨y, l0⟩ := q
    show ∃ q', ls.foldl (bsU N) (if y ≤ szN N x then some (y, l0) else some (szN N x, x)) = some q'
    split
    · exact ih _
    · exact ih _
theorem sh_5 : ∀ a, a < 6 → ((1 : Int32) <<< (nI a &&& 31)) = nI (2 ^ a) := by decide +kernel
theorem p2_32 {a : Nat} (h : a ≤ 5) : 2 ^ a ≤ 32 := Nat.pow_le_pow_right (n := 2) (by omega) h
theorem s_stair (hn : 100000 ≤ n) {I : TI} (h : RE tX I O) (p1 p2 : Int32) : ∃ (v : Int32) (I1 I2 : TI), f11_stair n I O 1 p1 p2 = some (v, I1) ∧ f12_stair n I1 O 331 p1 p2 = some (v, I2) ∧ RE tX I2 O := by
  have h0 := h
  obtain ⟨N, G, e, f, tp, h⟩ := h
  have hO := h.1
  have hV := RW_WV hO h.2.2.2.2.2.2.1
  have hN := h.2.2.2.1
  have hB := NB_WB hN
  have hM := h.2.1
  have hF := RW_fd h.2.2.2.2.2.2.1
  have b0 : N 0 ≤ 5 := hB.1
  have b1 : N 1 ≤ 4 := hB.2.1
  have e1 := o_1_0 hO
  have e2 := o_2_0 hO
  have m0' := hM.2 0 (by omega)
  have pl := p2_32 b0
  have pp : 1 ≤ 2 ^ N 0 := Nat.pow_pos (by omega)
  have sh : (1 : Int32) <<< (nI (N 0) &&& 31) = nI (2 ^ N 0) := sh_5 (N 0) (by omega)
  have si : f12_isIn p1 1 (((1 : Int32) <<< ((I (rO O 331 0) 0) &&& 31)) - 1) = f12_isIn p1 (nI 1) (nI (2 ^ N 0 - 1)) := by
    rw [hM.1, m0', sh, show nI (2 ^ N 0) - 1 = nI (2 ^ N 0 - 1) from qsub (b := 1) pp]; rfl
  by_cases h1 : ((1 : Nat) : Int) ≤ p1.toInt ∧ p1.toInt ≤ ((2 ^ N 0 - 1 : Nat) : Int)
  · obtain ⟨m, hm1, hm2, rfl⟩ := inB h1
    have i1 : f12_isIn (nI m) (nI 1) (nI (2 ^ N 0 - 1)) = some (nI 1) := m_inT hm1 hm2 (by omega)
    have c0 : f11_canStand n I O 1 (nI m) = f11_canStand_c24 n I O n 1 (nI m) (nI 0) := by
      rw [f11_canStand, if_neg (show ¬ nI m ≤ 0 from nle_i (b := 0) (by omega) (by omega) (by omega)), e1, e2, hV.2.1, sh, if_pos ((nI_ltI (by omega) (by omega)).mpr (by omega))]; rfl
    have pc := od_pc m (by omega)
    have xb := bc16 (b := m) (by omega)
    have mb : f12_bits n (nI m) = some (nI (pcF 16 m)) := by
      have := m_bits16 (n := n) m (by omega) n 0 (by omega)
      rw [Nat.zero_add] at this
      exact this
    have k1 : 1 ≤ pcF 16 m := by
      have := pc.2.1
      by_cases w : pcF 16 m = 0
      · have := this w; omega
      · omega
    have c24 := x_c24 hn hO hB hV (m := m) (by omega) (N 0) 0 n (by omega) (by omega) (fun q hq => by omega)
    by_cases h2 : -1 ≤ p2.toInt ∧ p2.toInt < (pcF 16 m : Int)
    · have lo : ¬ p2 < -1 := fun g => by have := i_lt.mp g; rw [lm1] at this; omega
      have hi : p2 < nI (pcF 16 m) := i_lt.mpr (by rw [qtoI (by omega)]; exact h2.2)
      rcases c24 with ⟨cl, g1⟩ | ⟨cl, g1⟩
      · obtain ⟨I1, q1, q2, q3⟩ := x_build hn hO hB hV (by omega) (cl_mk hB (by omega) cl)
        have hXF : XF I I1 := fun a ha => q2 a (by omega)
        have r1 := R0_x tXst h hXF
        have hM1 : MV I1 O N := r1.2.1
        have eb := od_bl (N 0) (by omega) m (by omega)
        have ea := od_all m (by omega)
        have er := od_run m (by omega) hm1
        have ml : (blT m 5 0).length = pcF 16 m ∧ ∀ r, r ∈ blT m 5 0 → r < 5 ∧ m / 2 ^ r % 2 = 1 := by
          refine ea (blT m 5 0) ?_
          unfold rnE at er
          cases hx : nxL (blT m 5 0) with
          | none => rw [hx] at er; injection er with e; rw [← e]; exact List.mem_cons_self
          | some l' =>
            rw [hx] at er
            have er2 : Option.map (fun ls => blT m 5 0 :: ls) (rnE 120 l') = some (dfP 5 m) := er
            cases hy : rnE 120 l' with
            | none => rw [hy] at er2; exact absurd er2 (by intro g; cases g)
            | some ls' => rw [hy] at er2; injection er2 with e; rw [← e]; exact List.mem_cons_self
        rcases m_s40 hn hO hB (m := m) (by omega) (y2 := p2) (N 0) 0 [] n I1 (by omega) (by omega) (Nat.le_refl _) hM1 (fun j hj => absurd hj (Nat.not_lt_zero _)) (fun q hq => by omega) with ⟨-, J1, u1, u2, u3⟩ | ⟨ncl, -⟩
        · rw [List.nil_append, eb] at u1 u2
          rw [ml.1] at u1
          have mk := cl_mk hB (by omega) cl
          obtain ⟨J', y4', v1, v2, v3⟩ := m_c100 hn hO hB k1 pc.1 (y2 := p2) 121 (blT m 5 0) (dfP 5 m) n J1 1000000 none er (by omega) (fun l hl => ⟨(ea l hl).1, fun r hr => (mk r ((ea l hl).2 r hr).1 ((ea l hl).2 r hr).2).1⟩) ⟨hM1.1, fun t ht => by rw [u3 332 (by omega)]; exact hM1.2 t ht⟩ u2 rfl
          have rend : RE tX J' O := ⟨N, G, e, f, tp, R0_m tXst r1 ⟨fun a g1 g2 => by rw [v3.1 a (by omega) (by omega) (by omega) (by omega)]; exact u3 a (by omega), fun k hk => by rw [v3.2 k (by omega)]; rw [u3 331 (by omega)]⟩⟩
          have hsome : ∃ q', (dfP 5 m).foldl (bsU N) none = some q' := by
            have ne := od_ne m (by omega)
            cases hd : dfP 5 m with
            | nil => exact absurd hd ne
            | cons x ls => exact bs_some ls (szN N x, x)
          obtain ⟨⟨z, l⟩, hq⟩ := hsome
          rw [hq] at q3 v2
          have q3' : I1 287 7 = nI z ∧ z ≤ 80 ∧ LstA (I1 294) l ∧ l.length ≤ 5 := q3
          have v2' : y4' = nI z ∧ z ≤ 80 ∧ LstA (J' 344) l ∧ l.length ≤ 5 := v2
          have hlen : l.length = pcF 16 m := by
            rcases bs_mem (dfP 5 m) none z l hq with g | g
            · exact (ea l g).1
            · exact absurd g (by intro w; cases w)
          have rfd : f12_stair n I1 O 331 (nI m) p2 = fin2 p2 y4' J' := by
            rw [f12_stair, hM1.1, hM1.2 0 (by omega), sh, show nI (2 ^ N 0) - 1 = nI (2 ^ N 0 - 1) from qsub (b := 1) pp, show f12_isIn (nI m) 1 (nI (2 ^ N 0 - 1)) = _ from i1, qb, if_neg (by decide), mb, qb, m_isInM (by omega) (Classical.propDecidable _), if_pos h2, qb, if_neg (by decide)]
            exact u1.trans v1
          have xfd : f11_stair n I O 1 (nI m) p2 = if p2 = (-1 : Int32) then some (nI z, I1) else (f2_stairRoll I1 O 287 p2).bind fun r14 => some (r14, I1) := by
            rw [f11_stair, c0, g1, qb, if_neg (by decide), if_neg lo, xb, qb, if_pos hi, o_1_8 hO, e1, e2, q1, qb]
            dsimp only
            rw [q3'.1]
          by_cases w : p2 = -1
          · refine ⟨nI z, I1, J', by rw [xfd, if_pos w], ?_, rend⟩
            rw [rfd, fin2, if_pos w, v2'.1]
          · obtain ⟨i, hi', rfl⟩ := inR_of (x := p2) (n := pcF 16 m) ⟨by
              have : p2.toInt ≠ -1 := fun g => w (i_eq.mpr (by rw [g, lm1]))
              omega, h2.2⟩
            have p5 := pc.1
            obtain ⟨a1, a2⟩ := q3'.2.2.1 i (by omega)
            obtain ⟨a3, a4⟩ := v2'.2.2.1 i (by omega)
            refine ⟨nI (l.getD i 0), I1, J', ?_, ?_, rend⟩
            · rw [xfd, if_neg w, f2_stairRoll, if_neg (fun g => by have := (nI_ltI (b := 0) (by omega) (by omega)).mp g; omega), if_neg (show ¬ (5 : Int32) ≤ nI i from nle_i (a := 5) (by omega) (by omega) (by omega)), if_neg (nI_in (by omega) (by omega)), o_287_6 hO, qcl (by omega), a2, qb]
            · rw [rfd, fin2, if_neg w, if_neg (nI_in (by omega) (by omega)), qcl (by omega), a4]
        · exact absurd cl ncl
      · rcases m_s40 hn hO hB (m := m) (by omega) (y2 := p2) (N 0) 0 [] n I (by omega) (by omega) (Nat.le_refl _) hM (fun j hj => absurd hj (Nat.not_lt_zero _)) (fun q hq => by omega) with ⟨ncl, -⟩ | ⟨-, J1, u1, u3⟩
        · exact absurd ncl cl
        · refine ⟨-2, I, J1, ?_, ?_, N, G, e, f, tp, R0_m tXst h ⟨fun a g1 g2 => u3 a (by omega), fun k hk => by rw [u3 331 (by omega)]⟩⟩
          · rw [f11_stair, c0, g1, qb, if_pos rfl]
          · rw [f12_stair, si, i1, qb, if_neg (by decide), mb, qb, m_isInM (by omega) (Classical.propDecidable _), if_pos h2, qb, if_neg (by decide)]
            exact u1
    · refine ⟨-2, I, I, ?_, ?_, h0⟩
      · rw [f11_stair, c0]
        rcases c24 with ⟨cl, g1⟩ | ⟨cl, g1⟩
        · rw [g1, qb, if_neg (by decide)]
          by_cases lo : p2 < -1
          · rw [if_pos lo]
          · rw [if_neg lo, xb, qb, if_neg (fun g => by
              have g' := i_lt.mp g
              rw [qtoI (by omega)] at g'
              have lo' : ¬ p2.toInt < -1 := fun q => lo (i_lt.mpr (by rw [lm1]; exact q))
              exact h2 ⟨by omega, g'⟩)]
        · rw [g1, qb, if_pos rfl]
      · rw [f12_stair, si, i1, qb, if_neg (by decide), mb, qb, m_isInM (by omega) (Classical.propDecidable _), if_neg h2, qb, if_pos rfl]
  · refine ⟨-2, I, I, ?_, ?_, h0⟩
    · have c0 : f11_canStand n I O 1 p1 = some 0 := by
        rw [f11_canStand]
        by_cases w : p1 ≤ 0
        · rw [if_pos w]
        · rw [if_neg w, e1, e2, hV.2.1, sh, if_neg (fun g => by
            have g' := i_lt.mp g
            rw [qtoI (by omega)] at g'
            have w' : ¬ p1.toInt ≤ 0 := fun q => w (i_le.mpr (by rw [l0]; exact q))
            exact h1 ⟨by omega, by omega⟩)]
      rw [f11_stair, c0, qb, if_pos rfl]
    · rw [f12_stair, si, m_inF h1 (by omega) (by omega), qb, if_pos (show nI 0 = 0 from rfl)]
end RS
