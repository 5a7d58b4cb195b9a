/-! the stair: orders -/
theorem gd_set {l : List Nat} {i j v : Nat} (h : i < l.length) : (l.set i v).getD j 0 = if j = i then v else l.getD j 0 := by
  rw [List.getD_eq_getElem?_getD, List.getD_eq_getElem?_getD, List.getElem?_set]
  by_cases z : i = j
  · subst z; rw [if_pos rfl, if_pos h, if_pos rfl]; rfl
  · rw [if_neg z, if_neg (fun g => z g.symm)]
def nxI (l : List Nat) : Nat → Option Nat
  | 0 => none
  | i + 1 => if l.getD i 0 ≤ l.getD (i + 1) 0 then some i else nxI l i
def nxK (l : List Nat) (v : Nat) : Nat → Nat
  | 0 => 0
  | k + 1 => if v ≤ l.getD k 0 then k else nxK l v k
def swL (l : List Nat) (i k : Nat) : List Nat := (l.set i (l.getD k 0)).set k (l.getD i 0)
def rvL : Nat → List Nat → Nat → Nat → List Nat
  | 0, l, _, _ => l
  | d + 1, l, p, q => if q ≤ p then l else rvL d (swL l p q) (p + 1) (q - 1)
def nxL (l : List Nat) : Option (List Nat) := match nxI l (l.length - 1) with
  | none => none
  | some i => some (rvL 6 (swL l i (nxK l (l.getD i 0) l.length)) (i + 1) (l.length - 1))
def rnE : Nat → List Nat → Option (List (List Nat))
  | 0, _ => none
  | f + 1, l => match nxL l with
    | none => some [l]
    | some l' => (rnE f l').map (fun ls => l :: ls)
def dfT (g : Nat → List (List Nat)) (m : Nat) : Nat → Nat → List (List Nat)
  | 0, _ => []
  | d + 1, r => (if m / 2 ^ r % 2 = 1 then (g (m - 2 ^ r)).map (fun l => r :: l) else []) ++ dfT g m d (r + 1)
def dfP : Nat → Nat → List (List Nat)
  | 0, _ => [[]]
  | f + 1, m => if m = 0 then [[]] else dfT (dfP f) m 5 0
def blT (m : Nat) : Nat → Nat → List Nat
  | 0, _ => []
  | d + 1, r => (if m / 2 ^ r % 2 = 1 then [r] else []) ++ blT m d (r + 1)
theorem od_run : ∀ m, m < 32 → 1 ≤ m → rnE 121 (blT m 5 0) = some (dfP 5 m) := by decide +kernel
theorem od_all : ∀ m, m < 32 → ∀ l, l ∈ dfP 5 m → l.length = pcF 16 m ∧ ∀ r, r ∈ l → r < 5 ∧ m / 2 ^ r % 2 = 1 := by decide +kernel
theorem od_ne : ∀ m, m < 32 → dfP 5 m ≠ [] := by decide +kernel
theorem od_bl : ∀ a, a < 6 → ∀ m, m < 2 ^ a → blT m a 0 = blT m 5 0 := by decide +kernel
theorem od_pc : ∀ m, m < 32 → pcF 16 m ≤ 5 ∧ (pcF 16 m = 0 → m = 0) ∧ ∀ r, r < 5 → m / 2 ^ r % 2 = 1 → m - 2 ^ r < 32 ∧ pcF 16 (m - 2 ^ r) + 1 = pcF 16 m ∧ ∀ q, q < 5 → (m - 2 ^ r) / 2 ^ q % 2 = 1 → m / 2 ^ q % 2 = 1 := by decide +kernel
theorem od_an : ∀ m, m < 32 → ∀ r, r < 5 → m / 2 ^ r % 2 = 1 → nI m &&& (((1 : Int32) <<< (nI r &&& 31)) ^^^ (-1)) = nI (m - 2 ^ r) := by decide +kernel
def LstA (A : Nat → Int32) (l : List Nat) : Prop := ∀ j, j < l.length → l.getD j 0 < 5 ∧ A j = nI (l.getD j 0)
section OD
variable {n : Nat} {J : TI} {O : TO}
theorem swL_len (l : List Nat) (i k : Nat) : (swL l i k).length = l.length := by
  unfold swL; rw [List.length_set, List.length_set]
theorem m_swap (hO : OF O) {l : List Nat} (hl : l.length ≤ 5) (hA : LstA (J 343) l) {i k : Nat} (hi : i < l.length) (hk : k < l.length) : ∃ J', f12_swap J O 331 (nI i) (nI k) = some J' ∧ LstA (J' 343) (swL l i k) ∧ ∀ a, a ≠ 343 → J' a = J a := by
  obtain ⟨i1, i2⟩ := hA i hi
  obtain ⟨k1, k2⟩ := hA k hk
  refine ⟨sI (sI J 343 i (J 343 k)) 343 k (J 343 i), ?_, fun j hj => ?_, fun a ha => by rw [sI_o _ _ ha, sI_o _ _ ha]⟩
  · have ni : ¬ (nI i < 0 ∨ 5 ≤ (nI i).toNatClampNeg) := nI_in (by omega) (by omega)
    have nk : ¬ (nI k < 0 ∨ 5 ≤ (nI k).toNatClampNeg) := nI_in (by omega) (by omega)
    rw [f12_swap, if_neg ni, qbl, if_neg nk, if_neg ni, qbl, if_neg nk, qbl, o_331_28 hO, qcl (by omega), qcl (by omega)]
  · rw [swL_len] at hj
    unfold swL
    rw [gd_set (by rw [List.length_set]; exact hk), gd_set hi]
    by_cases z : j = k
    · rw [if_pos z, z, sI_s]; exact ⟨i1, i2⟩
    · rw [if_neg z, sI_k _ _ z]
      by_cases w : j = i
      · rw [if_pos w, w, sI_s]; exact ⟨k1, k2⟩
      · rw [if_neg w, sI_k _ _ w]; exact hA j hj
theorem m_c78 (hO : OF O) : ∀ d (l : List Nat) p q m' J, p ≤ 5 → q < p + d → l.length ≤ 5 → q < l.length → d < m' → LstA (J 343) l → ∃ J', f12_isNextOrder_c78 n O m' J 331 (nI q) (nI p) = some (1, J') ∧ LstA (J' 343) (rvL d l p q) ∧ (rvL d l p q).length = l.length ∧ ∀ a, a ≠ 343 → J' a = J a := by
  intro d
  induction d with
  | zero =>
    intro l p q m' J hp h hl hq hm' hA
    obtain ⟨m', rfl⟩ : ∃ m'', m' = m'' + 1 := ⟨m' - 1, by omega⟩
    refine ⟨J, ?_, hA, rfl, fun _ _ => rfl⟩
    rw [f12_isNextOrder_c78, if_pos ((nI_leI (by omega) (by omega)).mpr (by omega))]
  | succ d ih =>
    intro l p q m' J hp h hl hq hm' hA
    obtain ⟨m', rfl⟩ : ∃ m'', m' = m'' + 1 := ⟨m' - 1, by omega⟩
    show ∃ J' : TI, _ ∧ LstA (J' 343) (if q ≤ p then l else rvL d (swL l p q) (p + 1) (q - 1)) ∧ (if q ≤ p then l else rvL d (swL l p q) (p + 1) (q - 1)).length = l.length ∧ _
    by_cases z : q ≤ p
    · rw [if_pos z]
      refine ⟨J, ?_, hA, rfl, fun _ _ => rfl⟩
      rw [f12_isNextOrder_c78, if_pos ((nI_leI (by omega) (by omega)).mpr z)]
    · rw [if_neg z]
      obtain ⟨J1, s1, s2, s3⟩ := m_swap hO hl hA (i := p) (k := q) (by omega) hq
      obtain ⟨q', rfl⟩ : ∃ q', q = q' + 1 := ⟨q - 1, by omega⟩
      obtain ⟨J', c1, c2, c3, c4⟩ := ih (swL l p (q' + 1)) (p + 1) q' m' J1 (by omega) (by omega) (by rw [swL_len]; exact hl) (by rw [swL_len]; omega) (by omega) s2
      refine ⟨J', ?_, c2, by rw [show q' + 1 - 1 = q' from rfl, c3, swL_len], fun a ha => by rw [c4 a ha, s3 a ha]⟩
      rw [f12_isNextOrder_c78, if_neg (nle_i (by omega) (by omega) (by omega)), s1, qb, nI_pr, nI_1, c1]
theorem m_c41 (hO : OF O) (hn : 100000 ≤ n) {l : List Nat} (hl : l.length ≤ 5) (hA : LstA (J 343) l) {i : Nat} (hi : i + 1 < l.length) (hv : l.getD i 0 ≤ l.getD (i + 1) 0) : ∀ d k m', i + 1 + d = k → k < l.length → d < m' → ∃ J', f12_isNextOrder_c41 n O m' J 331 (nI l.length) (nI i) (nI k) = some (1, J') ∧ LstA (J' 343) (rvL 6 (swL l i (nxK l (l.getD i 0) (k + 1))) (i + 1) (l.length - 1)) ∧ (rvL 6 (swL l i (nxK l (l.getD i 0) (k + 1))) (i + 1) (l.length - 1)).length = l.length ∧ ∀ a, a ≠ 343 → J' a = J a := by
  obtain ⟨i1, i2⟩ := hA i (by omega)
  intro d
  induction d with
  | zero =>
    intro k m' hk hk2 hm'
    obtain ⟨m', rfl⟩ : ∃ m'', m' = m'' + 1 := ⟨m' - 1, by omega⟩
    obtain ⟨k1, k2⟩ := hA k hk2
    have e : nxK l (l.getD i 0) (k + 1) = k := by
      show (if l.getD i 0 ≤ l.getD k 0 then k else _) = k
      rw [if_pos (by rw [← hk]; exact hv)]
    rw [e]
    obtain ⟨J1, s1, s2, s3⟩ := m_swap hO hl hA (i := i) (k := k) (by omega) hk2
    obtain ⟨J', c1, c2, c3, c4⟩ := m_c78 (n := n) hO 6 (swL l i k) (i + 1) (l.length - 1) n J1 (by omega) (by omega) (by rw [swL_len]; exact hl) (by rw [swL_len]; omega) (by omega) s2
    refine ⟨J', ?_, c2, by rw [c3, swL_len], fun a ha => by rw [c4 a ha, s3 a ha]⟩
    rw [f12_isNextOrder_c41, if_neg (nI_in (by omega) (by omega)), if_neg (nI_in (by omega) (by omega)), o_331_28 hO, qcl (by omega), qcl (by omega), i2, k2, if_pos ((nI_leI (by omega) (by omega)).mpr (by rw [← hk]; exact hv)), s1, qb, show nI l.length - 1 = nI (l.length - 1) from qsub (b := 1) (by omega), nI_1, c1]
  | succ d ih =>
    intro k m' hk hk2 hm'
    obtain ⟨m', rfl⟩ : ∃ m'', m' = m'' + 1 := ⟨m' - 1, by omega⟩
    obtain ⟨k1, k2⟩ := hA k hk2
    by_cases z : l.getD i 0 ≤ l.getD k 0
    · have e : nxK l (l.getD i 0) (k + 1) = k := by
        show (if l.getD i 0 ≤ l.getD k 0 then k else _) = k
        rw [if_pos z]
      rw [e]
      obtain ⟨J1, s1, s2, s3⟩ := m_swap hO hl hA (i := i) (k := k) (by omega) hk2
      obtain ⟨J', c1, c2, c3, c4⟩ := m_c78 (n := n) hO 6 (swL l i k) (i + 1) (l.length - 1) n J1 (by omega) (by omega) (by rw [swL_len]; exact hl) (by rw [swL_len]; omega) (by omega) s2
      refine ⟨J', ?_, c2, by rw [c3, swL_len], fun a ha => by rw [c4 a ha, s3 a ha]⟩
      rw [f12_isNextOrder_c41, if_neg (nI_in (by omega) (by omega)), if_neg (nI_in (by omega) (by omega)), o_331_28 hO, qcl (by omega), qcl (by omega), i2, k2, if_pos ((nI_leI (by omega) (by omega)).mpr z), s1, qb, show nI l.length - 1 = nI (l.length - 1) from qsub (b := 1) (by omega), nI_1, c1]
    · obtain ⟨k', rfl⟩ : ∃ k', k = k' + 1 := ⟨k - 1, by omega⟩
      have e : nxK l (l.getD i 0) (k' + 1 + 1) = nxK l (l.getD i 0) (k' + 1) := by
        show (if l.getD i 0 ≤ l.getD (k' + 1) 0 then k' + 1 else _) = _
        rw [if_neg z]
      rw [e]
      obtain ⟨J', c1, c2⟩ := ih k' m' (by omega) (by omega) (by omega)
      refine ⟨J', ?_, c2⟩
      rw [f12_isNextOrder_c41, if_neg (nI_in (by omega) (by omega)), if_neg (nI_in (by omega) (by omega)), o_331_28 hO, qcl (by omega), qcl (by omega), i2, k2, if_neg (nle_i (by omega) (by omega) (by omega)), nI_pr, c1]
theorem m_c4 (hO : OF O) (hn : 100000 ≤ n) {l : List Nat} (hl : l.length ≤ 5) (hA : LstA (J 343) l) : ∀ i m', i < l.length → i < m' → (nxI l i = none ∧ f12_isNextOrder_c4 n O m' J 331 (nI l.length) (nI i + (-1)) = some (0, J)) ∨ (∃ i' J', nxI l i = some i' ∧ f12_isNextOrder_c4 n O m' J 331 (nI l.length) (nI i + (-1)) = some (1, J') ∧ LstA (J' 343) (rvL 6 (swL l i' (nxK l (l.getD i' 0) l.length)) (i' + 1) (l.length - 1)) ∧ (rvL 6 (swL l i' (nxK l (l.getD i' 0) l.length)) (i' + 1) (l.length - 1)).length = l.length ∧ ∀ a, a ≠ 343 → J' a = J a) := by
  intro i
  induction i with
  | zero =>
    intro m' hi hm'
    obtain ⟨m', rfl⟩ : ∃ m'', m' = m'' + 1 := ⟨m' - 1, by omega⟩
    refine Or.inl ⟨rfl, ?_⟩
    rw [f12_isNextOrder_c4, if_pos (show nI 0 + (-1) < 0 by decide), if_neg (show ¬ 0 ≤ nI 0 + (-1) by decide)]
  | succ i ih =>
    intro m' hi hm'
    obtain ⟨m', rfl⟩ : ∃ m'', m' = m'' + 1 := ⟨m' - 1, by omega⟩
    obtain ⟨i1, i2⟩ := hA i (by omega)
    obtain ⟨k1, k2⟩ := hA (i + 1) hi
    have pre : f12_isNextOrder_c4 n O (m' + 1) J 331 (nI l.length) (nI (i + 1) + (-1)) = if nI (l.getD i 0) ≤ nI (l.getD (i + 1) 0) then f12_isNextOrder_c41 n O n J 331 (nI l.length) (nI i) (nI (l.length - 1)) else f12_isNextOrder_c4 n O m' J 331 (nI l.length) (nI i + (-1)) := by
      rw [f12_isNextOrder_c4, nI_pr, if_neg (fun g => by have := (nI_ltI (b := 0) (by omega) (by omega)).mp g; omega), if_neg (nI_in (by omega) (by omega)), nI_1, if_neg (nI_in (by omega) (by omega)), o_331_28 hO, qcl (by omega), qcl (by omega), i2, k2, if_pos (show (0 : Int32) ≤ nI i from (nI_leI (a := 0) (by omega) (by omega)).mpr (Nat.zero_le _)), show nI l.length - 1 = nI (l.length - 1) from qsub (b := 1) (by omega)]
    rw [pre]
    show ((if l.getD i 0 ≤ l.getD (i + 1) 0 then some i else nxI l i) = none ∧ _) ∨ (∃ i' J', (if l.getD i 0 ≤ l.getD (i + 1) 0 then some i else nxI l i) = some i' ∧ _)
    by_cases z : l.getD i 0 ≤ l.getD (i + 1) 0
    · rw [if_pos ((nI_leI (by omega) (by omega)).mpr z), if_pos z]
      obtain ⟨J', c1, c2⟩ := m_c41 hO hn hl hA hi z (l.length - 1 - (i + 1)) (l.length - 1) n (by omega) (by omega) (by omega)
      rw [show l.length - 1 + 1 = l.length by omega] at c2
      exact Or.inr ⟨i, J', rfl, c1, c2⟩
    · rw [if_neg (nle_i (by omega) (by omega) (by omega)), if_neg z]
      exact ih m' (by omega) (by omega)
theorem m_next (hO : OF O) (hn : 100000 ≤ n) {l : List Nat} (h1 : 1 ≤ l.length) (hl : l.length ≤ 5) (hA : LstA (J 343) l) : (nxL l = none ∧ f12_isNextOrder n J O 331 (nI l.length) = some (0, J)) ∨ (∃ l' J', nxL l = some l' ∧ f12_isNextOrder n J O 331 (nI l.length) = some (1, J') ∧ LstA (J' 343) l' ∧ l'.length = l.length ∧ ∀ a, a ≠ 343 → J' a = J a) := by
  have e : nI l.length - 2 = nI (l.length - 1) + (-1) := by
    generalize l.length = k at h1
    obtain ⟨j, rfl⟩ : ∃ j, k = j + 1 := ⟨k - 1, by omega⟩
    rw [show j + 1 - 1 = j from rfl, ← qadd j 1, Int32.sub_eq_add_neg, Int32.add_assoc, show nI 1 + -2 = (-1 : Int32) by decide]
  unfold f12_isNextOrder nxL
  rw [e]
  rcases m_c4 hO hn hl hA (l.length - 1) n (by omega) (by omega) with ⟨a1, a2⟩ | ⟨i', J', a1, a2, a3, a4, a5⟩
  · left
    rw [a1]; exact ⟨rfl, a2⟩
  · right
    rw [a1]
    exact ⟨_, J', rfl, a2, a3, a4, a5⟩
end OD
