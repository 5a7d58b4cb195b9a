/-! the plain machine's memory: fields, arrays, making, calls -/
theorem pWs_at {g : pG} {w : pW} {i : Nat} {q : Nat × va_E} (h : (pWs g w)[i]? = some q) : q.1 = gz g + i ∧ i + 1 < w.1.length ∧ q.2 = pE g w (i + 1) (w.1.getD (i + 1) (0, 0)) := by
  unfold pWs at h
  rw [List.getElem?_map] at h
  by_cases hi : i < w.1.length - 1
  · rw [List.getElem?_range hi] at h
    cases h
    exact ⟨rfl, by omega, rfl⟩
  · rw [List.getElem?_eq_none (by simp; omega)] at h
    cases h
theorem pWs_get {g : pG} {w : pW} {a : Nat} {kn : Nat × Nat} (h : w.1[a + 1]? = some kn) : (pWs g w)[a]? = some (gz g + a, pE g w (a + 1) kn) := by
  have hl : a + 1 < w.1.length := (List.getElem?_eq_some_iff.mp h).1
  unfold pWs
  rw [List.getElem?_map, List.getElem?_range (by omega)]
  simp [List.getD, h]
theorem pWs_none {g : pG} {w : pW} {i : Nat} (h : w.1.length ≤ i + 1) : (pWs g w)[i]? = none := by
  unfold pWs
  rw [List.getElem?_map, List.getElem?_eq_none (by simp; omega)]
  rfl
theorem pWs_set {g : pG} {w w' : pW} {a : Nat} {kn : Nat × Nat} {e : va_E} (hZ : w'.1 = w.1) (h : w.1[a + 1]? = some kn) (he : pE g w' (a + 1) kn = e) (ho : ∀ j, j ≠ a + 1 → ∀ q, pE g w' j q = pE g w j q) : (pWs g w).set a (gz g + a, e) = pWs g w' := by
  have hl : a + 1 < w.1.length := (List.getElem?_eq_some_iff.mp h).1
  subst he
  apply List.ext_getElem?
  intro i
  rw [List.getElem?_set]
  by_cases hi : a = i
  · subst hi
    rw [if_pos rfl, if_pos (by unfold pWs; simp; omega)]
    exact (pWs_get (w := w') (by rw [hZ]; exact h)).symm
  · rw [if_neg hi]
    by_cases hb : i + 1 < w.1.length
    · obtain ⟨q, hq⟩ : ∃ q, w.1[i + 1]? = some q := ⟨_, List.getElem?_eq_getElem hb⟩
      rw [pWs_get hq, pWs_get (w := w') (by rw [hZ]; exact hq), ho (i + 1) (by omega)]
    · rw [pWs_none (by omega), pWs_none (by rw [hZ]; omega)]
theorem pWs_D (g : pG) (w : pW) : va_D (pA g) (pWs g w) := by
  refine ⟨fun i j p q hi hj e => ?_, fun k q hk => ?_⟩
  · have h1 := (pWs_at hi).1
    have h2 := (pWs_at hj).1
    omega
  · have h1 := (pWs_at hk).1
    show gz g ≤ q.1
    omega
theorem pad_s {g : pG} {a : Nat} (h : a + 1 < 1000000) : pad g (a + 1) = gz g + a := by
  unfold pad
  rw [if_neg (by omega), if_neg (by omega)]
  rfl
theorem pH_pos {g : pG} {w : pW} {H : Heap} (h : pH g w H) {a k n : Nat} (hz : w.1[a]? = some (k, n)) (hk : k < 18) : ∃ j, a = j + 1 ∧ j + 1 < w.1.length := by
  cases a with
  | zero =>
    rw [h.2.2.1] at hz
    cases hz
    omega
  | succ j => exact ⟨j, rfl, (List.getElem?_eq_some_iff.mp hz).1⟩
theorem range_set {α : Type} {f h : Nat → α} {n k : Nat} {v : α} (hk : h k = v) (ho : ∀ j, j ≠ k → h j = f j) : ((List.range n).map f).set k v = (List.range n).map h := by
  apply List.ext_getElem?
  intro i
  rw [List.getElem?_set]
  by_cases hi : k = i
  · subst hi
    by_cases hl : k < n
    · simp [List.getElem?_range, hl, hk]
    · simp [hl]
  · rw [if_neg hi]
    by_cases hl : i < n
    · simp [List.getElem?_range, hl, ho i (fun e => hi e.symm)]
    · simp [hl]
def pdf (n : Nat) : Value := match n with
  | 0 => .int 0
  | 1 => .long 0
  | _ => .null
theorem ptv_df (g : pG) (n : Nat) : ptv g (pdf n) = pdf n := by
  unfold pdf
  split <;> rfl
def clOK (ci : Nat) (q : vw_C) : Prop := ((∀ w ∈ u_ws q.1 q.2.1 q.2.2, w ∈ lw_tbl) ∧ (u_ws q.1 q.2.1 q.2.2).all goodWord = true) ∧ (∀ k, k < q.2.2 → parseFieldDescriptor (q.2.1 k).2.2.1 = some (tyT ci k)) ∧ (∀ a, a < q.2.2 → ∀ b, b < q.2.2 → a ≠ b → (q.2.1 a).2.1 ≠ (q.2.1 b).2.1) ∧ (∀ k, k < q.2.2 → defaultValue (tyT ci k) = pdf (fK (tyT ci k))) ∧ (∀ k, k < q.2.2 → (q.2.1 k).1 = q.1) ∧ Cond.instantiable q.1 q.2.2 ∈ lw_tbl ∧ Cond.initialized q.1 ∈ lw_tbl
theorem clOK0 : clOK 0 (RX0, TX0, 3) := ⟨⟨by decide +kernel, by decide +kernel⟩, tyX0_ok, nmX0, by decide +kernel, by decide +kernel, by decide +kernel, by decide +kernel⟩
theorem clOK1 : clOK 1 (RX1, TX1, 3) := ⟨⟨by decide +kernel, by decide +kernel⟩, tyX1_ok, nmX1, by decide +kernel, by decide +kernel, by decide +kernel, by decide +kernel⟩
theorem clOK2 : clOK 2 (RX2, TX2, 10) := ⟨⟨by decide +kernel, by decide +kernel⟩, tyX2_ok, nmX2, by decide +kernel, by decide +kernel, by decide +kernel, by decide +kernel⟩
theorem clOK3 : clOK 3 (RX3, TX3, 6) := ⟨⟨by decide +kernel, by decide +kernel⟩, tyX3_ok, nmX3, by decide +kernel, by decide +kernel, by decide +kernel, by decide +kernel⟩
theorem clOK4 : clOK 4 (RX4, TX4, 1) := ⟨⟨by decide +kernel, by decide +kernel⟩, tyX4_ok, nmX4, by decide +kernel, by decide +kernel, by decide +kernel, by decide +kernel⟩
theorem clOK5 : clOK 5 (RX5, TX5, 8) := ⟨⟨by decide +kernel, by decide +kernel⟩, tyX5_ok, nmX5, by decide +kernel, by decide +kernel, by decide +kernel, by decide +kernel⟩
theorem clOK6 : clOK 6 (RX6, TX6, 5) := ⟨⟨by decide +kernel, by decide +kernel⟩, tyX6_ok, nmX6, by decide +kernel, by decide +kernel, by decide +kernel, by decide +kernel⟩
theorem clOK7 : clOK 7 (RX7, TX7, 7) := ⟨⟨by decide +kernel, by decide +kernel⟩, tyX7_ok, nmX7, by decide +kernel, by decide +kernel, by decide +kernel, by decide +kernel⟩
theorem clOK8 : clOK 8 (RX8, TX8, 6) := ⟨⟨by decide +kernel, by decide +kernel⟩, tyX8_ok, nmX8, by decide +kernel, by decide +kernel, by decide +kernel, by decide +kernel⟩
theorem clOK9 : clOK 9 (RX9, TX9, 10) := ⟨⟨by decide +kernel, by decide +kernel⟩, tyX9_ok, nmX9, by decide +kernel, by decide +kernel, by decide +kernel, by decide +kernel⟩
theorem clOK10 : clOK 10 (RX10, TX10, 5) := ⟨⟨by decide +kernel, by decide +kernel⟩, tyX10_ok, nmX10, by decide +kernel, by decide +kernel, by decide +kernel, by decide +kernel⟩
theorem clOK11 : clOK 11 (RX11, TX11, 11) := ⟨⟨by decide +kernel, by decide +kernel⟩, tyX11_ok, nmX11, by decide +kernel, by decide +kernel, by decide +kernel, by decide +kernel⟩
theorem clOK12 : clOK 12 (RX12, TX12, 34) := ⟨⟨by decide +kernel, by decide +kernel⟩, tyX12_ok, nmX12, by decide +kernel, by decide +kernel, by decide +kernel, by decide +kernel⟩
theorem cl_ok : ∀ (ci : Nat) (q : vw_C), vwCl[ci]? = some q → clOK ci q := by
  intro ci q h
  match ci, h with
  | 0, h => cases h; exact clOK0
  | 1, h => cases h; exact clOK1
  | 2, h => cases h; exact clOK2
  | 3, h => cases h; exact clOK3
  | 4, h => cases h; exact clOK4
  | 5, h => cases h; exact clOK5
  | 6, h => cases h; exact clOK6
  | 7, h => cases h; exact clOK7
  | 8, h => cases h; exact clOK8
  | 9, h => cases h; exact clOK9
  | 10, h => cases h; exact clOK10
  | 11, h => cases h; exact clOK11
  | 12, h => cases h; exact clOK12
  | k + 13, h => simp [vwCl] at h
