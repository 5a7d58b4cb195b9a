/-! the stair: the class's search -/
def z0S : TN × Nat := (fun _ => 0, 0)
noncomputable def szN (N : TN) (l : List Nat) : Nat := (stL N z0S l).2
noncomputable def bsU (N : TN) (b : Option (Nat × List Nat)) (l : List Nat) : Option (Nat × List Nat) := match b with
  | none => some (szN N l, l)
  | some (z, l0) => if z ≤ szN N l then some (z, l0) else some (szN N l, l)
def CbI (I : TI) (b : Option (Nat × List Nat)) : Prop := match b with
  | none => I 287 7 = -1
  | some (z, l) => I 287 7 = nI z ∧ z ≤ 80 ∧ LstA (I 294) l ∧ l.length ≤ 5
def DvI (N : TN) (I0 I : TI) (pre : List Nat) (b : Option (Nat × List Nat)) : Prop := (∀ a, (a < 287 ∨ 295 ≤ a) → I a = I0 a) ∧ RowA (I 292) (stL N z0S pre) ∧ LstA (I 293) pre ∧ CbI I b
theorem stL_s (N : TN) (s : TN × Nat) (l : List Nat) (r : Nat) : stL N s (l ++ [r]) = lyS N (stL N s l) r := by
  unfold stL
  rw [List.foldl_append]; rfl
theorem ly_keep {N : TN} {s : TN × Nat} {r p : Nat} (hp : p < s.2) : (lyS N s r).1 p = s.1 p := by
  obtain ⟨f, h1, h3, h2⟩ := leastP (ovP s.1 s.2 (K N r) (Ln N r)) s.2 (ov_end _ _ _ _)
  rw [ly_eq h1 h2 h3]
  show (if f ≤ p ∧ p < f + Ln N r then K N r (p - f) else s.1 p) = s.1 p
  by_cases w : f ≤ p ∧ p < f + Ln N r
  · have := h3 (p - f) (by omega) (by omega)
    rw [if_pos w, ← this, show f + (p - f) = p by omega]
  · rw [if_neg w]
theorem RowA_w {N : TN} (hB : WB N) {A : Nat → Int32} {s : TN × Nat} {r : Nat} (hr : r < 5) (h : RowA A (lyS N s r)) : RowA A s := by
  intro p hp
  have := h p (Nat.lt_of_lt_of_le hp (ly_len hB hr).1)
  rw [ly_keep hp] at this
  exact this
theorem gd_l {l : List Nat} {r j : Nat} (h : j < l.length) : (l ++ [r]).getD j 0 = l.getD j 0 := by
  rw [List.getD_eq_getElem?_getD, List.getD_eq_getElem?_getD, List.getElem?_append_left h]
theorem gd_r {l : List Nat} {r : Nat} : (l ++ [r]).getD l.length 0 = r := by
  rw [List.getD_eq_getElem?_getD, List.getElem?_append_right (Nat.le_refl _), Nat.sub_self]; rfl
theorem LstA_w {A : Nat → Int32} {l : List Nat} {r : Nat} (h : LstA A (l ++ [r])) : LstA A l := by
  intro j hj
  have := h j (by rw [List.length_append]; omega)
  rw [gd_l hj] at this
  exact this
theorem sz_le {N : TN} (hB : WB N) {l : List Nat} (h : ∀ r, r ∈ l → r < 5) (hl : l.length ≤ 5) : szN N l ≤ 80 := by
  have := stL_len hB l z0S h
  have e : z0S.2 = 0 := rfl
  unfold szN
  omega
section DF
variable {n : Nat} {O : TO} {N : TN} {I0 : TI}
theorem x_c9 (hO : OF O) (hB : WB N) {I : TI} {pre : List Nat} {b : Option (Nat × List Nat)} {rec : TI → Nat → Nat → Int32 → Int32 → Int32 → Option TI} (h5 : ∀ r, r ∈ pre → r < 5) (hl : pre.length ≤ 5) (h : DvI N I0 I pre b) : ∃ I', f2_layRest_c9 n O rec I 287 (nI (szN N pre)) = some I' ∧ DvI N I0 I' pre (bsU N b pre) := by
  have hz := sz_le hB h5 hl
  obtain ⟨d1, d2, d3, d4⟩ := h
  have put : ∃ I', f2_layRest_c26 n O rec I 287 (nI (szN N pre)) = some I' ∧ DvI N I0 I' pre (some (szN N pre, pre)) := by
    refine ⟨cpI (sI I 287 7 (nI (szN N pre))) 293 294 0 0 5, by rw [f2_layRest_c26, qbl, o_287_5 hO, o_287_6 hO, qbl], ?_⟩
    have fr : ∀ a, a ≠ 287 → a ≠ 294 → cpI (sI I 287 7 (nI (szN N pre))) 293 294 0 0 5 a = I a := fun a h1 h2 => by
      unfold cpI va_up
      rw [if_neg h2, sI_o _ _ h1]
    refine ⟨fun a ha => by rw [fr a (by omega) (by omega)]; exact d1 a ha, by rw [fr 292 (by omega) (by omega)]; exact d2, by rw [fr 293 (by omega) (by omega)]; exact d3, ?_, hz, ?_, hl⟩
    · unfold cpI va_up
      rw [if_neg (by omega), sI_s]
    · intro j hj
      obtain ⟨e1, e2⟩ := d3 j hj
      refine ⟨e1, ?_⟩
      rw [← e2]
      unfold cpI va_up
      rw [if_pos rfl]
      unfold va_cpy
      rw [sI_o _ _ (by omega)]
      simp only [Nat.zero_add, Nat.sub_zero, Nat.zero_le, true_and]
      rw [if_pos (by omega)]
  unfold f2_layRest_c9
  cases b with
  | none =>
    have d4' : I 287 7 = -1 := d4
    rw [if_pos d4']; exact put
  | some q =>
    obtain ⟨z, l0⟩ := q
    have d4' : I 287 7 = nI z ∧ z ≤ 80 ∧ LstA (I 294) l0 ∧ l0.length ≤ 5 := d4
    rw [d4'.1, if_neg (nI_nm (by omega))]
    show ∃ I', _ ∧ DvI N I0 I' pre (if z ≤ szN N pre then some (z, l0) else some (szN N pre, pre))
    by_cases w : z ≤ szN N pre
    · rw [if_pos ((nI_leI (by omega) (by omega)).mpr w), if_pos w]
      exact ⟨I, rfl, d1, d2, d3, d4⟩
    · rw [if_neg (nle_i (by omega) (by omega) (by omega)), if_neg w]; exact put
def MkO (N : TN) (m : Nat) : Prop := ∀ r, r < 5 → m / 2 ^ r % 2 = 1 → r < N 0 ∧ ∀ p, p < Ln N r → tornB N r p = false
theorem x_d50 (hn : 100000 ≤ n) (hO : OF O) (hB : WB N) (hV : WV I0 O 3 4 5 6 7 8 N) {m f : Nat} {pre : List Nat} {rec : TI → Nat → Nat → Int32 → Int32 → Int32 → Option TI} (hm : m < 32) (hk : MkO N m) (h5 : ∀ r, r ∈ pre → r < 5) (hl : pre.length < 5) (hrec : ∀ r I b, r < 5 → m / 2 ^ r % 2 = 1 → DvI N I0 I (pre ++ [r]) b → ∃ I', rec I 287 3 (nI (m - 2 ^ r)) (nI (pre.length + 1)) (nI (szN N (pre ++ [r]))) = some I' ∧ DvI N I0 I' (pre ++ [r]) (((dfP f (m - 2 ^ r)).map (fun l => (pre ++ [r]) ++ l)).foldl (bsU N) b)) : ∀ d r m' I b, r + d = 5 → d < m' → DvI N I0 I pre b → ∃ I', f2_layRest_c50 n O rec m' I 287 3 (nI m) (nI pre.length) (nI (szN N pre)) (nI r) = some I' ∧ DvI N I0 I' pre (((dfT (dfP f) m d r).map (fun l => pre ++ l)).foldl (bsU N) b) := by
  have b1 := hB.1
  have hz : szN N pre ≤ 64 := by
    have := stL_len hB pre z0S h5
    have e : z0S.2 = 0 := rfl
    unfold szN
    omega
  intro d
  induction d with
  | zero =>
    intro r m' I b hr hm' h
    obtain ⟨m', rfl⟩ : ∃ m'', m' = m'' + 1 := ⟨m' - 1, by omega⟩
    refine ⟨I, ?_, h⟩
    rw [f2_layRest_c50, show r = 5 by omega, if_pos (show (5 : Int32) ≤ nI 5 by decide)]
  | succ d ih =>
    intro r m' I b hr hm' h
    obtain ⟨m', rfl⟩ : ∃ m'', m' = m'' + 1 := ⟨m' - 1, by omega⟩
    have eb := bit_t (b := m) (p := r) (by omega) (by omega)
    have n5 : ¬ (5 : Int32) ≤ nI r := nle_i (a := 5) (by omega) (by omega) (by omega)
    show ∃ I', _ ∧ DvI N I0 I' pre ((((if m / 2 ^ r % 2 = 1 then (dfP f (m - 2 ^ r)).map (fun l => r :: l) else []) ++ dfT (dfP f) m d (r + 1)).map (fun l => pre ++ l)).foldl (bsU N) b)
    by_cases z : m / 2 ^ r % 2 = 1
    · obtain ⟨hr0, ht⟩ := hk r (by omega) z
      obtain ⟨d1, d2, d3, d4⟩ := h
      have hV5 : WV (sI I 293 pre.length (nI r)) O 3 4 5 6 7 8 N := WV_fr hV (fun a ha => by rw [sI_o _ _ (by omega)]; exact d1 a (by omega))
      obtain ⟨I6, q1, q2, q3, q4⟩ := x_layOne hn hO hB hV5 (s := stL N z0S pre) (by rw [sI_o _ _ (by omega)]; exact d2) hr0 ht hz
      have es : szN N (pre ++ [r]) = (lyS N (stL N z0S pre) r).2 := by unfold szN; rw [stL_s]
      have hD : DvI N I0 I6 (pre ++ [r]) b := by
        refine ⟨fun a ha => by rw [q4 a (by omega) (by omega), sI_o _ _ (by omega)]; exact d1 a ha, by rw [stL_s]; exact q2, ?_, ?_⟩
        · rw [q4 293 (by omega) (by omega)]
          intro j hj
          rw [List.length_append] at hj
          have hj' : j < pre.length + 1 := hj
          by_cases w : j = pre.length
          · rw [w, gd_r, sI_s]; exact ⟨by omega, rfl⟩
          · rw [gd_l (by omega), sI_k _ _ w]; exact d3 j (by omega)
        · cases b with
          | none =>
            show I6 287 7 = -1
            rw [q4 287 (by omega) (by omega), sI_o _ _ (by omega)]; exact d4
          | some q =>
            obtain ⟨y, l0⟩ := q
            show I6 287 7 = nI y ∧ y ≤ 80 ∧ LstA (I6 294) l0 ∧ l0.length ≤ 5
            rw [q4 287 (by omega) (by omega), q4 294 (by omega) (by omega), sI_o _ _ (by omega), sI_o _ _ (by omega)]; exact d4
      obtain ⟨I8, c1, e1, e2, e3, e4⟩ := hrec r I6 b (by omega) z hD
      rw [stL_s] at e2
      obtain ⟨I', g1, g2⟩ := ih (r + 1) m' I8 _ (by omega) (by omega) ⟨e1, RowA_w hB (by omega) e2, LstA_w e3, e4⟩
      refine ⟨I', ?_, ?_⟩
      · rw [f2_layRest_c50, if_neg n5, eb, z, if_neg (show ¬ nI 1 = 0 by decide), if_neg (nI_in (by omega) (by omega)), o_287_5 hO, qcl (by omega), qbl, od_an m hm r (by omega) z, nI_1, nI_1]
        unfold szN
        rw [q1, qb]
        dsimp only
        rw [← es, c1, qb]
        exact g1
      · rw [if_pos z, List.map_append, List.foldl_append, List.map_map]
        have ef : ((fun l => pre ++ l) ∘ fun l => r :: l) = fun l => (pre ++ [r]) ++ l := funext fun l => by
          show pre ++ (r :: l) = (pre ++ [r]) ++ l
          rw [List.append_assoc]; rfl
        rw [ef]
        exact g2
    · obtain ⟨I', g1, g2⟩ := ih (r + 1) m' I b (by omega) (by omega) h
      refine ⟨I', ?_, ?_⟩
      · rw [f2_layRest_c50, if_neg n5, eb, show m / 2 ^ r % 2 = 0 by omega, if_pos (show nI 0 = 0 from rfl), nI_1, g1]
      · rw [if_neg z, List.nil_append]; exact g2
theorem x_dfs (hn : 100000 ≤ n) (hO : OF O) (hB : WB N) (hV : WV I0 O 3 4 5 6 7 8 N) : ∀ f m pre fu I b, m < 32 → pcF 16 m ≤ f → f < fu → pre.length + pcF 16 m ≤ 5 → (∀ r, r ∈ pre → r < 5) → MkO N m → DvI N I0 I pre b → ∃ I', f2_rec n O fu I 287 3 (nI m) (nI pre.length) (nI (szN N pre)) = some I' ∧ DvI N I0 I' pre (((dfP f m).map (fun l => pre ++ l)).foldl (bsU N) b) := by
  intro f
  induction f with
  | zero =>
    intro m pre fu I b hm hp hf hl h5 hk h
    obtain ⟨fu, rfl⟩ : ∃ m'', fu = m'' + 1 := ⟨fu - 1, by omega⟩
    have m0 : m = 0 := (od_pc m hm).2.1 (by omega)
    subst m0
    obtain ⟨I', q1, q2⟩ := x_c9 (n := n) (rec := f2_rec n O fu) hO hB h5 (by omega) h
    refine ⟨I', ?_, ?_⟩
    · rw [f2_rec, f2_layRest_b, if_pos (show nI 0 = 0 from rfl), q1]
    · show DvI N I0 I' pre (bsU N b (pre ++ []))
      rw [List.append_nil]; exact q2
  | succ f ih =>
    intro m pre fu I b hm hp hf hl h5 hk h
    obtain ⟨fu, rfl⟩ : ∃ m'', fu = m'' + 1 := ⟨fu - 1, by omega⟩
    by_cases z : m = 0
    · subst z
      obtain ⟨I', q1, q2⟩ := x_c9 (n := n) (rec := f2_rec n O fu) hO hB h5 (by omega) h
      refine ⟨I', ?_, ?_⟩
      · rw [f2_rec, f2_layRest_b, if_pos (show nI 0 = 0 from rfl), q1]
      · show DvI N I0 I' pre (bsU N b (pre ++ []))
        rw [List.append_nil]; exact q2
    · have op := od_pc m hm
      have p1 : pcF 16 m ≠ 0 := fun g => z (op.2.1 g)
      obtain ⟨I', q1, q2⟩ := x_d50 hn hO hB hV (f := f) (rec := f2_rec n O fu) hm hk h5 (by omega) (fun r I b hr hb hD => by
        obtain ⟨o1, o2, o3⟩ := op.2.2 r hr hb
        have := ih (m - 2 ^ r) (pre ++ [r]) fu I b o1 (by omega) (by omega) (by rw [List.length_append]; show pre.length + 1 + _ ≤ 5; omega) (fun x hx => by
          rcases List.mem_append.mp hx with hx | hx
          · exact h5 x hx
          · rw [List.mem_singleton.mp hx]; exact hr) (fun q hq hb2 => hk q hq (o3 q hq hb2)) hD
        rw [List.length_append] at this
        exact this) 5 0 n I b (by omega) (by omega) h
      refine ⟨I', ?_, ?_⟩
      · rw [f2_rec, f2_layRest_b, if_neg (show ¬ nI m = 0 from nI_ne0 (by omega) (by omega)), if_pos (show nI pre.length < 5 from (nI_ltI (b := 5) (by omega) (by omega)).mpr (by omega))]
        exact q1
      · show DvI N I0 I' pre (((if m = 0 then [[]] else dfT (dfP f) m 5 0).map (fun l => pre ++ l)).foldl (bsU N) b)
        rw [if_neg z]; exact q2
theorem x_build (hn : 100000 ≤ n) (hO : OF O) (hB : WB N) {I : TI} (hV : WV I O 3 4 5 6 7 8 N) {m : Nat} (hm : m < 32) (hk : MkO N m) : ∃ I', f2_buildStair n I O 287 3 (nI m) = some (I' 287 7, I') ∧ (∀ a, (a < 287 ∨ 295 ≤ a) → I' a = I a) ∧ CbI I' ((dfP 5 m).foldl (bsU N) none) := by
  have op := od_pc m hm
  obtain ⟨I', q1, q2, q3, q4, q5⟩ := x_dfs hn hO hB (WV_fr (I' := sI I 287 7 (-1)) hV (fun a ha => sI_o _ _ (by omega))) 5 m [] 10 (sI I 287 7 (-1)) none hm op.1 (by omega) (by have := op.1; show 0 + _ ≤ 5; omega) (fun r hr => absurd hr (List.not_mem_nil)) hk ⟨fun _ _ => rfl, fun p hp => absurd hp (Nat.not_lt_zero _), fun j hj => absurd hj (Nat.not_lt_zero _), sI_s _ _ _ _⟩
  refine ⟨I', ?_, fun a ha => by rw [q2 a ha, sI_o _ _ (by omega)], ?_⟩
  · rw [f2_buildStair, qbl, f2_layRest, show f2_rec n O 10 (sI I 287 7 (-1)) 287 3 (nI m) 0 0 = _ from q1, qb]
  · have ef : (fun l : List Nat => [] ++ l) = id := funext fun l => rfl
    rw [ef, List.map_id] at q5; exact q5
end DF
