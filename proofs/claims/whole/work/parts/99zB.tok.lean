/-! the tape's tokens: the row of tokens -/
def skP (B : TN) (z p : Nat) : Nat := reF B bkB (z - p) p
def weP (B : TN) (z s : Nat) : Nat := reF B ltB (z - s) s
def neP (B : TN) (z s : Nat) : Nat := reF B dgB (z - s) s
def twB (B : TN) (z s : Nat) : Bool := (B s == 60 || B s == 62) && (decide (s + 1 < z) && B (s + 1) == 61)
def tkK (B : TN) (z s : Nat) : Nat := if z ≤ s then 27 else if ltB (B s) then fnW (wlF B (weP B z s - s) s) wdT 0 else if dgB (B s) then 28 else if twB B z s then 256 + B s else if sgB (B s) then B s else 26
def tkE (B : TN) (z s : Nat) : Nat := if z ≤ s then s else if ltB (B s) then weP B z s else if dgB (B s) then neP B z s else if twB B z s then s + 2 else s + 1
def tkV (B : TN) (z s : Nat) : Nat := if z ≤ s then 0 else if ltB (B s) then 0 else if dgB (B s) then nvF B (neP B z s - s) s 0 else 0
def psT (B : TN) (z : Nat) : Nat → Nat
  | 0 => 0
  | i + 1 => tkE B z (skP B z (psT B z i))
def stT (B : TN) (z i : Nat) : Nat := skP B z (psT B z i)
def kdT (B : TN) (z i : Nat) : Nat := tkK B z (stT B z i)
def nvT (B : TN) (z i : Nat) : Nat := tkV B z (stT B z i)
theorem sk_le {B : TN} {z p : Nat} (h : p ≤ z) : p ≤ skP B z p ∧ skP B z p ≤ z := by
  have := reF_le (B := B) (q := bkB) (z - p) p
  unfold skP
  omega
theorem twB_t {B : TN} {z s : Nat} (h : twB B z s = true) : (B s = 60 ∨ B s = 62) ∧ s + 1 < z ∧ B (s + 1) = 61 := by
  unfold twB at h
  rw [Bool.and_eq_true, Bool.and_eq_true, Bool.or_eq_true, beq_iff_eq, beq_iff_eq, beq_iff_eq, decide_eq_true_eq] at h
  exact h
theorem we_lt {B : TN} {z s : Nat} {q : Nat → Bool} (h : s < z) (hq : q (B s) = true) : s < reF B q (z - s) s ∧ reF B q (z - s) s ≤ z := by
  have := reF_le (B := B) (q := q) (z - s - 1) (s + 1)
  rw [show z - s = (z - s - 1) + 1 by omega]
  show s < (if q (B s) then reF B q (z - s - 1) (s + 1) else s) ∧ (if q (B s) then reF B q (z - s - 1) (s + 1) else s) ≤ z
  rw [if_pos hq]
  omega
theorem tkE_le {B : TN} {z s : Nat} (h : s ≤ z) : s ≤ tkE B z s ∧ tkE B z s ≤ z ∧ (s < z → s < tkE B z s) := by
  unfold tkE
  by_cases h1 : z ≤ s
  · rw [if_pos h1]; omega
  · rw [if_neg h1]
    cases a : ltB (B s)
    · cases b : dgB (B s)
      · cases c : twB B z s
        · rw [if_neg (by decide), if_neg (by decide), if_neg (by decide)]; omega
        · have := twB_t c
          rw [if_neg (by decide), if_neg (by decide), if_pos rfl]; omega
      · have := we_lt (q := dgB) (show s < z by omega) b
        rw [if_neg (by decide), if_pos rfl]; unfold neP; omega
    · have := we_lt (q := ltB) (show s < z by omega) a
      rw [if_pos rfl]; unfold weP; omega
theorem ps_le (B : TN) (z : Nat) : ∀ i, psT B z i ≤ z := by
  intro i
  induction i with
  | zero => exact Nat.zero_le _
  | succ i ih => exact (tkE_le (sk_le ih).2).2.1
theorem st_le (B : TN) (z i : Nat) : psT B z i ≤ stT B z i ∧ stT B z i ≤ z := sk_le (ps_le B z i)
theorem ps_i {B : TN} {z : Nat} : ∀ i, (∀ j, j < i → stT B z j < z) → i ≤ psT B z i := by
  intro i
  induction i with
  | zero => intro _; exact Nat.zero_le _
  | succ i ih =>
    intro h
    have h1 := ih (fun j hj => h j (by omega))
    have h2 := st_le B z i
    have h3 := (tkE_le (B := B) h2.2).2.2 (h i (by omega))
    show i + 1 ≤ tkE B z (skP B z (psT B z i))
    have h3' : stT B z i < tkE B z (skP B z (psT B z i)) := h3
    omega
/-- packed words tell the words -/
def bvL (v : Nat) (l : List Nat) : Nat := l.foldl (fun v b => v * 256 + b) v
theorem bv_ge : ∀ (l : List Nat) v, v ≤ bvL v l := by
  intro l
  induction l with
  | nil => intro v; exact Nat.le_refl _
  | cons b l ih =>
    intro v
    have := ih (v * 256 + b)
    show v ≤ bvL (v * 256 + b) l
    omega
def dcW : Nat → Nat → List Nat
  | 0, _ => []
  | d + 1, v => dcW d (v / 256) ++ [v % 256]
theorem dc_bv : ∀ (l : List Nat) d v p, (∀ b, b ∈ l → b < 256) → dcW d v = p → dcW (d + l.length) (bvL v l) = p ++ l := by
  intro l
  induction l with
  | nil => intro d v p _ h; show dcW d v = p ++ []; rw [List.append_nil]; exact h
  | cons b l ih =>
    intro d v p hb h
    have b1 := hb b List.mem_cons_self
    have := ih (d + 1) (v * 256 + b) (p ++ [b]) (fun x hx => hb x (List.mem_cons_of_mem _ hx)) (by
      show dcW d ((v * 256 + b) / 256) ++ [(v * 256 + b) % 256] = p ++ [b]
      rw [show (v * 256 + b) / 256 = v by omega, show (v * 256 + b) % 256 = b by omega, h])
    show dcW (d + (l.length + 1)) (bvL (v * 256 + b) l) = p ++ b :: l
    rw [show d + (l.length + 1) = d + 1 + l.length by omega, this, List.append_assoc]; rfl
theorem bv_lt : ∀ (l : List Nat) v k, (∀ b, b ∈ l → b < 256) → v < 256 ^ k → bvL v l < 256 ^ (k + l.length) := by
  intro l
  induction l with
  | nil => intro v k _ h; exact h
  | cons b l ih =>
    intro v k hb h
    have b1 := hb b List.mem_cons_self
    have := ih (v * 256 + b) (k + 1) (fun x hx => hb x (List.mem_cons_of_mem _ hx)) (by rw [Nat.pow_succ]; omega)
    show bvL (v * 256 + b) l < 256 ^ (k + (l.length + 1))
    rw [show k + (l.length + 1) = k + 1 + l.length by omega]; exact this
theorem bv_lo : ∀ (l : List Nat) v k, 256 ^ k ≤ v → 256 ^ (k + l.length) ≤ bvL v l := by
  intro l
  induction l with
  | nil => intro v k h; exact h
  | cons b l ih =>
    intro v k h
    have := ih (v * 256 + b) (k + 1) (by rw [Nat.pow_succ]; omega)
    show 256 ^ (k + (l.length + 1)) ≤ bvL (v * 256 + b) l
    rw [show k + (l.length + 1) = k + 1 + l.length by omega]; exact this
def okW (l : List Nat) : Prop := l ≠ [] ∧ ∀ b, b ∈ l → 1 ≤ b ∧ b < 256
theorem bv_rng {l : List Nat} (h : okW l) : 256 ^ (l.length - 1) ≤ bvL 0 l ∧ bvL 0 l < 256 ^ l.length := by
  obtain ⟨h1, h2⟩ := h
  refine ⟨?_, ?_⟩
  · cases l with
    | nil => exact absurd rfl h1
    | cons b l =>
      have b1 := h2 b List.mem_cons_self
      have := bv_lo l (0 * 256 + b) 0 (by rw [Nat.pow_zero]; omega)
      rw [Nat.zero_add] at this
      exact this
  · have := bv_lt l 0 0 (fun b hb => (h2 b hb).2) (by rw [Nat.pow_zero]; omega)
    rw [Nat.zero_add] at this
    exact this
theorem bv_inj {l w : List Nat} (hl : okW l) (hw : okW w) (h : bvL 0 l = bvL 0 w) : l = w := by
  have a := bv_rng hl
  have b := bv_rng hw
  have ll : 1 ≤ l.length := by cases l with
    | nil => exact absurd rfl hl.1
    | cons _ _ => exact Nat.succ_pos _
  have lw : 1 ≤ w.length := by cases w with
    | nil => exact absurd rfl hw.1
    | cons _ _ => exact Nat.succ_pos _
  have e : l.length = w.length := by
    by_cases c : l.length ≤ w.length - 1
    · have := Nat.pow_le_pow_right (n := 256) (by omega) c
      omega
    · by_cases d : w.length ≤ l.length - 1
      · have := Nat.pow_le_pow_right (n := 256) (by omega) d
        omega
      · omega
  have d1 := dc_bv l 0 0 [] (fun b hb => (hl.2 b hb).2) rfl
  have d2 := dc_bv w 0 0 [] (fun b hb => (hw.2 b hb).2) rfl
  rw [List.nil_append] at d1 d2
  rw [← d1, ← d2, h, e]
theorem pw_ge : ∀ (l : List Nat) v, (∀ b, b ∈ l → b < 256) → v ≤ 1152921504606846976 → v ≤ l.foldl pwS v ∧ l.foldl pwS v ≤ 1152921504606846976 := by
  intro l
  induction l with
  | nil => intro v _ h; exact ⟨Nat.le_refl _, h⟩
  | cons b l ih =>
    intro v hb h
    have b1 := hb b List.mem_cons_self
    have := ih (pwS v b) (fun x hx => hb x (List.mem_cons_of_mem _ hx)) (by unfold pwS; split <;> omega)
    show v ≤ l.foldl pwS (pwS v b) ∧ l.foldl pwS (pwS v b) ≤ 1152921504606846976
    have g : v ≤ pwS v b := by unfold pwS; split <;> omega
    omega
theorem pw_bv : ∀ (l : List Nat) v, (∀ b, b ∈ l → b < 256) → l.foldl pwS v < 281474976710656 → v ≤ 1152921504606846976 → l.foldl pwS v = bvL v l := by
  intro l
  induction l with
  | nil => intro v _ _ _; rfl
  | cons b l ih =>
    intro v hb h hv
    have b1 := hb b List.mem_cons_self
    have hb' : ∀ x, x ∈ l → x < 256 := fun x hx => hb x (List.mem_cons_of_mem _ hx)
    have q : pwS v b ≤ 1152921504606846976 := by unfold pwS; split <;> omega
    have h' : l.foldl pwS (pwS v b) < 281474976710656 := h
    have g := pw_ge l (pwS v b) hb' q
    have e : pwS v b = v * 256 + b := by
      unfold pwS at g ⊢
      by_cases w : v / 281474976710656 = 0
      · rw [if_pos w]
      · rw [if_neg w] at g
        have : (1152921504606846976 : Nat) ≤ l.foldl pwS (pwS v b) := by
          have : pwS v b = 1152921504606846976 := by unfold pwS; rw [if_neg w]
          rw [this]; exact g.1
        omega
    show l.foldl pwS (pwS v b) = bvL (v * 256 + b) l
    rw [← e]
    exact ih (pwS v b) hb' h' q
theorem bv_pw : ∀ (l : List Nat) v, bvL v l < 281474976710656 → l.foldl pwS v = bvL v l := by
  intro l
  induction l with
  | nil => intro v _; rfl
  | cons b l ih =>
    intro v h
    have h' : bvL (v * 256 + b) l < 281474976710656 := h
    have g := bv_ge l (v * 256 + b)
    show l.foldl pwS (pwS v b) = bvL (v * 256 + b) l
    have e : pwS v b = v * 256 + b := by unfold pwS; rw [if_pos (by omega)]
    rw [e]; exact ih _ h'
theorem wd_ok : ∀ w, w ∈ wdT → okW w ∧ bvL 0 w < 281474976710656 := by
  unfold okW
  decide +kernel
theorem pw_inj {l w : List Nat} (hl : okW l) (hw : w ∈ wdT) (h : pwL l = pwL w) : l = w := by
  obtain ⟨o, u⟩ := wd_ok w hw
  have e1 : pwL w = bvL 0 w := bv_pw w 0 u
  have e2 : pwL l = bvL 0 l := pw_bv l 0 (fun b hb => (hl.2 b hb).2) (by show pwL l < _; rw [h, e1]; exact u) (by omega)
  exact bv_inj hl o (by rw [← e1, ← e2, h])
theorem fn_sp (l : List Nat) : ∀ (ws : List (List Nat)) j, j + ws.length = 26 → (fnW l ws j < 26 ∧ ∃ k, k < ws.length ∧ fnW l ws j = j + k ∧ ws.getD k [] = l ∧ ws.getD k [] ∈ ws) ∨ (fnW l ws j = 26 ∧ ¬ l ∈ ws) := by
  intro ws
  induction ws with
  | nil => intro j _; exact Or.inr ⟨rfl, List.not_mem_nil⟩
  | cons w ws ih =>
    intro j hj
    have hj' : j + (ws.length + 1) = 26 := hj
    show ((if l = w then j else fnW l ws (j + 1)) < 26 ∧ ∃ k, k < ws.length + 1 ∧ (if l = w then j else fnW l ws (j + 1)) = j + k ∧ _) ∨ ((if l = w then j else fnW l ws (j + 1)) = 26 ∧ _)
    by_cases z : l = w
    · rw [if_pos z]
      exact Or.inl ⟨by omega, 0, by omega, rfl, z.symm, List.mem_cons_self⟩
    · rw [if_neg z]
      rcases ih (j + 1) (by omega) with ⟨a1, k, a2, a3, a4, a5⟩ | ⟨a1, a2⟩
      · exact Or.inl ⟨a1, k + 1, by omega, by omega, a4, List.mem_cons_of_mem _ a5⟩
      · exact Or.inr ⟨a1, fun g => by
          rcases List.mem_cons.mp g with g | g
          · exact z g
          · exact a2 g⟩
/-- the packed word of a number, and what the reference's token is -/
def pkW (k : Nat) : Nat := pwL (wdT.getD k [])
theorem pk_dist : ∀ j, j < 26 → ∀ k, k < 26 → pkW j = pkW k → j = k := by decide +kernel
theorem pk_lt63 : ∀ j, j < 26 → pkW j < 281474976710656 := by decide +kernel
/-- the reference's token t with its word x, for the class's kind k -/
def TkR (k t x : Nat) : Prop := (k = 27 ∧ t = 0) ∨ (k = 28 ∧ t = 1) ∨ (k < 26 ∧ t = 2 ∧ x = pkW k) ∨ (k = 26 ∧ (t = 3 ∨ (t = 2 ∧ ∀ j, j < 26 → x ≠ pkW j))) ∨ (k = 316 ∧ t = 4) ∨ (k = 318 ∧ t = 5) ∨ (sgB k = true ∧ t = k)
theorem sg_in {k : Nat} (h : sgB k = true) : k = 35 ∨ k = 40 ∨ k = 41 ∨ k = 42 ∨ k = 43 ∨ k = 44 ∨ k = 45 ∨ k = 47 ∨ k = 59 ∨ k = 60 ∨ k = 61 ∨ k = 62 := by
  unfold sgB at h
  simp only [Bool.or_eq_true, beq_iff_eq] at h
  omega
theorem wl_ok {B : TN} {z : Nat} (hB : ∀ p, p < z → B p < 256) : ∀ d s, s + d ≤ z → (∀ j, s ≤ j → j < s + d → ltB (B j) = true) → ∀ b, b ∈ wlF B d s → 1 ≤ b ∧ b < 256 := by
  intro d
  induction d with
  | zero => intro s _ _ b hb; exact absurd hb List.not_mem_nil
  | succ d ih =>
    intro s hs hl b hb
    rcases List.mem_cons.mp hb with e | e
    · have l := hl s (Nat.le_refl _) (by omega)
      have u := hB s (by omega)
      rw [e]
      refine ⟨?_, u⟩
      by_cases w : B s = 0
      · rw [w] at l; exact absurd l (by decide)
      · omega
    · exact ih (s + 1) (by omega) (fun j h1 h2 => hl j (by omega) (by omega)) b e
theorem we_ok {B : TN} {z s : Nat} (hB : ∀ p, p < z → B p < 256) (hs : s < z) (hl : ltB (B s) = true) : okW (wlF B (weP B z s - s) s) ∧ 1 ≤ weP B z s - s ∧ s + (weP B z s - s) = weP B z s ∧ weP B z s ≤ z := by
  have l := we_lt (q := ltB) hs hl
  have e : s + (weP B z s - s) = weP B z s := by unfold weP; omega
  refine ⟨⟨fun g => ?_, wl_ok hB _ s (by unfold weP at e ⊢; omega) (fun j h1 h2 => reF_q (z - s) s j h1 (by rw [e] at h2; exact h2))⟩, by unfold weP; omega, e, l.2⟩
  have := wl_len B (weP B z s - s) s
  rw [g] at this
  have t : ([] : List Nat).length = 0 := rfl
  unfold weP at this
  omega
theorem tk_word {B : TN} {z s : Nat} (hB : ∀ p, p < z → B p < 256) (hs : s < z) (hl : ltB (B s) = true) : TkR (tkK B z s) 2 (pwL (wlF B (weP B z s - s) s)) := by
  obtain ⟨o, -⟩ := we_ok hB hs hl
  unfold tkK
  rw [if_neg (by omega), if_pos hl]
  rcases fn_sp (wlF B (weP B z s - s) s) wdT 0 rfl with ⟨a1, k, a2, a3, a4, a5⟩ | ⟨a1, a2⟩
  · refine Or.inr (Or.inr (Or.inl ⟨a1, rfl, ?_⟩))
    unfold pkW
    rw [a3, Nat.zero_add, a4]
  · refine Or.inr (Or.inr (Or.inr (Or.inl ⟨a1, Or.inr ⟨rfl, fun j hj g => a2 ?_⟩⟩)))
    have hm : wdT.getD j [] ∈ wdT := by
      rw [List.getD_eq_getElem?_getD, List.getElem?_eq_getElem (show j < wdT.length from hj)]
      exact List.getElem_mem _
    rw [pw_inj o hm g]; exact hm
