/-! the tape's tokens: bytes, numbers, words -/
def ltB (c : Nat) : Bool := (decide (97 ≤ c) && decide (c ≤ 122)) || (decide (65 ≤ c) && decide (c ≤ 90))
def dgB (c : Nat) : Bool := decide (48 ≤ c) && decide (c ≤ 57)
def bkB (c : Nat) : Bool := c == 32 || c == 10
def sgB (c : Nat) : Bool := c == 35 || c == 40 || c == 41 || c == 42 || c == 43 || c == 44 || c == 45 || c == 47 || c == 59 || c == 60 || c == 61 || c == 62
theorem ch_x : ∀ c, c < 256 → f8_isLetter (nI c) = some (if ltB c then 1 else 0) ∧ f8_isDigit (nI c) = some (if dgB c then 1 else 0) ∧ f8_isSign (nI c) = some (if sgB c then 1 else 0) := by decide +kernel
theorem ch_m : ∀ c, c < 256 → f12_isLetterByte (nI c) = some (if ltB c then 1 else 0) ∧ f12_isFigure (nI c) = some (if dgB c then 1 else 0) ∧ f12_isSign (nI c) = some (if sgB c then 1 else 0) := by decide +kernel
theorem ch_n : f12_isLetterByte (-1) = some 0 ∧ f12_isFigure (-1) = some 0 := by decide +kernel
def reF (B : TN) (q : Nat → Bool) : Nat → Nat → Nat
  | 0, p => p
  | d + 1, p => if q (B p) then reF B q d (p + 1) else p
theorem reF_le {B : TN} {q : Nat → Bool} : ∀ d p, p ≤ reF B q d p ∧ reF B q d p ≤ p + d := by
  intro d
  induction d with
  | zero => intro p; exact ⟨Nat.le_refl _, Nat.le_refl _⟩
  | succ d ih =>
    intro p
    show p ≤ (if q (B p) then reF B q d (p + 1) else p) ∧ (if q (B p) then reF B q d (p + 1) else p) ≤ p + (d + 1)
    have := ih (p + 1)
    split <;> omega
theorem reF_q {B : TN} {q : Nat → Bool} : ∀ d p j, p ≤ j → j < reF B q d p → q (B j) = true := by
  intro d
  induction d with
  | zero => intro p j h1 h2; have h2' : j < p := h2; omega
  | succ d ih =>
    intro p j h1 h2
    have h2' : j < (if q (B p) then reF B q d (p + 1) else p) := h2
    by_cases z : q (B p) = true
    · rw [if_pos z] at h2'
      by_cases w : j = p
      · rw [w]; exact z
      · exact ih (p + 1) j (by omega) h2'
    · rw [if_neg z] at h2'; omega
theorem reF_st {B : TN} {q : Nat → Bool} : ∀ d p, reF B q d p < p + d → q (B (reF B q d p)) = false := by
  intro d
  induction d with
  | zero => intro p h; have h' : p < p := h; omega
  | succ d ih =>
    intro p h
    show q (B (if q (B p) then reF B q d (p + 1) else p)) = false
    have h' : (if q (B p) then reF B q d (p + 1) else p) < p + (d + 1) := h
    cases z : q (B p)
    · rw [if_neg (by decide)]; exact z
    · rw [z, if_pos rfl] at h'
      rw [if_pos rfl]
      exact ih (p + 1) (by omega)
def nvF (B : TN) : Nat → Nat → Nat → Nat
  | 0, _, v => v
  | d + 1, p, v => nvF B d (p + 1) (if v ≤ 99999 then 10 * v + (B p - 48) else v)
theorem nvF_le {B : TN} : ∀ d p v, (∀ j, p ≤ j → j < p + d → dgB (B j) = true) → v ≤ 999999 → nvF B d p v ≤ 999999 := by
  intro d
  induction d with
  | zero => intro p v _ h; exact h
  | succ d ih =>
    intro p v hd h
    have := hd p (Nat.le_refl _) (by omega)
    unfold dgB at this
    rw [Bool.and_eq_true, decide_eq_true_eq, decide_eq_true_eq] at this
    exact ih (p + 1) _ (fun j h1 h2 => hd j (by omega) (by omega)) (by split <;> omega)
def wlF (B : TN) : Nat → Nat → List Nat
  | 0, _ => []
  | d + 1, p => B p :: wlF B d (p + 1)
def wdT : List (List Nat) := [[98, 108, 117, 114, 115], [108, 101, 97, 114, 110, 115], [119, 101, 97, 114, 115], [99, 104, 105, 108, 100], [112, 108, 97, 121], [112, 97, 116, 99, 104], [102, 111, 114, 103, 101, 116], [114, 111, 108, 108], [115, 117, 110, 100, 97, 121], [107, 101, 121], [119, 104, 111], [104, 101, 97, 114, 100], [112, 108, 97, 99, 101], [119, 101, 97, 114], [100, 105, 103, 105, 116, 115], [104, 111, 108, 101, 115], [105, 102], [116, 104, 101, 110], [101, 108, 115, 101], [101, 110, 100], [111, 114], [97, 110, 100], [110, 111, 116], [116, 111], [111, 102], [98, 121]]
def fnW (l : List Nat) : List (List Nat) → Nat → Nat
  | [], _ => 26
  | w :: ws, j => if l = w then j else fnW l ws (j + 1)
/-- the words' text from a place on -/
def encB : Nat → List (List Nat) → Bool
  | i, [] => decide (i = 130)
  | i, w :: ws => (List.range w.length).all (fun k => decide (i + k < 129) && decide (wch (i + k) = nI (w.getD k 0)) && decide (w.getD k 0 ≠ 32) && decide (w.getD k 0 < 256)) && (decide (i + w.length = 129) || (decide (i + w.length < 129) && decide (wch (i + w.length) = 32))) && encB (i + w.length + 1) ws
theorem enc_ok : encB 0 wdT = true := by decide +kernel
/-- packed words -/
def pwS (v b : Nat) : Nat := if v / 281474976710656 = 0 then v * 256 + b else 1152921504606846976
def pwL (l : List Nat) : Nat := l.foldl pwS 0
section LXC
variable {n : Nat} {I J : TI} {L : TL} {O : TO} {B : TN} {z : Nat}
/-- the class's tape, the reference's tape -/
def BX0 (I : TI) (B : TN) (z : Nat) : Prop := z ≤ 300 ∧ I 278 4 = nI z ∧ ∀ p, p < z → B p < 256 ∧ I 279 p = nI (B p)
def BM0 (J : TI) (B : TN) (z : Nat) : Prop := z ≤ 300 ∧ J 331 4 = nI z ∧ ∀ p, p < z → B p < 256 ∧ J 335 p = nI (B p)
theorem x_byte (hO : OF O) (h : BX0 I B z) {p : Nat} (hp : p < z) : f8_byteAt I O 278 (nI p) = some (nI (B p)) := by
  obtain ⟨h1, h2, h3⟩ := h
  rw [f8_byteAt, if_neg (fun g => by have := (nI_ltI (b := 0) (by omega) (by omega)).mp g; omega), h2, if_neg (nle_i (by omega) (by omega) hp), if_neg (show ¬ (300 : Int32) ≤ nI p from nle_i (a := 300) (by omega) (by omega) (by omega)), if_neg (nI_in (by omega) (by omega)), o_278_0 hO, qcl (by omega), (h3 p hp).2]
theorem x_byte0 (h : BX0 I B z) {p : Nat} (hp : z ≤ p) (hp2 : p < 1000) : f8_byteAt I O 278 (nI p) = some 0 := by
  obtain ⟨h1, h2, h3⟩ := h
  rw [f8_byteAt, if_neg (fun g => by have := (nI_ltI (b := 0) (by omega) (by omega)).mp g; omega), h2, if_pos ((nI_leI (by omega) (by omega)).mpr hp)]
theorem m_byte (hO : OF O) (h : BM0 J B z) {p : Nat} (hp : p < z) : f12_byteAt J O 331 (nI p) = some (nI (B p)) := by
  obtain ⟨h1, h2, h3⟩ := h
  rw [f12_byteAt, h2, if_neg (nle_i (by omega) (by omega) hp), if_neg (nI_in (by omega) (by omega)), o_331_3 hO, qcl (by omega), (h3 p hp).2]
theorem m_byte0 (h : BM0 J B z) {p : Nat} (hp : z ≤ p) (hp2 : p < 1000) : f12_byteAt J O 331 (nI p) = some (-1) := by
  obtain ⟨h1, h2, h3⟩ := h
  rw [f12_byteAt, h2, if_pos ((nI_leI (by omega) (by omega)).mpr hp)]
theorem x_wordEnd (hO : OF O) (h : BX0 I B z) : ∀ d p m, p + d = z → d < m → f8_wordEnd_c2 n I O m 278 (nI p) = some (nI (reF B ltB d p)) := by
  have h1 := h.1
  have h2 := h.2.1
  intro d
  induction d with
  | zero =>
    intro p m hp hm
    obtain ⟨m, rfl⟩ : ∃ m', m = m' + 1 := ⟨m - 1, by omega⟩
    rw [f8_wordEnd_c2, h2, show p = z by omega, if_pos (Int32.le_refl _)]; rfl
  | succ d ih =>
    intro p m hp hm
    obtain ⟨m, rfl⟩ : ∃ m', m = m' + 1 := ⟨m - 1, by omega⟩
    rw [f8_wordEnd_c2, h2, if_neg (nle_i (by omega) (by omega) (by omega)), x_byte hO h (by omega), qb, (ch_x (B p) (h.2.2 p (by omega)).1).1, qb]
    show _ = some (nI (if ltB (B p) then reF B ltB d (p + 1) else p))
    cases ltB (B p)
    · rw [if_pos (by decide), if_neg (by decide)]
    · rw [if_neg (by decide), if_pos rfl, nI_1, ih (p + 1) m (by omega) (by omega)]
theorem x_numEnd (hO : OF O) (h : BX0 I B z) : ∀ d p m, p + d = z → d < m → f8_numberEnd_c2 n I O m 278 (nI p) = some (nI (reF B dgB d p)) := by
  have h1 := h.1
  have h2 := h.2.1
  intro d
  induction d with
  | zero =>
    intro p m hp hm
    obtain ⟨m, rfl⟩ : ∃ m', m = m' + 1 := ⟨m - 1, by omega⟩
    rw [f8_numberEnd_c2, h2, show p = z by omega, if_pos (Int32.le_refl _)]; rfl
  | succ d ih =>
    intro p m hp hm
    obtain ⟨m, rfl⟩ : ∃ m', m = m' + 1 := ⟨m - 1, by omega⟩
    rw [f8_numberEnd_c2, h2, if_neg (nle_i (by omega) (by omega) (by omega)), x_byte hO h (by omega), qb, (ch_x (B p) (h.2.2 p (by omega)).1).2.1, qb]
    show _ = some (nI (if dgB (B p) then reF B dgB d (p + 1) else p))
    cases dgB (B p)
    · rw [if_pos (by decide), if_neg (by decide)]
    · rw [if_neg (by decide), if_pos rfl, nI_1, ih (p + 1) m (by omega) (by omega)]
theorem x_numOf (hO : OF O) (h : BX0 I B z) : ∀ d p m v, p + d ≤ z → d < m → v ≤ 999999 → (∀ j, p ≤ j → j < p + d → dgB (B j) = true) → f8_numberOf_c5 n I O m 278 (nI (p + d)) (nI (min 10000 v)) (nI p) = some (nI (min 10000 (nvF B d p v))) := by
  have h1 := h.1
  intro d
  induction d with
  | zero =>
    intro p m v hp hm hv hd
    obtain ⟨m, rfl⟩ : ∃ m', m = m' + 1 := ⟨m - 1, by omega⟩
    rw [f8_numberOf_c5, Nat.add_zero p, if_pos (Int32.le_refl _)]; rfl
  | succ d ih =>
    intro p m v hp hm hv hd
    obtain ⟨m, rfl⟩ : ∃ m', m = m' + 1 := ⟨m - 1, by omega⟩
    have dd := hd p (Nat.le_refl _) (by omega)
    unfold dgB at dd
    rw [Bool.and_eq_true, decide_eq_true_eq, decide_eq_true_eq] at dd
    have mn : fJ9_min_7cf53 10000 (nI (min 10000 v * 10 + B p - 48)) = some (nI (min 10000 (if v ≤ 99999 then 10 * v + (B p - 48) else v))) := by
      unfold fJ9_min_7cf53
      by_cases w : min 10000 v * 10 + B p - 48 < 10000
      · rw [if_pos (show nI (min 10000 v * 10 + B p - 48) < 10000 from (nI_ltI (b := 10000) (by omega) (by omega)).mpr w), show min 10000 (if v ≤ 99999 then 10 * v + (B p - 48) else v) = min 10000 v * 10 + B p - 48 by split <;> omega]
      · rw [if_neg (show ¬ nI (min 10000 v * 10 + B p - 48) < 10000 from fun g => w ((nI_ltI (b := 10000) (by omega) (by omega)).mp g)), show min 10000 (if v ≤ 99999 then 10 * v + (B p - 48) else v) = 10000 by split <;> omega]; rfl
    have i := ih (p + 1) m (if v ≤ 99999 then 10 * v + (B p - 48) else v) (by omega) (by omega) (by split <;> omega) (fun j h1 h2 => hd j (by omega) (by omega))
    rw [show p + 1 + d = p + (d + 1) by omega] at i
    rw [f8_numberOf_c5, if_neg (nle_i (by omega) (by omega) (by omega)), x_byte hO h (by omega), qb, show nI (min 10000 v) * 10 = nI (min 10000 v * 10) from qmul _ 10, qadd, show nI (min 10000 v * 10 + B p) - 48 = nI (min 10000 v * 10 + B p - 48) from qsub (b := 48) (by omega), mn, qb, nI_1]
    exact i
/-- one letter of the text of words -/
theorem x_letters (hO : OF O) (h : BX0 I B z) {s d : Nat} (hs : s + d ≤ z) {j : Nat} (w : List Nat) {i : Nat} (hw : ∀ k, k < w.length → i + k < 129 ∧ wch (i + k) = nI (w.getD k 0) ∧ w.getD k 0 ≠ 32 ∧ w.getD k 0 < 256) : ∀ e k m, k + e = w.length → e < m → ∀ b : Bool, (b = true ↔ k ≤ d ∧ ∀ q, q < k → B (s + q) = w.getD q 0) → ∃ b' : Bool, (b' = true ↔ w.length ≤ d ∧ ∀ q, q < w.length → B (s + q) = w.getD q 0) ∧ f8_wordNumber_c11 n I O m 278 (nI s) (nI (s + d)) (nI j) (nI (s + k)) (if b then 1 else 0) (nI (i + k)) = f8_wordNumber_c11 n I O (m - e) 278 (nI s) (nI (s + d)) (nI j) (nI (s + w.length)) (if b' then 1 else 0) (nI (i + w.length)) := by
  have h1 := h.1
  intro e
  induction e with
  | zero =>
    intro k m hk hm b hb
    refine ⟨b, ?_, ?_⟩
    · rw [hb, show k = w.length by omega]
    · rw [show k = w.length by omega]; rfl
  | succ e ih =>
    intro k m hk hm b hb
    obtain ⟨m, rfl⟩ : ∃ m', m = m' + 1 := ⟨m - 1, by omega⟩
    obtain ⟨w1, w2, w3, w4⟩ := hw k (by omega)
    have nsp : ¬ nI (w.getD k 0) = (32 : Int32) := fun g => w3 (by rw [show (32 : Int32) = nI 32 from rfl, nI_eq (by omega) (by omega)] at g; exact g)
    have pre : f8_wordNumber_c11 n I O (m + 1) 278 (nI s) (nI (s + d)) (nI j) (nI (s + k)) (if b then 1 else 0) (nI (i + k)) = f8_wordNumber_c43 n I O (f8_wordNumber_c11 n I O m) 278 (nI s) (nI (s + d)) (nI j) (nI (s + k)) (if b then 1 else 0) (nI (i + k)) (nI (w.getD k 0)) := by
      rw [f8_wordNumber_c11, if_neg (fun g => by have := (nI_ltI (a := 129) (by omega) (by omega)).mp g; omega), if_neg (show ¬ (129 : Int32) ≤ nI (i + k) from nle_i (a := 129) (by omega) (by omega) (by omega)), if_neg (nI_in (by omega) (by omega)), qcl (by omega), w2]
    rw [pre, f8_wordNumber_c43, if_neg nsp, nI_1, nI_1, show s + k + 1 = s + (k + 1) by omega, show i + k + 1 = i + (k + 1) by omega, show m + 1 - (e + 1) = m - e by omega]
    cases hbb : b
    · rw [if_pos (by decide)]
      exact ih (k + 1) m (by omega) (by omega) false ⟨fun g => absurd g (by decide), fun g => by
        have : b = true := hb.mpr ⟨by omega, fun q hq => g.2 q (by omega)⟩
        rw [hbb] at this; exact this⟩
    · have hb' := hb.mp hbb
      rw [if_neg (by decide)]
      by_cases c : d ≤ k
      · rw [if_pos ((nI_leI (by omega) (by omega)).mpr (by omega))]
        exact ih (k + 1) m (by omega) (by omega) false ⟨fun g => absurd g (by decide), fun g => absurd g.1 (by omega)⟩
      · have bb := (h.2.2 (s + k) (by omega)).1
        rw [if_neg (nle_i (by omega) (by omega) (by omega)), x_byte hO h (by omega), qb]
        by_cases y : B (s + k) = w.getD k 0
        · rw [if_pos (congrArg nI y)]
          exact ih (k + 1) m (by omega) (by omega) true ⟨fun _ => ⟨by omega, fun q hq => by
            by_cases v : q = k
            · rw [v]; exact y
            · exact hb'.2 q (by omega)⟩, fun _ => rfl⟩
        · rw [if_neg (fun g => y (by rw [nI_eq (by omega) (by omega)] at g; exact g))]
          exact ih (k + 1) m (by omega) (by omega) false ⟨fun g => absurd g (by decide), fun g => absurd (g.2 k (by omega)) y⟩
theorem wl_len (B : TN) : ∀ d p, (wlF B d p).length = d := by
  intro d
  induction d with
  | zero => intro p; rfl
  | succ d ih => intro p; show (wlF B d (p + 1)).length + 1 = d + 1; rw [ih]
theorem wl_eq (B : TN) : ∀ d p (w : List Nat), (w.length = d ∧ ∀ q, q < w.length → B (p + q) = w.getD q 0) ↔ wlF B d p = w := by
  intro d
  induction d with
  | zero =>
    intro p w
    constructor
    · intro ⟨h, _⟩
      exact (List.eq_nil_of_length_eq_zero h).symm
    · intro h
      have h' : [] = w := h
      rw [← h']
      exact ⟨rfl, fun q hq => absurd hq (Nat.not_lt_zero _)⟩
  | succ d ih =>
    intro p w
    cases w with
    | nil =>
      constructor
      · intro ⟨h, _⟩; exact absurd h (by intro g; cases g)
      · intro h; exact absurd h (by intro g; cases g)
    | cons c w =>
      constructor
      · intro ⟨h1, h2⟩
        have e : B p = c := h2 0 (Nat.succ_pos _)
        show B p :: wlF B d (p + 1) = c :: w
        rw [e, (ih (p + 1) w).mp ⟨Nat.succ.inj h1, fun q hq => by
          have := h2 (q + 1) (Nat.succ_lt_succ hq)
          rw [show p + 1 + q = p + (q + 1) by omega, this]; rfl⟩]
      · intro h
        have h' : B p :: wlF B d (p + 1) = c :: w := h
        injection h' with g1 g2
        obtain ⟨i1, i2⟩ := (ih (p + 1) w).mpr g2
        refine ⟨congrArg Nat.succ i1, fun q hq => ?_⟩
        cases q with
        | zero => exact g1
        | succ q =>
          have := i2 q (Nat.lt_of_succ_lt_succ hq)
          rw [show p + (q + 1) = p + 1 + q by omega, this]; rfl
theorem x_words (hO : OF O) (h : BX0 I B z) {s d : Nat} (hs : s + d ≤ z) (hd : 1 ≤ d) : ∀ (ws : List (List Nat)) j i m, encB i ws = true → i ≤ 130 → j + ws.length = 26 → 131 - i < m → f8_wordNumber_c11 n I O m 278 (nI s) (nI (s + d)) (nI j) (nI s) 1 (nI i) = some (nI (fnW (wlF B d s) ws j)) := by
  have h1 := h.1
  intro ws
  induction ws with
  | nil =>
    intro j i m he hi hj hm
    obtain ⟨m, rfl⟩ : ∃ m', m = m' + 1 := ⟨m - 1, by omega⟩
    have e1 : i = 130 := of_decide_eq_true he
    rw [f8_wordNumber_c11, e1, if_pos (show (129 : Int32) < nI 130 by decide)]; rfl
  | cons w ws ih =>
    intro j i m he hi hj hm
    have he' : ((List.range w.length).all (fun k => decide (i + k < 129) && decide (wch (i + k) = nI (w.getD k 0)) && decide (w.getD k 0 ≠ 32) && decide (w.getD k 0 < 256)) && (decide (i + w.length = 129) || (decide (i + w.length < 129) && decide (wch (i + w.length) = 32))) && encB (i + w.length + 1) ws) = true := he
    rw [Bool.and_eq_true, Bool.and_eq_true, List.all_eq_true] at he'
    obtain ⟨⟨a1, a2⟩, a3⟩ := he'
    have hw : ∀ k, k < w.length → i + k < 129 ∧ wch (i + k) = nI (w.getD k 0) ∧ w.getD k 0 ≠ 32 ∧ w.getD k 0 < 256 := fun k hk => by
      have := a1 k (List.mem_range.mpr hk)
      rw [Bool.and_eq_true, Bool.and_eq_true, Bool.and_eq_true, decide_eq_true_eq, decide_eq_true_eq, decide_eq_true_eq, decide_eq_true_eq] at this
      exact ⟨this.1.1.1, this.1.1.2, this.1.2, this.2⟩
    have il : i + w.length ≤ 129 := by
      rw [Bool.or_eq_true, Bool.and_eq_true, decide_eq_true_eq, decide_eq_true_eq] at a2
      omega
    obtain ⟨b', e1, e2⟩ := x_letters (n := n) hO h hs (j := j) w hw w.length 0 m (by omega) (by omega) true ⟨fun _ => ⟨Nat.zero_le _, fun q hq => by omega⟩, fun _ => rfl⟩
    rw [Nat.add_zero, Nat.add_zero, if_pos rfl] at e2
    rw [e2]
    obtain ⟨m', hm'⟩ : ∃ m', m - w.length = m' + 1 := ⟨m - w.length - 1, by omega⟩
    rw [hm']
    have hj' : j + (ws.length + 1) = 26 := hj
    have sp : f8_wordNumber_c11 n I O (m' + 1) 278 (nI s) (nI (s + d)) (nI j) (nI (s + w.length)) (if b' then 1 else 0) (nI (i + w.length)) = f8_wordNumber_c43 n I O (f8_wordNumber_c11 n I O m') 278 (nI s) (nI (s + d)) (nI j) (nI (s + w.length)) (if b' then 1 else 0) (nI (i + w.length)) 32 := by
      rw [f8_wordNumber_c11, if_neg (fun g => by have := (nI_ltI (a := 129) (by omega) (by omega)).mp g; omega)]
      by_cases y : i + w.length = 129
      · rw [y, if_pos (show (129 : Int32) ≤ nI 129 by decide)]
      · rw [Bool.or_eq_true, Bool.and_eq_true, decide_eq_true_eq, decide_eq_true_eq, decide_eq_true_eq] at a2
        rw [if_neg (show ¬ (129 : Int32) ≤ nI (i + w.length) from nle_i (a := 129) (by omega) (by omega) (by omega)), if_neg (nI_in (by omega) (by omega)), qcl (by omega), (a2.resolve_left y).2]
    have nxt := ih (j + 1) (i + w.length + 1) m' a3 (by omega) (by omega) (by omega)
    rw [sp, f8_wordNumber_c43, if_pos rfl, nI_1, nI_1, nxt]
    show _ = some (nI (if wlF B d s = w then j else fnW (wlF B d s) ws (j + 1)))
    by_cases y : wlF B d s = w
    · rw [if_pos y]
      have wq := (wl_eq B d s w).mpr y
      have : b' = true := e1.mpr ⟨by omega, wq.2⟩
      rw [this, if_neg (by decide), if_pos (by rw [wq.1])]
    · rw [if_neg y]
      cases hb : b'
      · rw [if_pos (by decide)]
      · rw [if_neg (by decide), if_neg (fun g => by
          rw [nI_eq (by omega) (by omega)] at g
          exact y ((wl_eq B d s w).mp ⟨by omega, (e1.mp hb).2⟩))]
end LXC
