/-! laws: two machines, without memory -/
abbrev lEnv := (Nat → Int) × (Int → Int)
def okN (s j : Nat) : Bool := decide (j < 2) || (decide (j < 4) && decide (s ≠ 2)) || (decide (4 ≤ j) && decide (j < 7) && decide (s ≠ 1))
def agr (s : Nat) (e0 e : lEnv) : Prop := (∀ j, okN s j = true → e.1 j = e0.1 j) ∧ e.2 = e0.2
def eOK (s : Nat) (e0 : lEnv) : Prop := (∀ j, okN s j = true → 0 ≤ e0.1 j ∧ e0.1 j ≤ 9999) ∧ ∀ x, 0 ≤ e0.2 x ∧ e0.2 x ≤ 16
def nmX (c : Nat) : Nat := if c = 0 then 4 else if c ≤ 4 then c - 1 else c
def xS1 (e : lEnv) (k : Nat) (x : Int) : Int := if k = 14 then dgI x else if k = 15 then e.2 x else if k = 29 then -x else if x = 0 then 1 else 0
def cmpB (k : Nat) (y x : Int) : Bool := if k = 20 then decide (y ≠ 0) || decide (x ≠ 0) else if k = 21 then decide (y ≠ 0) && decide (x ≠ 0) else if k = 35 then decide (y ≠ x) else if k = 60 then decide (y < x) else if k = 61 then decide (y = x) else if k = 62 then decide (x < y) else if k = 316 then decide (y ≤ x) else decide (x ≤ y)
def isAr (k : Nat) : Bool := k == 43 || k == 45 || k == 42 || k == 47
def xS2 (k : Nat) (y x : Int) : Int := if isAr k then ar k y x else if cmpB k y x then 1 else 0
def xS (e : lEnv) (w i : Nat) (S : List Int) : Option (Nat × List Int) :=
  if w % 1024 = 28 then some (i + 1, ((w / 1024 : Nat) : Int) :: S)
  else if 7 ≤ w % 1024 ∧ w % 1024 ≤ 13 then some (i + 1, e.1 (nmX (w % 1024 - 7)) :: S)
  else if w % 1024 = 18 then some (max i (w / 1024 - 1) + 1, S)
  else match S with
  | [] => none
  | x :: S1 =>
    if w % 1024 = 17 then some (if x = 0 then max i (w / 1024 - 1) + 1 else i + 1, S1)
    else if w % 1024 = 14 ∨ w % 1024 = 15 ∨ w % 1024 = 29 ∨ w % 1024 = 22 then some (i + 1, xS1 e (w % 1024) x :: S1)
    else match S1 with
    | [] => none
    | y :: S2 => if w % 1024 = 43 ∨ w % 1024 = 45 ∨ w % 1024 = 42 ∨ w % 1024 = 47 ∨ w % 1024 = 20 ∨ w % 1024 = 21 ∨ w % 1024 = 35 ∨ w % 1024 = 60 ∨ w % 1024 = 61 ∨ w % 1024 = 62 ∨ w % 1024 = 316 ∨ w % 1024 = 318 then some (i + 1, xS2 (w % 1024) y x :: S2) else none
def okV (S : List Int) : Prop := ∀ x, x ∈ S → bB x
def XR (e : lEnv) (st : Nat → Nat) : Nat → Nat → List Int → Nat → List Int → Prop
  | 0, i, S, i', S' => i = i' ∧ S = S'
  | c + 1, i, S, i', S' => ∃ j T, xS e (st i) i S = some (j, T) ∧ okV T ∧ T.length ≤ 64 ∧ i < j ∧ XR e st c j T i' S'
theorem XR_app {e : lEnv} {st : Nat → Nat} : ∀ c1 c2 i S j T k U, XR e st c1 i S j T → XR e st c2 j T k U → XR e st (c1 + c2) i S k U := by
  intro c1
  induction c1 with
  | zero =>
    intro c2 i S j T k U h1 h2
    obtain ⟨rfl, rfl⟩ := h1
    rw [Nat.zero_add]; exact h2
  | succ c1 ih =>
    intro c2 i S j T k U h1 h2
    obtain ⟨j', T', a1, a2, a3, a4, a5⟩ := h1
    rw [show c1 + 1 + c2 = c1 + c2 + 1 by omega]
    exact ⟨j', T', a1, a2, a3, a4, ih c2 j' T' j T k U a5 h2⟩
theorem XR_le {e : lEnv} {st : Nat → Nat} : ∀ c i S j T, XR e st c i S j T → i + c ≤ j := by
  intro c
  induction c with
  | zero => intro i S j T h; have := h.1; omega
  | succ c ih =>
    intro i S j T h
    obtain ⟨j', T', a1, a2, a3, a4, a5⟩ := h
    have := ih _ _ _ _ a5
    omega
theorem XR_ext {e : lEnv} {st st' : Nat → Nat} : ∀ c i S j T, XR e st c i S j T → (∀ k, i ≤ k → k < j → st' k = st k) → XR e st' c i S j T := by
  intro c
  induction c with
  | zero => intro i S j T h _; exact h
  | succ c ih =>
    intro i S j T h hs
    obtain ⟨j', T', a1, a2, a3, a4, a5⟩ := h
    have l := XR_le _ _ _ _ _ a5
    exact ⟨j', T', by rw [hs i (by omega) (by omega)]; exact a1, a2, a3, a4, ih _ _ _ _ a5 (fun k h1 h2 => hs k (by omega) h2)⟩
def VX (s : Nat) (st : Nat → Nat) (z z' : Nat) (v : lEnv → Int) (d : Nat) : Prop := ∀ e0 e, eOK s e0 → agr s e0 e → ∀ S, okV S → S.length + d ≤ 64 → bB (v e0) ∧ ∃ c, XR e st c z S z' (v e0 :: S)
def b2i (b : Bool) : Int := if b then 1 else 0
theorem b2i_b (b : Bool) : bB (b2i b) := by
  cases b
  · exact bd0
  · exact bd1
def BX (s : Nat) (st : Nat → Nat) (z z' : Nat) (b : lEnv → Bool) (d : Nat) : Prop := VX s st z z' (fun e => b2i (b e)) d
theorem VX_ext {s : Nat} {st st' : Nat → Nat} {z z' : Nat} {v : lEnv → Int} {d : Nat} (h : VX s st z z' v d) (hs : ∀ k, z ≤ k → k < z' → st' k = st k) : VX s st' z z' v d := by
  intro e0 e h1 h2 S h3 h4
  obtain ⟨a, c, b⟩ := h e0 e h1 h2 S h3 h4
  exact ⟨a, c, XR_ext c z S z' _ b hs⟩
theorem VX_mono {s : Nat} {st : Nat → Nat} {z z' : Nat} {v : lEnv → Int} {d d' : Nat} (h : VX s st z z' v d) (hd : d ≤ d') : VX s st z z' v d' := fun e0 e h1 h2 S h3 h4 => h e0 e h1 h2 S h3 (by omega)
theorem okV_c {x : Int} {S : List Int} (h1 : bB x) (h2 : okV S) : okV (x :: S) := by
  intro y hy
  rcases List.mem_cons.mp hy with rfl | h
  · exact h1
  · exact h2 y h
theorem VX_num {s a z d : Nat} {st : Nat → Nat} (hs : st z = 28 + a * 1024) (ha : a ≤ 9999) (hd : 1 ≤ d) : VX s st z (z + 1) (fun _ => (a : Int)) d := by
  intro e0 e h1 h2 S h3 h4
  have b : bB (a : Int) := ⟨by omega, by omega⟩
  refine ⟨b, 1, z + 1, (a : Int) :: S, ?_, okV_c b h3, by rw [List.length_cons]; omega, by omega, rfl, rfl⟩
  unfold xS
  rw [hs, if_pos (by omega), show (28 + a * 1024) / 1024 = a by omega]
theorem VX_name {s c z d : Nat} {st : Nat → Nat} (hs : st z = 7 + c) (hc : c < 7) (ho : okN s (nmX c) = true) (hd : 1 ≤ d) : VX s st z (z + 1) (fun e => e.1 (nmX c)) d := by
  intro e0 e h1 h2 S h3 h4
  have q := h1.1 (nmX c) ho
  have b : bB (e0.1 (nmX c)) := ⟨by omega, by omega⟩
  refine ⟨b, 1, z + 1, e0.1 (nmX c) :: S, ?_, okV_c b h3, by rw [List.length_cons]; omega, by omega, rfl, rfl⟩
  unfold xS
  rw [hs, if_neg (by omega), if_pos ⟨by omega, by omega⟩, show (7 + c) % 1024 - 7 = c by omega, h2.1 _ ho]
theorem xS1_b {s k : Nat} {e : lEnv} {x : Int} (h : eOK s e) (hx : bB x) : bB (xS1 e k x) := by
  unfold xS1
  split
  · exact dgI_b x
  · split
    · have := h.2 x; exact ⟨by omega, by omega⟩
    · split
      · unfold bB at *; omega
      · split
        · exact bd1
        · exact bd0
theorem VX_one {s k z z' d : Nat} {st : Nat → Nat} {v : lEnv → Int} (h : VX s st z z' v d) (hs : st z' = k) (hk : k = 14 ∨ k = 15 ∨ k = 29 ∨ k = 22) (hd : 1 ≤ d) : VX s st z (z' + 1) (fun e => xS1 e k (v e)) d := by
  intro e0 e h1 h2 S h3 h4
  obtain ⟨b, c, r⟩ := h e0 e h1 h2 S h3 h4
  have b2 := xS1_b (k := k) h1 b
  refine ⟨b2, c + 1, XR_app c 1 _ _ _ _ _ _ r ⟨z' + 1, xS1 e0 k (v e0) :: S, ?_, okV_c b2 h3, by rw [List.length_cons]; omega, by omega, rfl, rfl⟩⟩
  unfold xS
  rw [hs, show k % 1024 = k by omega, if_neg (by omega), if_neg (by omega), if_neg (by omega)]
  show (if k = 17 then _ else _) = _
  rw [if_neg (by omega), if_pos (by omega)]
  unfold xS1
  rw [h2.2]
theorem xS2_b (k : Nat) (y x : Int) : bB (xS2 k y x) := by
  unfold xS2
  split
  · exact ar_b _ _ _
  · split
    · exact bd1
    · exact bd0
def isTwo (k : Nat) : Prop := k = 43 ∨ k = 45 ∨ k = 42 ∨ k = 47 ∨ k = 20 ∨ k = 21 ∨ k = 35 ∨ k = 60 ∨ k = 61 ∨ k = 62 ∨ k = 316 ∨ k = 318
theorem VX_two {s k z z1 z2 d1 d2 d : Nat} {st : Nat → Nat} {v w : lEnv → Int} (h : VX s st z z1 v d1) (g : VX s st z1 z2 w d2) (hs : st z2 = k) (hk : isTwo k) (hd1 : d1 ≤ d) (hd2 : d2 + 1 ≤ d) : VX s st z (z2 + 1) (fun e => xS2 k (v e) (w e)) d := by
  intro e0 e h1 h2 S h3 h4
  obtain ⟨b, c, r⟩ := h e0 e h1 h2 S h3 (by omega)
  obtain ⟨b', c', r'⟩ := g e0 e h1 h2 (v e0 :: S) (okV_c b h3) (by rw [List.length_cons]; omega)
  have b2 := xS2_b k (v e0) (w e0)
  unfold isTwo at hk
  refine ⟨b2, c + (c' + 1), XR_app c (c' + 1) _ _ _ _ _ _ r (XR_app c' 1 _ _ _ _ _ _ r' ⟨z2 + 1, xS2 k (v e0) (w e0) :: S, ?_, okV_c b2 h3, by rw [List.length_cons]; omega, by omega, rfl, rfl⟩)⟩
  unfold xS
  rw [hs, show k % 1024 = k by omega, if_neg (by omega), if_neg (by omega), if_neg (by omega)]
  show (if k = 17 then _ else if k = 14 ∨ k = 15 ∨ k = 29 ∨ k = 22 then _ else if k = 43 ∨ k = 45 ∨ k = 42 ∨ k = 47 ∨ k = 20 ∨ k = 21 ∨ k = 35 ∨ k = 60 ∨ k = 61 ∨ k = 62 ∨ k = 316 ∨ k = 318 then some (z2 + 1, xS2 k (v e0) (w e0) :: S) else none) = _
  rw [if_neg (by omega), if_neg (by omega), if_pos (by omega)]
theorem VX_if {s z z1 z2 z4 d : Nat} {st : Nat → Nat} {b : lEnv → Bool} {v w : lEnv → Int} (h : BX s st z z1 b d) (g1 : VX s st (z1 + 1) z2 v d) (g2 : VX s st (z2 + 1) z4 w d) (hs1 : st z1 = 17 + (z2 + 1) * 1024) (hs2 : st z2 = 18 + z4 * 1024) (hz1 : z1 ≤ z2) (hz2 : z2 < z4) (hd : 1 ≤ d) : VX s st z z4 (fun e => if b e then v e else w e) d := by
  intro e0 e h1 h2 S h3 h4
  obtain ⟨-, c, r0⟩ := h e0 e h1 h2 S h3 h4
  have r : XR e st c z S z1 (b2i (b e0) :: S) := r0
  cases hb : b e0
  · obtain ⟨b2, c2, r2⟩ := g2 e0 e h1 h2 S h3 h4
    have q : (if false = true then v e0 else w e0) = w e0 := rfl
    show bB (if b e0 = true then v e0 else w e0) ∧ ∃ c, XR e st c z S z4 ((if b e0 = true then v e0 else w e0) :: S)
    rw [hb, q]
    rw [hb] at r
    refine ⟨b2, c + (c2 + 1), XR_app c (c2 + 1) _ _ _ _ _ _ r ⟨z2 + 1, S, ?_, h3, by omega, by omega, r2⟩⟩
    unfold xS
    rw [hs1, if_neg (by omega), if_neg (by omega), if_neg (by omega)]
    show (if (17 + (z2 + 1) * 1024) % 1024 = 17 then some (if b2i false = 0 then max z1 ((17 + (z2 + 1) * 1024) / 1024 - 1) + 1 else z1 + 1, S) else _) = _
    rw [if_pos (by omega), if_pos (by decide), show max z1 ((17 + (z2 + 1) * 1024) / 1024 - 1) + 1 = z2 + 1 by omega]
  · obtain ⟨b2, c2, r2⟩ := g1 e0 e h1 h2 S h3 h4
    have q : (if true = true then v e0 else w e0) = v e0 := rfl
    show bB (if b e0 = true then v e0 else w e0) ∧ ∃ c, XR e st c z S z4 ((if b e0 = true then v e0 else w e0) :: S)
    rw [hb, q]
    rw [hb] at r
    refine ⟨b2, c + ((c2 + 1) + 1), XR_app c ((c2 + 1) + 1) _ _ _ _ _ _ r ⟨z1 + 1, S, ?_, h3, by omega, by omega, XR_app c2 1 _ _ _ _ _ _ r2 ⟨z4, v e0 :: S, ?_, okV_c b2 h3, by rw [List.length_cons]; omega, by omega, rfl, rfl⟩⟩⟩
    · unfold xS
      rw [hs1, if_neg (by omega), if_neg (by omega), if_neg (by omega)]
      show (if (17 + (z2 + 1) * 1024) % 1024 = 17 then some (if b2i true = 0 then max z1 ((17 + (z2 + 1) * 1024) / 1024 - 1) + 1 else z1 + 1, S) else _) = _
      rw [if_pos (by omega), if_neg (by decide)]
    · unfold xS
      rw [hs2, if_neg (by omega), if_neg (by omega), if_pos (by omega), show max z2 ((18 + z4 * 1024) / 1024 - 1) + 1 = z4 by omega]
/-! the reference's -/
def kso (o : Nat) : Nat := if o = 4 then 14 else if o = 2 then 15 else 29
def kco (o : Nat) : Nat := if o = 10 then 60 else if o = 11 then 316 else if o = 12 then 62 else if o = 13 then 318 else if o = 14 then 61 else 35
def mqS (e : lEnv) (o a : Nat) (V : List Int) (T : List Bool) : Option (List Int × List Bool) :=
  if o = 0 then some ((a : Int) :: V, T)
  else if o = 1 then some (e.1 a :: V, T)
  else if o = 3 then (match V, T with
    | y :: x :: V1, b :: T1 => some ((if b then x else y) :: V1, T1)
    | _, _ => none)
  else if o ≤ 5 then (match V with
    | x :: V1 => some (xS1 e (kso o) x :: V1, T)
    | _ => none)
  else if o < 10 then (match V with
    | y :: x :: V1 => some (ar (kxo o) x y :: V1, T)
    | _ => none)
  else if o < 20 then (match V with
    | y :: x :: V1 => some (V1, cmpB (kco o) x y :: T)
    | _ => none)
  else if o = 20 then (match T with
    | b :: T1 => some (V, (!b) :: T1)
    | _ => none)
  else (match T with
    | c :: b :: T1 => some (V, (if o = 21 then b && c else b || c) :: T1)
    | _ => none)
def okb (V : List Int) : Bool := V.all fun x => decide (-1000000 ≤ x) && decide (x ≤ 1000000)
theorem okb_i {V : List Int} : okb V = true ↔ okV V := by
  unfold okb okV bB
  rw [List.all_eq_true]
  constructor
  · intro h x hx
    have := h x hx
    rw [Bool.and_eq_true, decide_eq_true_eq, decide_eq_true_eq] at this
    exact this
  · intro h x hx
    rw [Bool.and_eq_true, decide_eq_true_eq, decide_eq_true_eq]
    exact h x hx
def mR (e : lEnv) : List (Nat × Nat) → List Int → List Bool → Option (List Int × List Bool)
  | [], V, T => some (V, T)
  | p :: C, V, T => (mqS e p.1 p.2 V T).bind fun r => if okb r.1 then mR e C r.1 r.2 else none
theorem mR_app (e : lEnv) : ∀ C D V T, mR e (C ++ D) V T = (mR e C V T).bind fun r => mR e D r.1 r.2 := by
  intro C
  induction C with
  | nil => intro D V T; rfl
  | cons p C ih =>
    intro D V T
    show ((mqS e p.1 p.2 V T).bind fun r => if okb r.1 then mR e (C ++ D) r.1 r.2 else none) = ((mqS e p.1 p.2 V T).bind fun r => if okb r.1 then mR e C r.1 r.2 else none).bind fun r => mR e D r.1 r.2
    cases mqS e p.1 p.2 V T with
    | none => rfl
    | some r =>
      show (if okb r.1 then mR e (C ++ D) r.1 r.2 else none) = (if okb r.1 then mR e C r.1 r.2 else none).bind fun r => mR e D r.1 r.2
      cases okb r.1
      · rfl
      · exact ih D r.1 r.2
theorem mR_1 {e : lEnv} {o a : Nat} {V V' : List Int} {T T' : List Bool} (h : mqS e o a V T = some (V', T')) (hv : okV V') : mR e [(o, a)] V T = some (V', T') := by
  show ((mqS e o a V T).bind fun r => if okb r.1 then mR e [] r.1 r.2 else none) = _
  rw [h]
  show (if okb V' then mR e [] V' T' else none) = _
  rw [okb_i.mpr hv]; rfl
def VM (s : Nat) (C : List (Nat × Nat)) (v : lEnv → Int) : Prop := ∀ e0 e, eOK s e0 → agr s e0 e → bB (v e0) ∧ ∀ V T, okV V → mR e C V T = some (v e0 :: V, T)
def BM (s : Nat) (C : List (Nat × Nat)) (b : lEnv → Bool) : Prop := ∀ e0 e, eOK s e0 → agr s e0 e → ∀ V T, okV V → mR e C V T = some (V, b e0 :: T)
theorem VM_num {s a : Nat} (ha : a ≤ 9999) : VM s [(0, a)] (fun _ => (a : Int)) := by
  intro e0 e h1 h2
  have b : bB (a : Int) := ⟨by omega, by omega⟩
  exact ⟨b, fun V T hV => mR_1 rfl (okV_c b hV)⟩
theorem VM_name {s j : Nat} (ho : okN s j = true) : VM s [(1, j)] (fun e => e.1 j) := by
  intro e0 e h1 h2
  have q := h1.1 j ho
  have b : bB (e0.1 j) := ⟨by omega, by omega⟩
  refine ⟨b, fun V T hV => mR_1 ?_ (okV_c b hV)⟩
  show some (e.1 j :: V, T) = _
  rw [h2.1 j ho]
theorem VM_one {s o : Nat} {C : List (Nat × Nat)} {v : lEnv → Int} (h : VM s C v) (ho : o = 2 ∨ o = 4 ∨ o = 5) : VM s (C ++ [(o, 0)]) (fun e => xS1 e (kso o) (v e)) := by
  intro e0 e h1 h2
  obtain ⟨b, r⟩ := h e0 e h1 h2
  have b2 := xS1_b (k := kso o) h1 b
  refine ⟨b2, fun V T hV => ?_⟩
  rw [mR_app, r V T hV]
  refine mR_1 ?_ (okV_c b2 hV)
  have q : xS1 e (kso o) (v e0) = xS1 e0 (kso o) (v e0) := by unfold xS1; rw [h2.2]
  rcases ho with rfl | rfl | rfl
  · show some (xS1 e (kso 2) (v e0) :: V, T) = _; rw [q]
  · show some (xS1 e (kso 4) (v e0) :: V, T) = _; rw [q]
  · show some (xS1 e (kso 5) (v e0) :: V, T) = _; rw [q]
theorem VM_two {s o : Nat} {C D : List (Nat × Nat)} {v w : lEnv → Int} (h : VM s C v) (g : VM s D w) (ho : o = 6 ∨ o = 7 ∨ o = 8 ∨ o = 9) : VM s (C ++ D ++ [(o, 0)]) (fun e => ar (kxo o) (v e) (w e)) := by
  intro e0 e h1 h2
  obtain ⟨b, r⟩ := h e0 e h1 h2
  obtain ⟨b', r'⟩ := g e0 e h1 h2
  have b2 := ar_b (kxo o) (v e0) (w e0)
  refine ⟨b2, fun V T hV => ?_⟩
  rw [mR_app, mR_app, r V T hV, qb, r' (v e0 :: V) T (okV_c b hV)]
  refine mR_1 ?_ (okV_c b2 hV)
  rcases ho with rfl | rfl | rfl | rfl <;> rfl
theorem BM_cmp {s o : Nat} {C D : List (Nat × Nat)} {v w : lEnv → Int} (h : VM s C v) (g : VM s D w) (ho : 10 ≤ o ∧ o ≤ 15) : BM s (C ++ D ++ [(o, 0)]) (fun e => cmpB (kco o) (v e) (w e)) := by
  intro e0 e h1 h2 V T hV
  obtain ⟨b, r⟩ := h e0 e h1 h2
  obtain ⟨b', r'⟩ := g e0 e h1 h2
  rw [mR_app, mR_app, r V T hV, qb, r' (v e0 :: V) T (okV_c b hV)]
  refine mR_1 ?_ hV
  unfold mqS
  rw [if_neg (by omega), if_neg (by omega), if_neg (by omega), if_neg (by omega), if_neg (by omega), if_pos (by omega)]
theorem BM_not {s : Nat} {C : List (Nat × Nat)} {b : lEnv → Bool} (h : BM s C b) : BM s (C ++ [(20, 0)]) (fun e => !b e) := by
  intro e0 e h1 h2 V T hV
  rw [mR_app, h e0 e h1 h2 V T hV]
  show mR e [(20, 0)] V (b e0 :: T) = some (V, (!b e0) :: T)
  refine mR_1 ?_ hV
  rfl
theorem BM_and {s : Nat} {C D : List (Nat × Nat)} {b c : lEnv → Bool} (h : BM s C b) (g : BM s D c) : BM s (C ++ D ++ [(21, 0)]) (fun e => b e && c e) := by
  intro e0 e h1 h2 V T hV
  rw [mR_app, mR_app, h e0 e h1 h2 V T hV, qb, g e0 e h1 h2 V _ hV]
  show mR e [(21, 0)] V (c e0 :: b e0 :: T) = some (V, (b e0 && c e0) :: T)
  refine mR_1 ?_ hV
  rfl
theorem BM_or {s : Nat} {C D : List (Nat × Nat)} {b c : lEnv → Bool} (h : BM s C b) (g : BM s D c) : BM s (C ++ D ++ [(22, 0)]) (fun e => b e || c e) := by
  intro e0 e h1 h2 V T hV
  rw [mR_app, mR_app, h e0 e h1 h2 V T hV, qb, g e0 e h1 h2 V _ hV]
  show mR e [(22, 0)] V (c e0 :: b e0 :: T) = some (V, (b e0 || c e0) :: T)
  refine mR_1 ?_ hV
  rfl
theorem VM_if {s : Nat} {B C D : List (Nat × Nat)} {b : lEnv → Bool} {v w : lEnv → Int} (h : BM s B b) (g1 : VM s C v) (g2 : VM s D w) : VM s (B ++ C ++ D ++ [(3, 0)]) (fun e => if b e then v e else w e) := by
  intro e0 e h1 h2
  obtain ⟨b1, r1⟩ := g1 e0 e h1 h2
  obtain ⟨b2, r2⟩ := g2 e0 e h1 h2
  have b3 : bB (if b e0 then v e0 else w e0) := by split <;> assumption
  refine ⟨b3, fun V T hV => ?_⟩
  rw [mR_app, mR_app, mR_app, h e0 e h1 h2 V T hV, qb, r1 V _ hV, qb, r2 _ _ (okV_c b1 hV)]
  show mR e [(3, 0)] (w e0 :: v e0 :: V) (b e0 :: T) = some ((if b e0 then v e0 else w e0) :: V, T)
  refine mR_1 ?_ (okV_c b3 hV)
  rfl
/-- the class's words for and, or, not and the comparings are the reference's -/
theorem x_two_ar {k : Nat} (h : isAr k = true) (y x : Int) : xS2 k y x = ar k y x := by unfold xS2; rw [h]; rfl
theorem x_two_cmp {k : Nat} (h : isAr k = false) (y x : Int) : xS2 k y x = b2i (cmpB k y x) := by unfold xS2 b2i; rw [h]; rfl
theorem x_and (a b : Bool) : xS2 21 (b2i a) (b2i b) = b2i (a && b) := by cases a <;> cases b <;> decide
theorem x_or (a b : Bool) : xS2 20 (b2i a) (b2i b) = b2i (a || b) := by cases a <;> cases b <;> decide
theorem x_not (e : lEnv) (a : Bool) : xS1 e 22 (b2i a) = b2i (!a) := by cases a <;> rfl
