/-! rules for walks that a program writes: worlds of one shape, guards, well-typed references -/
def tgT (ci k : Nat) : Nat × Nat := match ci, k with
  | 0, 0 => (16, 30)
  | 1, 0 => (13, 64) | 1, 1 => (13, 7)
  | 2, 0 => (13, 16) | 2, 1 => (13, 16) | 2, 2 => (13, 289) | 2, 3 => (13, 16) | 2, 4 => (13, 80) | 2, 5 => (13, 5) | 2, 6 => (13, 5)
  | 3, 0 => (13, 80) | 3, 1 => (13, 24) | 3, 2 => (13, 30)
  | 4, 0 => (1, 3)
  | 5, 0 => (8, 6) | 5, 1 => (7, 7)
  | 6, 0 => (1, 3) | 6, 1 => (13, 5) | 6, 2 => (13, 30) | 6, 3 => (13, 600) | 6, 4 => (14, 17)
  | 7, 0 => (13, 300) | 7, 1 => (13, 24) | 7, 2 => (13, 24) | 7, 3 => (13, 24) | 7, 4 => (13, 3)
  | 8, 0 => (13, 300) | 8, 1 => (13, 301) | 8, 2 => (13, 301) | 8, 3 => (13, 301)
  | 9, 0 => (10, 5) | 9, 1 => (0, 3) | 9, 2 => (13, 8) | 9, 3 => (13, 8) | 9, 4 => (13, 8) | 9, 5 => (13, 8)
  | 10, 0 => (13, 5) | 10, 1 => (13, 80) | 10, 2 => (3, 6)
  | 11, 0 => (9, 10) | 11, 1 => (9, 10) | 11, 2 => (10, 5) | 11, 3 => (17, 4) | 11, 4 => (8, 6) | 11, 5 => (5, 8) | 11, 6 => (1, 3) | 11, 7 => (4, 1) | 11, 8 => (2, 10) | 11, 9 => (6, 5)
  | 12, 0 => (13, 4371) | 12, 1 => (13, 4371) | 12, 2 => (13, 4260) | 12, 3 => (13, 300) | 12, 15 => (13, 160) | 12, 20 => (13, 7) | 12, 21 => (14, 330) | 12, 22 => (15, 330) | 12, 25 => (13, 114) | 12, 26 => (13, 289) | 12, 27 => (13, 16) | 12, 28 => (13, 5) | 12, 29 => (13, 5) | 12, 30 => (13, 80) | 12, 32 => (13, 6) | 12, 33 => (14, 17)
  | _, _ => (0, 0)
def rO (O : Nat → Nat → Option Nat) (a k : Nat) : Nat := (O a k).getD 0
def refF (ci k : Nat) : Bool := decide (ci < 13) && decide (fK (tyT ci k) = 2) && decide (k < (vwCl.getD ci ("", fun _ => ("", "", "", false), 0)).2.2)
/-- every reference stands, and leads to a cell of its kind and length -/
def WT (Z : pZ) (O : Nat → Nat → Option Nat) : Prop := (∀ a ci n k : Nat, Z[a]? = some (ci, n) → refF ci k = true → ∃ b, O a k = some b ∧ Z[b]? = some (tgT ci k)) ∧ (∀ a n i : Nat, Z[a]? = some (16, n) → i < n → ∃ b, O a i = some b ∧ Z[b]? = some (3, 6)) ∧ (∀ a n i : Nat, Z[a]? = some (17, n) → i < n → ∃ b, O a i = some b ∧ Z[b]? = some (7, 7))
theorem wt_f {Z : pZ} {O : Nat → Nat → Option Nat} {a ci n k : Nat} (h : WT Z O) (hz : Z[a]? = some (ci, n)) (hr : refF ci k = true) : O a k = some (rO O a k) ∧ Z[rO O a k]? = some (tgT ci k) := by
  obtain ⟨b, h1, h2⟩ := h.1 a ci n k hz hr
  unfold rO
  rw [h1]
  exact ⟨rfl, h2⟩
theorem wt_m {Z : pZ} {O : Nat → Nat → Option Nat} {a n i : Nat} (h : WT Z O) (hz : Z[a]? = some (16, n)) (hi : i < n) : O a i = some (rO O a i) ∧ Z[rO O a i]? = some (3, 6) := by
  obtain ⟨b, h1, h2⟩ := h.2.1 a n i hz hi
  unfold rO
  rw [h1]
  exact ⟨rfl, h2⟩
theorem wt_s {Z : pZ} {O : Nat → Nat → Option Nat} {a n i : Nat} (h : WT Z O) (hz : Z[a]? = some (17, n)) (hi : i < n) : O a i = some (rO O a i) ∧ Z[rO O a i]? = some (7, 7) := by
  obtain ⟨b, h1, h2⟩ := h.2.2 a n i hz hi
  unfold rO
  rw [h1]
  exact ⟨rfl, h2⟩
theorem gd {c : Prop} [Decidable c] {α : Type} {A : Option α} {r : α} (h : (if c then none else A) = some r) : ¬ c ∧ A = some r := by
  by_cases hc : c
  · rw [if_pos hc] at h; cases h
  · rw [if_neg hc] at h; exact ⟨hc, h⟩
theorem bd {α β : Type} {a : Option α} {f : α → Option β} {r : β} (h : a.bind f = some r) : ∃ v, a = some v ∧ f v = some r := Option.bind_eq_some_iff.mp h
section OkWalk
variable {g : pG} {x : pX} {Q : Option Value → pW → Prop} {pc : Nat} {l : pL} {r : List Value} {w : pW} {Z : pZ} {I : Nat → Nat → Int32} {L : Nat → Nat → Int64} {O : Nat → Nat → Option Nat}
theorem pick_map (g : pG) (l : pL) : ∀ ks : List Nat, lv_pick (l.map (fun q => (q.1, ptv g q.2))) ks = (lv_pick l ks).map (fun q => (q.1, ptv g q.2)) := by
  intro ks
  induction ks with
  | nil => rfl
  | cons a ks ih =>
    unfold lv_pick at ih ⊢
    simp only [List.filterMap_cons, List.getElem?_map] at ih ⊢
    cases l[a]? with
    | none => exact ih
    | some q => exact congrArg _ ih
theorem ok_sub {l' : pL} {st : List Value} (ks : List Nat) (h : lv_pick l ks = l') (k : Ok g x Q pc l' st w) : Ok g x Q pc l st w := by
  intro p e R s m args below meth c Qf hc hx H locs ls kc kn hH hS hk hn hl
  exact k p e R s m args below meth c Qf hc hx H locs ls kc kn hH hS hk hn (lv_sub hl ks (by rw [pick_map, h]))
theorem ok_getI {idx ci k n a : Nat} (hd : decode x.2.2.1 pc = .ok (.getfield idx, 3)) (hf : FL x.2.1 idx ci k) (ht : fK (tyT ci k) = 0) (hz : Z[a]? = some (ci, n)) (hkn : k < n) (kk : Ok g x Q (pc + 3) l (.int (I a k) :: r) (Z, I, L, O)) : Ok g x Q pc l (.ref a :: r) (Z, I, L, O) :=
  ok_get hd hf hz hkn (by simp [pv, ht]) kk
theorem ok_getJ {idx ci k n a : Nat} (hd : decode x.2.2.1 pc = .ok (.getfield idx, 3)) (hf : FL x.2.1 idx ci k) (ht : fK (tyT ci k) = 1) (hz : Z[a]? = some (ci, n)) (hkn : k < n) (kk : Ok g x Q (pc + 3) l (.long (L a k) :: r) (Z, I, L, O)) : Ok g x Q pc l (.ref a :: r) (Z, I, L, O) :=
  ok_get hd hf hz hkn (by simp [pv, ht]) kk
theorem ok_getR {idx ci k n a : Nat} (hd : decode x.2.2.1 pc = .ok (.getfield idx, 3)) (hf : FL x.2.1 idx ci k) (hr : refF ci k = true) (hW : WT Z O) (hz : Z[a]? = some (ci, n)) (hkn : k < n) (kk : Ok g x Q (pc + 3) l (.ref (rO O a k) :: r) (Z, I, L, O)) : Ok g x Q pc l (.ref a :: r) (Z, I, L, O) := by
  refine ok_get hd hf hz hkn ?_ kk
  have ht : fK (tyT ci k) = 2 := by
    simp only [refF, Bool.and_eq_true, decide_eq_true_eq] at hr
    exact hr.1.2
  show pv (Z, I, L, O) ci a k = _
  simp only [pv, ht, (wt_f hW hz hr).1]
  rfl
theorem ok_iald2 {n a N : Nat} {i : Int32} (hd : decode x.2.2.1 pc = .ok (.iaload, 1)) (hz : Z[a]? = some (13, n)) (hi : vp_in i n) (hN : i.toNatClampNeg = N) (kk : Ok g x Q (pc + 1) l (.int (I a N) :: r) (Z, I, L, O)) : Ok g x Q pc l (.int i :: .ref a :: r) (Z, I, L, O) := by
  subst hN; exact ok_iald hd hz hi kk
theorem ok_lald2 {n a N : Nat} {i : Int32} (hd : decode x.2.2.1 pc = .ok (.laload, 1)) (hz : Z[a]? = some (14, n)) (hi : vp_in i n) (hN : i.toNatClampNeg = N) (kk : Ok g x Q (pc + 1) l (.long (L a N) :: r) (Z, I, L, O)) : Ok g x Q pc l (.int i :: .ref a :: r) (Z, I, L, O) := by
  subst hN; exact ok_lald hd hz hi kk
theorem ok_zald2 {n a N : Nat} {i : Int32} (hd : decode x.2.2.1 pc = .ok (.baload, 1)) (hz : Z[a]? = some (15, n)) (hi : vp_in i n) (hN : i.toNatClampNeg = N) (kk : Ok g x Q (pc + 1) l (.int (I a N) :: r) (Z, I, L, O)) : Ok g x Q pc l (.int i :: .ref a :: r) (Z, I, L, O) := by
  subst hN; exact ok_zald hd hz hi kk
theorem clamp_lt {i : Int32} {n : Nat} (h : vp_in i n) : i.toNatClampNeg < n := Nat.lt_of_not_le fun q => h (Or.inr q)
theorem ok_aald2 {kd n a N : Nat} {i : Int32} (hd : decode x.2.2.1 pc = .ok (.aaload, 1)) (hz : Z[a]? = some (kd, n)) (hkd : kd = 16 ∨ kd = 17) (hW : WT Z O) (hi : vp_in i n) (hN : i.toNatClampNeg = N) (kk : Ok g x Q (pc + 1) l (.ref (rO O a N) :: r) (Z, I, L, O)) : Ok g x Q pc l (.int i :: .ref a :: r) (Z, I, L, O) := by
  subst hN
  have hv : va_rf (O a i.toNatClampNeg) = .ref (rO O a i.toNatClampNeg) := by
    rcases hkd with rfl | rfl
    · rw [(wt_m hW hz (clamp_lt hi)).1]; rfl
    · rw [(wt_s hW hz (clamp_lt hi)).1]; rfl
  exact ok_aald hd hz hkd hi hv kk
theorem ok_iast2 {n a N : Nat} {i v : Int32} (hd : decode x.2.2.1 pc = .ok (.iastore, 1)) (hz : Z[a]? = some (13, n)) (hi : vp_in i n) (hN : i.toNatClampNeg = N) (kk : Ok g x Q (pc + 1) l r (Z, va_up I a (upd (I a) N v), L, O)) : Ok g x Q pc l (.int v :: .int i :: .ref a :: r) (Z, I, L, O) := by
  subst hN; exact ok_iast hd hz hi kk
theorem ok_zast2 {n a N : Nat} {i v : Int32} (hd : decode x.2.2.1 pc = .ok (.bastore, 1)) (hz : Z[a]? = some (15, n)) (hi : vp_in i n) (hN : i.toNatClampNeg = N) (kk : Ok g x Q (pc + 1) l r (Z, va_up I a (upd (I a) N (vp_nar .boolean v)), L, O)) : Ok g x Q pc l (.int v :: .int i :: .ref a :: r) (Z, I, L, O) := by
  subst hN; exact ok_zast hd hz hi rfl kk
theorem ok_last2 {n a N : Nat} {i : Int32} {v : Int64} (hd : decode x.2.2.1 pc = .ok (.lastore, 1)) (hz : Z[a]? = some (14, n)) (hi : vp_in i n) (hN : i.toNatClampNeg = N) (kk : Ok g x Q (pc + 1) l r (Z, I, va_up L a (vp_updL (L a) N v), O)) : Ok g x Q pc l (.long v :: .int i :: .ref a :: r) (Z, I, L, O) := by
  subst hN; exact ok_last hd hz hi kk
theorem ok_aloadQ {i : Nat} {s : Option Nat} (hd : decode x.2.2.1 pc = .ok (.aload i, 2)) (j : Nat) (hj : l[j]? = some (i, va_rf s)) (k : Ok g x Q (pc + 2) l (va_rf s :: r) w) : Ok g x Q pc l r w := by
  cases s with
  | none => exact ok_aloadN hd j hj k
  | some a => exact ok_aload hd j hj k
theorem ok_aloadQ_n {i : Fin 4} {s : Option Nat} (hd : decode x.2.2.1 pc = .ok (.aload_n i, 1)) (j : Nat) (hj : l[j]? = some ((i : Nat), va_rf s)) (k : Ok g x Q (pc + 1) l (va_rf s :: r) w) : Ok g x Q pc l r w := by
  cases s with
  | none => exact ok_aload_nN hd j hj k
  | some a => exact ok_aload_n hd j hj k
theorem rf_cat (s : Option Nat) : (va_rf s).category = 1 := by cases s <;> rfl
theorem ok_astoreQ {i : Nat} {s : Option Nat} {l' : pL} (hd : decode x.2.2.1 pc = .ok (.astore i, 2)) (hb : i < x.2.2.2.1) (h' : (i, va_rf s) :: l.filter (fun q => !(q.1 == i) && !(q.1 + 1 == i && q.2.category == 2)) = l') (k : Ok g x Q (pc + 2) l' r w) : Ok g x Q pc l (va_rf s :: r) w := by
  cases s with
  | none => exact ok_astoreN hd hb h' k
  | some a => exact ok_astore hd hb h' k
theorem ok_astoreQ_n {i : Nat} {f : Fin 4} {s : Option Nat} {l' : pL} (hd : decode x.2.2.1 pc = .ok (.astore_n f, 1)) (hi : (f : Nat) = i) (hb : i < x.2.2.2.1) (h' : (i, va_rf s) :: l.filter (fun q => !(q.1 == i) && !(q.1 + 1 == i && q.2.category == 2)) = l') (k : Ok g x Q (pc + 1) l' r w) : Ok g x Q pc l (va_rf s :: r) w := by
  cases s with
  | none => exact ok_astore_nN hd hi hb h' k
  | some a => exact ok_astore_n hd hi hb h' k
theorem ok_ifnullQ {s : Option Nat} {off : Int} {t : Nat} (hd : decode x.2.2.1 pc = .ok (.ifnull off, 3)) (ht : (pc : Int) + off = (t : Int)) (kt : s = none → Ok g x Q t l r w) (kf : ∀ b, s = some b → Ok g x Q (pc + 3) l r w) : Ok g x Q pc l (va_rf s :: r) w := by
  cases s with
  | none => exact ok_ifnullN hd ht (kt rfl)
  | some a => exact ok_ifnull hd (kf a rfl)
theorem ok_ifnonnullQ {s : Option Nat} {off : Int} {t : Nat} (hd : decode x.2.2.1 pc = .ok (.ifnonnull off, 3)) (ht : (pc : Int) + off = (t : Int)) (kt : ∀ b, s = some b → Ok g x Q t l r w) (kf : s = none → Ok g x Q (pc + 3) l r w) : Ok g x Q pc l (va_rf s :: r) w := by
  cases s with
  | none => exact ok_ifnonnullN hd (kf rfl)
  | some a => exact ok_ifnonnull hd ht (kt a rfl)
theorem ok_aretQ {s : Option Nat} (hd : decode x.2.2.1 pc = .ok (.areturn, 1)) (k : Q (some (va_rf s)) w) : Ok g x Q pc l [va_rf s] w := by
  cases s with
  | none => exact ok_aretN hd k
  | some a => exact ok_aret hd k
theorem ok_tabEq {d lo hi off : Int} {os : Array Int} {n t : Nat} {a c : Int32} (hd : decode x.2.2.1 pc = .ok (.tableswitch d lo hi os, n)) (hx : a = c) (h1 : ¬ c.toInt < lo) (h2 : ¬ hi < c.toInt) (ho : os[(c.toInt - lo).toNat]? = some off) (ht : (pc : Int) + off = (t : Int)) (k : Ok g x Q t l r w) : Ok g x Q pc l (.int a :: r) w := by
  subst hx; exact ok_tabIn hd h1 h2 ho ht k
theorem ok_lookEq {d off : Int} {ps : Array (Int × Int)} {n t : Nat} {a c : Int32} (hd : decode x.2.2.1 pc = .ok (.lookupswitch d ps, n)) (hp : (ps.toList.zip (ps.toList.drop 1)).all (fun (a, next) => a.1 < next.1) = true) (hx : a = c) (ho : Op.lookupswitch.offset ps.toList d c.toInt = off) (ht : (pc : Int) + off = (t : Int)) (k : Ok g x Q t l r w) : Ok g x Q pc l (.int a :: r) w := by
  subst hx; exact ok_look hd hp ho ht k
theorem neI {x k : Int32} {a : Int} (h : ¬ x = k) (hk : k.toInt = a) : ¬ x.toInt = a := lv_neT h hk
theorem pRt_mono {d mc ms : Nat} {mt : pMT} {args : List Value} {Q1 : Option Value → pW → Prop} (h : CT g d mt mc ms args w (fun v w' => pRt mt.2.2.2 v → Q1 v w')) : CT g d mt mc ms args w Q1 := by
  intro p e ha hc hk s m args below hf happ hP hT
  obtain ⟨t, o, h1, h2, h3, ⟨⟨⟨v, w', e1, e2, e3, e4⟩, hF⟩, h5⟩⟩ := h p e ha hc hk s m args below hf happ hP hT
  exact ⟨t, o, h1, h2, h3, ⟨⟨⟨v, w', e1, e2, e3 e2, e4⟩, hF⟩, h5⟩⟩
end OkWalk
