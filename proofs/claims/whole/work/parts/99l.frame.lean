/-! what the reference's laws leave of the longs -/
def PO {α : Type} (P : α → Prop) (x : Option α) : Prop := ∀ a, x = some a → P a
theorem PO_n {α : Type} {P : α → Prop} : PO P none := fun _ h => nomatch h
theorem PO_s {α : Type} {P : α → Prop} {a : α} (h : P a) : PO P (some a) := fun b e => by cases e; exact h
theorem PO_i {α : Type} {P : α → Prop} {c : Prop} {d : Decidable c} {x y : Option α} (h1 : PO P x) (h2 : PO P y) : PO P (ite c x y) := by
  split
  · exact h1
  · exact h2
theorem PO_b {α β : Type} {P : β → Prop} {x : Option α} {f : α → Option β} (h : ∀ a, PO P (f a)) : PO P (x.bind f) := by
  cases x with
  | none => exact PO_n
  | some a => exact h a
theorem PO_b2 {α β : Type} {Q : α → Prop} {P : β → Prop} {x : Option α} {f : α → Option β} (hx : PO Q x) (h : ∀ a, Q a → PO P (f a)) : PO P (x.bind f) := by
  cases x with
  | none => exact PO_n
  | some a => exact h a (hx a rfl)
theorem PO_l {α β : Type} {P : β → Prop} {v : α} {f : α → Option β} (h : PO P (f v)) : PO P (bl v f) := h
section FL
variable {n : Nat} {O : TO}
theorem fr_sum (hO : OF O) (l : Nat → Int64) : ∀ m (I : TI) (L : TL) y3 y4 y5 y6 y7, L 347 = l → PO (fun r => r.2.2 347 = l) (f12_summedUp_c40 n O m I L 331 y3 y4 y5 y6 y7) := by
  have o : 347 ≠ rO O 331 21 := by rw [o_331_21 hO]; omega
  intro m
  induction m with
  | zero => intro I L y3 y4 y5 y6 y7 h; rw [f12_summedUp_c40]; exact PO_n
  | succ m ih =>
    intro I L y3 y4 y5 y6 y7 h
    rw [f12_summedUp_c40]
    have s : ∀ k v, sL L (rO O 331 21) k v 347 = l := fun k v => by rw [sL_o _ _ o]; exact h
    repeat' first | with_reducible apply PO_i | with_reducible exact PO_n | with_reducible apply PO_l | with_reducible exact ih _ _ _ _ _ _ _ h | with_reducible exact ih _ _ _ _ _ _ _ (s _ _) | (with_reducible apply PO_b; intro _) | exact PO_s h
theorem fr_says (hO : OF O) (l : Nat → Int64) : ∀ m (I : TI) (L : TL) y1 y2 y3 y4 y5, L 347 = l → PO (fun r => r.2.2 347 = l) (f12_says_c3 n O m I L 331 y1 y2 y3 y4 y5) := by
  intro m
  induction m with
  | zero => intro I L y1 y2 y3 y4 y5 h; rw [f12_says_c3]; exact PO_n
  | succ m ih =>
    intro I L y1 y2 y3 y4 y5 h
    rw [f12_says_c3]
    refine PO_i (PO_b fun _ => PO_s h) (PO_i PO_n (PO_i (PO_b fun _ => PO_s h) (PO_i PO_n (PO_i (PO_b2 (Q := fun r => r.2.2 347 = l) ?_ (fun a ha => PO_b fun _ => PO_s ha)) (ih _ _ _ _ _ _ _ h)))))
    unfold f12_summedUp
    exact PO_l (PO_l (PO_i PO_n (PO_l (fr_sum hO l _ _ _ _ _ _ _ _ h))))
theorem fr_blurs (hO : OF O) {I : TI} {L : TL} {x1 x2 x3 : Int32} : PO (fun r => r.2.2 347 = L 347) (f12_blursOf n I L O 331 x1 x2 x3) := by
  unfold f12_blursOf
  refine PO_b fun _ => PO_b fun _ => PO_b fun _ => PO_b fun _ => PO_b2 (Q := fun r => r.2.2 347 = L 347) ?_ (fun a ha => PO_s ha)
  unfold f12_says
  exact fr_says hO _ _ _ _ _ _ _ _ _ rfl
end FL
