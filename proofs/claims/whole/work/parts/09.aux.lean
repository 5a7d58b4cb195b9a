/-! words of the written functions, and their rules -/
theorem tb_i {c : Cond} (i : Nat) (h : tables_1[i]? = some c) : c ∈ lw_tbl := List.mem_append_right _ (List.mem_of_getElem? h)
theorem tb_p {c : Cond} (i : Nat) (h : (k2_sels lw_privs)[i]? = some c) : c ∈ lw_tbl := List.mem_append_left _ (List.mem_of_getElem? h)
def bl {α β : Type} (a : α) (f : α → β) : β := f a
theorem blE {α β : Type} {a : α} {f : α → β} {r : β} (h : bl a f = r) : ∃ v, v = a ∧ f v = r := ⟨a, rfl, h⟩
def sI (I : Nat → Nat → Int32) (a k : Nat) (v : Int32) : Nat → Nat → Int32 := va_up I a (upd (I a) k v)
def sL (L : Nat → Nat → Int64) (a k : Nat) (v : Int64) : Nat → Nat → Int64 := va_up L a (vp_updL (L a) k v)
def sO (O : Nat → Nat → Option Nat) (a k : Nat) (v : Option Nat) : Nat → Nat → Option Nat := va_up O a (va_up (O a) k v)
def cpI (I : Nat → Nat → Int32) (a b s t n : Nat) : Nat → Nat → Int32 := va_up I b (va_cpy (I a) (I b) s t n)
def flI (I : Nat → Nat → Int32) (a n : Nat) (v : Int32) : Nat → Nat → Int32 := va_up I a (fun i => if i < n then v else I a i)
def flL (L : Nat → Nat → Int64) (a n : Nat) (v : Int64) : Nat → Nat → Int64 := va_up L a (fun i => if i < n then v else L a i)
theorem rt_rf (C : String) (s : Option Nat) : pRt (some (.object C)) (some (va_rf s)) := by cases s <;> trivial
theorem lkc {ps : List (Int × Int)} {a o d x : Int} (h : ¬ x = a) : Op.lookupswitch.offset ((a, o) :: ps) d x = Op.lookupswitch.offset ps d x := by
  rw [Op.lookupswitch.offset, if_neg (fun e => h e.symm)]
theorem lk_out {ps : List (Int × Int)} {d x : Int} (h : ∀ q ∈ ps, ¬ x = q.1) : Op.lookupswitch.offset ps d x = d := by
  induction ps with
  | nil => rfl
  | cons q ps ih =>
    have h1 := h q List.mem_cons_self
    have h2 := ih (fun q hq => h q (List.mem_cons_of_mem _ hq))
    obtain ⟨a, o⟩ := q
    rw [Op.lookupswitch.offset, if_neg (fun e => h1 e.symm)]
    exact h2
theorem wt_put {Z : pZ} {O : Nat → Nat → Option Nat} {a ci n k v c2 n2 : Nat} (hW : WT Z O) (hz : Z[a]? = some (ci, n)) (hci : ci < 13) (ht : tgT ci k = (c2, n2)) (hv : Z[v]? = some (c2, n2)) : WT Z (sO O a k (some v)) := by
  have key : ∀ a' k' : Nat, sO O a k (some v) a' k' = if a' = a ∧ k' = k then some v else O a' k' := by
    intro a' k'
    unfold sO va_up
    by_cases h1 : a' = a
    · subst h1
      by_cases h2 : k' = k
      · rw [if_pos rfl, if_pos h2, if_pos ⟨rfl, h2⟩]
      · rw [if_pos rfl, if_neg h2, if_neg (fun q => h2 q.2)]
    · rw [if_neg h1, if_neg (fun q => h1 q.1)]
  refine ⟨fun a' ci' n' k' hz' hr => ?_, fun a' n' i hz' hi => ?_, fun a' n' i hz' hi => ?_⟩
  · rw [key]
    by_cases h : a' = a ∧ k' = k
    · rw [if_pos h]
      obtain ⟨rfl, rfl⟩ := h
      rw [hz] at hz'
      cases hz'
      exact ⟨v, rfl, by rw [ht]; exact hv⟩
    · rw [if_neg h]
      exact hW.1 a' ci' n' k' hz' hr
  · rw [key, if_neg]
    · exact hW.2.1 a' n' i hz' hi
    · rintro ⟨rfl, -⟩
      rw [hz] at hz'
      cases hz'
      omega
  · rw [key, if_neg]
    · exact hW.2.2 a' n' i hz' hi
    · rintro ⟨rfl, -⟩
      rw [hz] at hz'
      cases hz'
      omega
section OkAux
variable {g : pG} {x : pX} {Q : Option Value → pW → Prop} {pc : Nat} {l : pL} {r : List Value} {w : pW} {Z : pZ} {I I1 : Nat → Nat → Int32} {L L1 : Nat → Nat → Int64} {O O1 : Nat → Nat → Option Nat}
theorem ok_nm {z e : Int32} (hz : z = e) (k : Ok g x Q pc l (.int z :: r) w) : Ok g x Q pc l (.int e :: r) w := hz ▸ k
theorem ok_nmJ {z e : Int64} (hz : z = e) (k : Ok g x Q pc l (.long z :: r) w) : Ok g x Q pc l (.long e :: r) w := hz ▸ k
theorem ok_putI2 {idx ci k n a : Nat} {v : Int32} (hd : decode x.2.2.1 pc = .ok (.putfield idx, 3)) (hf : FL x.2.1 idx ci k) (hty : tyT ci k = .int) (hfin : fOK x ci k) (hz : Z[a]? = some (ci, n)) (hkn : k < n) (hI : I1 = sI I a k v) (kk : Ok g x Q (pc + 3) l r (Z, I1, L, O)) : Ok g x Q pc l (.int v :: .ref a :: r) (Z, I, L, O) := by
  subst hI; exact ok_putI hd hf hty hfin hz hkn kk
theorem ok_putZ2 {idx ci k n a : Nat} {v : Int32} (hd : decode x.2.2.1 pc = .ok (.putfield idx, 3)) (hf : FL x.2.1 idx ci k) (hty : tyT ci k = .boolean) (hfin : fOK x ci k) (hz : Z[a]? = some (ci, n)) (hkn : k < n) (hv : v = 0 ∨ v = 1) (hI : I1 = sI I a k v) (kk : Ok g x Q (pc + 3) l r (Z, I1, L, O)) : Ok g x Q pc l (.int v :: .ref a :: r) (Z, I, L, O) := by
  subst hI; exact ok_putZ hd hf hty hfin hz hkn hv kk
theorem ok_putJ2 {idx ci k n a : Nat} {v : Int64} (hd : decode x.2.2.1 pc = .ok (.putfield idx, 3)) (hf : FL x.2.1 idx ci k) (hty : tyT ci k = .long) (hfin : fOK x ci k) (hz : Z[a]? = some (ci, n)) (hkn : k < n) (hI : L1 = sL L a k v) (kk : Ok g x Q (pc + 3) l r (Z, I, L1, O)) : Ok g x Q pc l (.long v :: .ref a :: r) (Z, I, L, O) := by
  subst hI; exact ok_putJ hd hf hty hfin hz hkn kk
theorem ok_putR2 {idx ci k n a v : Nat} {ty : FieldType} (hd : decode x.2.2.1 pc = .ok (.putfield idx, 3)) (hf : FL x.2.1 idx ci k) (hty : tyT ci k = ty) (hr : (∃ C, ty = .object C) ∨ ∃ t, ty = .array t) (hfin : fOK x ci k) (hz : Z[a]? = some (ci, n)) (hkn : k < n) (hI : O1 = sO O a k (some v)) (kk : Ok g x Q (pc + 3) l r (Z, I, L, O1)) : Ok g x Q pc l (.ref v :: .ref a :: r) (Z, I, L, O) := by
  subst hI; exact ok_putR hd hf hty hr hfin hz hkn kk
theorem ok_iast3 {n a N : Nat} {i v : Int32} (hd : decode x.2.2.1 pc = .ok (.iastore, 1)) (hz : Z[a]? = some (13, n)) (hi : vp_in i n) (hN : i.toNatClampNeg = N) (hI : I1 = sI I a N v) (kk : Ok g x Q (pc + 1) l r (Z, I1, L, O)) : Ok g x Q pc l (.int v :: .int i :: .ref a :: r) (Z, I, L, O) := by
  subst hI; exact ok_iast2 hd hz hi hN kk
theorem ok_zast3 {n a N : Nat} {i v : Int32} (hd : decode x.2.2.1 pc = .ok (.bastore, 1)) (hz : Z[a]? = some (15, n)) (hi : vp_in i n) (hN : i.toNatClampNeg = N) (hI : I1 = sI I a N (vp_nar .boolean v)) (kk : Ok g x Q (pc + 1) l r (Z, I1, L, O)) : Ok g x Q pc l (.int v :: .int i :: .ref a :: r) (Z, I, L, O) := by
  subst hI; exact ok_zast2 hd hz hi hN kk
theorem ok_last3 {n a N : Nat} {i : Int32} {v : Int64} (hd : decode x.2.2.1 pc = .ok (.lastore, 1)) (hz : Z[a]? = some (14, n)) (hi : vp_in i n) (hN : i.toNatClampNeg = N) (hI : L1 = sL L a N v) (kk : Ok g x Q (pc + 1) l r (Z, I, L1, O)) : Ok g x Q pc l (.long v :: .int i :: .ref a :: r) (Z, I, L, O) := by
  subst hI; exact ok_last2 hd hz hi hN kk
theorem ok_copy2 {idx n0 n1 a0 a1 N S T : Nat} {sp dp n : Int32} (hd : decode x.2.2.1 pc = .ok (.invokestatic idx, 3)) (hlk : Cond.methodLink x.2.1 idx arraycopyName ∈ lw_tbl) (hz0 : Z[a0]? = some (13, n0)) (hz1 : Z[a1]? = some (13, n1)) (h1 : ¬ sp < 0) (h2 : ¬ dp < 0) (h3 : ¬ n < 0) (eS : sp.toNatClampNeg = S) (eT : dp.toNatClampNeg = T) (eN : n.toNatClampNeg = N) (h4 : S + N ≤ n0) (h5 : T + N ≤ n1) (hr : (r.map fun v => v.category).sum ≤ 8) (hdp : 1 ≤ x.1) (hI : I1 = cpI I a0 a1 S T N)
    (kk : Ok g x Q (pc + 3) l r (Z, I1, L, O)) : Ok g x Q pc l (.int n :: .int dp :: .ref a1 :: .int sp :: .ref a0 :: r) (Z, I, L, O) := by
  subst hI; subst eS; subst eT; subst eN; exact ok_copy hd hlk hz0 hz1 h1 h2 h3 h4 h5 hr hdp kk
end OkAux
