/-! constructors: rules over whole worlds -/
def wI (w : pW) (a k : Nat) (v : Int32) : pW := (w.1, sI w.2.1 a k v, w.2.2.1, w.2.2.2)
def wR (w : pW) (a k v : Nat) : pW := (w.1, w.2.1, w.2.2.1, sO w.2.2.2 a k (some v))
theorem len_new (w : pW) (kn : Nat × Nat) : (pNew w kn).1.length = w.1.length + 1 := by simp [pNew]
theorem sl_new (w : pW) (kn : Nat × Nat) : pSl (pNew w kn).1 = pSl w.1 + kn.2 := pSl_new
theorem z_new {w : pW} {kn q : Nat × Nat} {a : Nat} (h : w.1[a]? = some q) : (pNew w kn).1[a]? = some q := by
  show (w.1 ++ [kn])[a]? = some q
  rw [List.getElem?_append_left (List.getElem?_eq_some_iff.mp h).1]
  exact h
theorem z_at (w : pW) (kn : Nat × Nat) : (pNew w kn).1[w.1.length]? = some kn := by simp [pNew]
theorem sl_app (Y P : pZ) : pSl (Y ++ P) = pSl Y + pSl P := by simp [pSl]
theorem z_app {w w' : pW} {P : pZ} {a : Nat} {q : Nat × Nat} (h : w'.1 = w.1 ++ P) (hz : w.1[a]? = some q) : w'.1[a]? = some q := by
  rw [h, List.getElem?_append_left (List.getElem?_eq_some_iff.mp hz).1]
  exact hz
section OkI
variable {g : pG} {x : pX} {Q : Option Value → pW → Prop} {pc : Nat} {l : pL} {r : List Value} {w w' : pW}
theorem oi_putI {idx ci k n a : Nat} {v : Int32} (hd : decode x.2.2.1 pc = .ok (.putfield idx, 3)) (hf : FL x.2.1 idx ci k) (hty : tyT ci k = .int) (hfin : fOK x ci k) (hz : w.1[a]? = some (ci, n)) (hkn : k < n) (hw : w' = wI w a k v) (kk : Ok g x Q (pc + 3) l r w') : Ok g x Q pc l (.int v :: .ref a :: r) w := by
  obtain ⟨Z, I, L, O⟩ := w; subst hw; exact ok_putI hd hf hty hfin hz hkn kk
theorem oi_putZ {idx ci k n a : Nat} {v : Int32} (hd : decode x.2.2.1 pc = .ok (.putfield idx, 3)) (hf : FL x.2.1 idx ci k) (hty : tyT ci k = .boolean) (hfin : fOK x ci k) (hz : w.1[a]? = some (ci, n)) (hkn : k < n) (hv : v = 0 ∨ v = 1) (hw : w' = wI w a k v) (kk : Ok g x Q (pc + 3) l r w') : Ok g x Q pc l (.int v :: .ref a :: r) w := by
  obtain ⟨Z, I, L, O⟩ := w; subst hw; exact ok_putZ hd hf hty hfin hz hkn hv kk
theorem oi_putR {idx ci k n a v : Nat} {ty : FieldType} (hd : decode x.2.2.1 pc = .ok (.putfield idx, 3)) (hf : FL x.2.1 idx ci k) (hty : tyT ci k = ty) (hr : (∃ C, ty = .object C) ∨ ∃ t, ty = .array t) (hfin : fOK x ci k) (hz : w.1[a]? = some (ci, n)) (hkn : k < n) (hw : w' = wR w a k v) (kk : Ok g x Q (pc + 3) l r w') : Ok g x Q pc l (.ref v :: .ref a :: r) w := by
  obtain ⟨Z, I, L, O⟩ := w; subst hw; exact ok_putR hd hf hty hr hfin hz hkn kk
theorem oi_getR {idx ci k n a b : Nat} (hd : decode x.2.2.1 pc = .ok (.getfield idx, 3)) (hf : FL x.2.1 idx ci k) (ht : fK (tyT ci k) = 2) (hz : w.1[a]? = some (ci, n)) (hkn : k < n) (hv : w.2.2.2 a k = some b) (kk : Ok g x Q (pc + 3) l (.ref b :: r) w) : Ok g x Q pc l (.ref a :: r) w :=
  ok_get hd hf hz hkn (by simp [pv, ht, hv, va_rf]) kk
theorem oi_iast {n a N : Nat} {i v : Int32} (hd : decode x.2.2.1 pc = .ok (.iastore, 1)) (hz : w.1[a]? = some (13, n)) (hi : vp_in i n) (hN : i.toNatClampNeg = N) (hw : w' = wI w a N v) (kk : Ok g x Q (pc + 1) l r w') : Ok g x Q pc l (.int v :: .int i :: .ref a :: r) w := by
  obtain ⟨Z, I, L, O⟩ := w; subst hw; subst hN; exact ok_iast hd hz hi kk
theorem oi_aast {kd ci m' n a b N : Nat} {i : Int32} (hd : decode x.2.2.1 pc = .ok (.aastore, 1)) (hz : w.1[a]? = some (kd, n)) (hkd : (kd = 16 ∧ ci = 3) ∨ (kd = 17 ∧ ci = 7)) (hb : w.1[b]? = some (ci, m')) (hi : vp_in i n) (hN : i.toNatClampNeg = N) (hw : w' = wR w a N b) (kk : Ok g x Q (pc + 1) l r w') : Ok g x Q pc l (.ref b :: .int i :: .ref a :: r) w := by
  obtain ⟨Z, I, L, O⟩ := w; subst hw; subst hN; exact ok_aast hd hz hkd hb hi kk
theorem oi_new {idx ci : Nat} {q : vw_C} (hd : decode x.2.2.1 pc = .ok (.new idx, 3)) (hq : vwCl[ci]? = some q) (hcl : Cond.classLink x.2.1 idx q.1 ∈ lw_tbl) (hlen : w.1.length < 1000) (hc1 : w.1.length + 1 ≤ x.2.2.2.2.2.2.2.1 + x.2.2.2.2.2.1) (hs1 : pSl w.1 + q.2.2 ≤ x.2.2.2.2.2.2.2.2 + x.2.2.2.2.2.2.1) (hw : w' = pNew w (ci, q.2.2)) (kk : Ok g x Q (pc + 3) l (.ref w.1.length :: r) w') : Ok g x Q pc l r w := by
  subst hw; exact ok_new hd hq hcl hlen hc1 hs1 kk
theorem oi_newa {at' : ArrayType} {kd N : Nat} {n : Int32} {ty : FieldType} (hd : decode x.2.2.1 pc = .ok (.newarray at', 2)) (hty : newarray.typeOf at' = ty) (hkd : (kd = 13 ∧ ty = .int) ∨ (kd = 14 ∧ ty = .long) ∨ (kd = 15 ∧ ty = .boolean)) (hwd : Cond.arrayClass ty ∈ lw_tbl) (hn0 : ¬ n < 0) (hN : n.toNatClampNeg = N) (hb : N ≤ 60000000) (hlen : w.1.length < 1000) (hc1 : w.1.length + 1 ≤ x.2.2.2.2.2.2.2.1 + x.2.2.2.2.2.1) (hs1 : pSl w.1 + N ≤ x.2.2.2.2.2.2.2.2 + x.2.2.2.2.2.2.1) (hw : w' = pNew w (kd, N)) (kk : Ok g x Q (pc + 2) l (.ref w.1.length :: r) w') : Ok g x Q pc l (.int n :: r) w := by
  subst hw; exact ok_newa hd hty hkd hwd hn0 hN hb hlen hc1 hs1 kk
theorem oi_newq {idx kd N : Nat} {C : String} {n : Int32} (hd : decode x.2.2.1 pc = .ok (.anewarray idx, 3)) (hkd : (kd = 16 ∧ C = RX3) ∨ (kd = 17 ∧ C = RX7)) (hcl : Cond.classLink x.2.1 idx C ∈ lw_tbl) (hn0 : ¬ n < 0) (hN : n.toNatClampNeg = N) (hb : N ≤ 60000000) (hlen : w.1.length < 1000) (hc1 : w.1.length + 1 ≤ x.2.2.2.2.2.2.2.1 + x.2.2.2.2.2.1) (hs1 : pSl w.1 + N ≤ x.2.2.2.2.2.2.2.2 + x.2.2.2.2.2.2.1) (hw : w' = pNew w (kd, N)) (kk : Ok g x Q (pc + 3) l (.ref w.1.length :: r) w') : Ok g x Q pc l (.int n :: r) w := by
  subst hw; exact ok_newq hd hkd hcl hn0 hN hb hlen hc1 hs1 kk
end OkI
theorem lt_z {Z : pZ} {a : Nat} {q : Nat × Nat} (h : Z[a]? = some q) : a < Z.length := (List.getElem?_eq_some_iff.mp h).1
theorem ne_z {Z : pZ} {a b : Nat} {q r : Nat × Nat} (h : Z[a]? = some q) (h2 : Z[b]? = some r) (hn : q.1 ≠ r.1) : a ≠ b := fun e => by subst e; rw [h] at h2; cases h2; exact hn rfl
theorem o_new {w : pW} {kn q : Nat × Nat} {a k : Nat} (h : w.1[a]? = some q) : (pNew w kn).2.2.2 a k = w.2.2.2 a k := by
  show va_up w.2.2.2 w.1.length (fun _ => none) a k = _
  rw [va_up_ne _ _ (Nat.ne_of_lt (lt_z h))]
theorem o_R {w : pW} {a k v b j : Nat} (h : b ≠ a ∨ j ≠ k) : (wR w a k v).2.2.2 b j = w.2.2.2 b j := by
  show va_up w.2.2.2 a (va_up (w.2.2.2 a) k (some v)) b j = _
  by_cases hb : b = a
  · subst hb
    rcases h with h | h
    · exact absurd rfl h
    · rw [va_up_self, va_up_ne _ _ h]
  · rw [va_up_ne _ _ hb]
theorem o_at (w : pW) (a k v : Nat) : (wR w a k v).2.2.2 a k = some v := by
  show va_up w.2.2.2 a (va_up (w.2.2.2 a) k (some v)) a k = _
  rw [va_up_self, va_up_self]
theorem ln_new {w wk w1 : pW} {kn : Nat × Nat} {j : Nat} (e : w1 = pNew wk kn) (h : wk.1.length = w.1.length + j) : w1.1.length = w.1.length + (j + 1) := by
  rw [e, len_new, h]; rfl
theorem sn_new {w wk w1 : pW} {kd n s : Nat} (e : w1 = pNew wk (kd, n)) (h : pSl wk.1 = pSl w.1 + s) : pSl w1.1 = pSl w.1 + (s + n) := by
  rw [e, sl_new, h]; exact Nat.add_assoc _ _ _
theorem ln_sub {a b c j k : Nat} (h : a = b + k) (h2 : b = c + j) : a = c + (j + k) := by omega
theorem b_len {a wl j mc : Nat} (h : a = wl + j) (hL : wl + mc ≤ 1000) (hj : j + 1 ≤ mc) : a < 1000 := by omega
theorem b_c1 {a wl j mc : Nat} (h : a = wl + j) (hj : j + 1 ≤ mc) : a + 1 ≤ wl + mc := by omega
theorem b_s1 {a wl j N ms : Nat} (h : a = wl + j) (hj : j + N ≤ ms) : a + N ≤ wl + ms := by omega
theorem b_cm {a wl j k mc : Nat} (h : a = wl + j) (hj : j + k ≤ mc) : a + k ≤ wl + mc := by omega
theorem b_sub {a wl j k mc : Nat} (h : a = wl + j) (hL : wl + mc ≤ 1000) (hj : j + k ≤ mc) : a + k ≤ 1000 := by omega
theorem dep_le (d : Nat) {a b c : Nat} (h : a + b + 1 ≤ c) : d + a + b + 1 ≤ d + c := by omega
theorem wa_int : Cond.arrayClass .int ∈ lw_tbl := by decide +kernel
theorem wa_long : Cond.arrayClass .long ∈ lw_tbl := by decide +kernel
theorem wa_bool : Cond.arrayClass .boolean ∈ lw_tbl := by decide +kernel
/-- what stays over a constructor's steps -/
abbrev PF (w wk : pW) (a j s : Nat) : Prop := (wk.1.length = w.1.length + j ∧ pSl wk.1 = pSl w.1 + s) ∧ (∀ (c : Nat) (q : Nat × Nat), w.1[c]? = some q → wk.1[c]? = some q) ∧ ∀ (c k : Nat) (q : Nat × Nat), w.1[c]? = some q → c ≠ a → wk.2.2.2 c k = w.2.2.2 c k
theorem pf_new {w wk w1 : pW} {a j s kd n : Nat} (h : PF w wk a j s) (e : w1 = pNew wk (kd, n)) : PF w w1 a (j + 1) (s + n) := by
  subst e
  refine ⟨⟨?_, ?_⟩, fun c q hc => z_new (h.2.1 c q hc), fun c k q hc hn => ?_⟩
  · rw [len_new, h.1.1]; rfl
  · rw [sl_new, h.1.2]; exact Nat.add_assoc _ _ _
  · rw [o_new (h.2.1 c q hc)]; exact h.2.2 c k q hc hn
theorem pf_ne {w wk : pW} {a j s c : Nat} {q : Nat × Nat} (h : PF w wk a j s) (hc : w.1[c]? = some q) : c ≠ wk.1.length := by
  have h1 := lt_z hc
  have h2 := h.1.1
  omega
theorem pf_I {w wk w1 : pW} {a j s b k : Nat} {v : Int32} (h : PF w wk a j s) (e : w1 = wI wk b k v) : PF w w1 a j s := by
  subst e; exact h
theorem pf_R {w wk w1 : pW} {a j s b i v : Nat} (h : PF w wk a j s) (e : w1 = wR wk b i v) (hb : ∀ (c : Nat) (q : Nat × Nat), w.1[c]? = some q → b = a ∨ c ≠ b) : PF w w1 a j s := by
  subst e
  refine ⟨h.1, h.2.1, fun c k q hc hn => ?_⟩
  rw [o_R]
  · exact h.2.2 c k q hc hn
  · rcases hb c q hc with hb | hb
    · subst hb; exact Or.inl hn
    · exact Or.inl hb
theorem pf_S {w wk w1 : pW} {a j s b j2 s2 : Nat} (h : PF w wk a j s) (F : w1.1.length = wk.1.length + j2 ∧ pSl w1.1 = pSl wk.1 + s2 ∧ (∀ (c : Nat) (q : Nat × Nat), wk.1[c]? = some q → w1.1[c]? = some q) ∧ ∀ (c k : Nat) (q : Nat × Nat), wk.1[c]? = some q → c ≠ b → w1.2.2.2 c k = wk.2.2.2 c k) (hb : ∀ (c : Nat) (q : Nat × Nat), w.1[c]? = some q → c ≠ b) : PF w w1 a (j + j2) (s + s2) := by
  refine ⟨⟨?_, ?_⟩, fun c q hc => F.2.2.1 c q (h.2.1 c q hc), fun c k q hc hn => ?_⟩
  · rw [F.1, h.1.1]; exact Nat.add_assoc _ _ _
  · rw [F.2.1, h.1.2]; exact Nat.add_assoc _ _ _
  · rw [F.2.2.2 c k q (h.2.1 c q hc) (hb c q hc)]; exact h.2.2 c k q hc hn
