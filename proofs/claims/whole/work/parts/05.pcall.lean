/-! the plain machine: making, copying, calls, contracts -/
def pNew (w : pW) (kn : Nat × Nat) : pW := (w.1 ++ [kn], va_up w.2.1 w.1.length (fun _ => 0), va_up w.2.2.1 w.1.length (fun _ => 0), va_up w.2.2.2 w.1.length (fun _ => none))
theorem pE_new {g : pG} {w : pW} {kn : Nat × Nat} : ∀ j, j ≠ w.1.length → ∀ q, pE g (pNew w kn) j q = pE g w j q := by
  intro j hj q
  simp only [pE, pAr, pv, pNew, va_up, if_neg hj]
theorem pWs_new {g : pG} {w : pW} {kn : Nat × Nat} (h1 : 1 ≤ w.1.length) : pWs g (pNew w kn) = pWs g w ++ [(gz g + (w.1.length - 1), pE g (pNew w kn) w.1.length kn)] := by
  have hl : (pWs g w).length = w.1.length - 1 := by unfold pWs; simp
  apply List.ext_getElem?
  intro i
  by_cases hi : i + 1 < w.1.length
  · obtain ⟨q, hq⟩ : ∃ q, w.1[i + 1]? = some q := ⟨_, List.getElem?_eq_getElem hi⟩
    rw [List.getElem?_append_left (by omega), pWs_get hq, pWs_get (w := pNew w kn) (kn := q) (by show (w.1 ++ [kn])[i + 1]? = _; rw [List.getElem?_append_left hi]; exact hq), pE_new _ (by omega)]
  · rw [List.getElem?_append_right (by omega)]
    by_cases he : i + 1 = w.1.length
    · rw [pWs_get (w := pNew w kn) (kn := kn) (by show (w.1 ++ [kn])[i + 1]? = _; rw [he]; simp)]
      rw [hl, show i - (w.1.length - 1) = 0 by omega, show i + 1 = w.1.length from he, show i = w.1.length - 1 by omega]
      rfl
    · rw [pWs_none (by show (w.1 ++ [kn]).length ≤ _; simp; omega), List.getElem?_eq_none (by simp; omega)]
theorem pSl_new {Z : pZ} {kn : Nat × Nat} : pSl (Z ++ [kn]) = pSl Z + kn.2 := by simp [pSl]
theorem pv_new {w : pW} {kn : Nat × Nat} {ci k : Nat} : pv (pNew w kn) ci w.1.length k = pdf (fK (tyT ci k)) := by
  unfold pv pNew pdf
  simp only [va_up, if_true]
  rfl
section OkMake
variable {g : pG} {x : pX} {Q : Option Value → pW → Prop} {pc : Nat} {l : pL} {r : List Value} {w : pW}
/-- behind a making -/
theorem p_mk {s : State} {H H1 : Heap} {locs : List Loc} {kc z0 : Nat} {kn : Nat × Nat} (hH : pH g w H) (hS : va_S (pA g) s.heap H locs) (hcx : s.heap.size + 1 = gz g + z0) (hk : w.1.length = z0 + kc) (hlen : w.1.length < 1000)
    (z1 : H1.size = H.size + 1) (o1 : ∀ q : Nat, q < H.size → H1[q]? = H[q]?) (he : va_at (gD g) vwCl (gz g + (w.1.length - 1), pE g (pNew w kn) w.1.length kn) H1) : pH g (pNew w kn) H1 ∧ va_S (pA g) s.heap H1 locs := by
  have hz := hH.2.1
  have h1 : 1 ≤ w.1.length := by
    have := (List.getElem?_eq_some_iff.mp hH.2.2.1).1
    omega
  refine ⟨⟨?_, ?_, ?_, ?_, ?_⟩, ?_⟩
  · rw [pWs_new h1]
    refine (hH.1.kept fun k q hq => o1 q.1 ?_).app fun k q hq => ?_
    · have := pWs_at hq
      omega
    · have hk1 : k < 1 := (List.getElem?_eq_some_iff.mp hq).1
      rw [show k = 0 by omega] at hq
      cases hq
      exact he
  · show H1.size + 1 = gz g + (w.1 ++ [kn]).length
    rw [z1, List.length_append]
    simp
    omega
  · show (w.1 ++ [kn])[0]? = _
    rw [List.getElem?_append_left (by omega)]
    exact hH.2.2.1
  · show (w.1 ++ [kn]).length ≤ 1000
    simp
    omega
  · show va_up w.2.1 w.1.length (fun _ => 0) 0 = _
    rw [up_0 (by omega)]
    exact hH.2.2.2.2
  · exact ⟨by have := hS.1; omega, fun q a b => (o1 q (Nat.lt_of_lt_of_le a hS.1)).trans (hS.2.1 q a b), hS.2.2⟩
theorem ok_new {idx ci : Nat} {q : vw_C} (hd : decode x.2.2.1 pc = .ok (.new idx, 3)) (hq : vwCl[ci]? = some q) (hcl : Cond.classLink x.2.1 idx q.1 ∈ lw_tbl) (hlen : w.1.length < 1000) (hc1 : w.1.length + 1 ≤ x.2.2.2.2.2.2.2.1 + x.2.2.2.2.2.1) (hs1 : pSl w.1 + q.2.2 ≤ x.2.2.2.2.2.2.2.2 + x.2.2.2.2.2.2.1)
    (kk : Ok g x Q (pc + 3) l (.ref w.1.length :: r) (pNew w (ci, q.2.2))) : Ok g x Q pc l r w := by
  intro p e R s m args below meth c Qf hc hx H locs ls kc ks hH hS hk hn hl
  have hci := cl_lt hq
  have hco := cl_ok ci q hq
  have hts := hc.2.2.2.2.1
  have hKn := hc.2.2.2.2.2.2.2.2.2.2.2.1.1.1.1 ci q hq
  have hz := hH.2.1
  have h1 : 1 ≤ w.1.length := by
    have := (List.getElem?_eq_some_iff.mp hH.2.2.1).1
    omega
  have hR1 := hc.2.2.2.2.2.2.2.2.1
  have hR2 := hc.2.2.2.2.2.2.2.2.2.1
  refine W.newcK hc.1 hc.2.1 hc.2.2.2.1 (hts _ (in_gtb hcl rfl)) (hts _ (in_gtb hco.2.2.2.2.2.1 rfl)) (hts _ (in_gtb hco.2.2.2.2.2.2 rfl)) rfl hd (by omega) (by omega) hKn.2.1 rfl fun H1 kC hkC e1 z1 o1 => ?_
  obtain ⟨hH1, hS1⟩ := p_mk (kn := (ci, q.2.2)) (w := w) hH hS hc.2.2.2.2.2.2.2.2.2.2.1 hk hlen z1 o1 (by
    rw [pE_obj hci]
    refine ⟨q, hq, ?_⟩
    rw [show gz g + (w.1.length - 1) = H.size by omega]
    refine (u_born (tyT ci) hts (cl_in hco) hKn hkC e1 hco.2.1).to fun j hj => ?_
    rw [hco.2.2.2.1 j hj, vp_V, List.getD, List.getElem?_map, List.getElem?_range hj]
    show _ = ptv g (pv (pNew w (ci, q.2.2)) ci w.1.length j)
    rw [pv_new, ptv_df])
  have kk := kk p e R s m args below meth c Qf hc hx H1 locs ls (kc + 1) (ks + q.2.2) hH1 hS1 (by show (w.1 ++ [_]).length = _; simp; omega) (by show pSl (w.1 ++ [_]) = _; rw [pSl_new]; simp only []; omega) hl
  have hp : pad g w.1.length = H.size := by
    rw [show w.1.length = (w.1.length - 1) + 1 by omega, pad_s (by omega)]
    omega
  have kk : W p (gl g) e R s m args below meth c H1 locs (kc + 1) (ks + q.2.2) Qf (F0 m (pc + 3) ls (.ref (pad g w.1.length) :: r.map (ptv g))) := kk
  rw [hp] at kk
  exact kk
theorem ok_newa {at' : ArrayType} {kd N : Nat} {n : Int32} {ty : FieldType} (hd : decode x.2.2.1 pc = .ok (.newarray at', 2)) (hty : newarray.typeOf at' = ty) (hkd : (kd = 13 ∧ ty = .int) ∨ (kd = 14 ∧ ty = .long) ∨ (kd = 15 ∧ ty = .boolean)) (hw : Cond.arrayClass ty ∈ lw_tbl) (hn0 : ¬ n < 0) (hN : n.toNatClampNeg = N) (hb : N ≤ 60000000) (hlen : w.1.length < 1000) (hc1 : w.1.length + 1 ≤ x.2.2.2.2.2.2.2.1 + x.2.2.2.2.2.1) (hs1 : pSl w.1 + N ≤ x.2.2.2.2.2.2.2.2 + x.2.2.2.2.2.2.1)
    (kk : Ok g x Q (pc + 2) l (.ref w.1.length :: r) (pNew w (kd, N))) : Ok g x Q pc l (.int n :: r) w := by
  intro p e R s m args below meth c Qf hc hx H locs ls kc ks hH hS hk hn hl
  have hts := hc.2.2.2.2.1
  have hK := hc.2.2.2.2.2.2.2.2.2.2.2.1.1.1
  have hz := hH.2.1
  have h1 : 1 ≤ w.1.length := by
    have := (List.getElem?_eq_some_iff.mp hH.2.2.1).1
    omega
  have hR1 := hc.2.2.2.2.2.2.2.2.1
  have hR2 := hc.2.2.2.2.2.2.2.2.2.1
  subst hty
  have hbb : N * componentBytes (newarray.typeOf at') ≤ 536870912 := by
    have : componentBytes (newarray.typeOf at') ≤ 8 := by cases at' <;> decide
    have := Nat.mul_le_mul_left N this
    omega
  refine va_newaK (h := H.size) hc.1 hc.2.1 (hts _ (in_gtb hw rfl)) rfl hd rfl hn0 hN hbb (by omega) (by omega) rfl fun H1 cA e1 z1 o1 hAr hNm => ?_
  have hcA : gA g kd = cA ∧ pE g (pNew w (kd, N)) w.1.length (kd, N) = .inl (cA, N, if kd = 14 then .inr (.inl (fun _ => 0)) else .inl (fun _ => 0)) ∧ ∀ cA : ClassId, vp_cell cA (N, if kd = 14 then .inr (.inl (fun _ => 0)) else .inl (fun _ => 0)) = arrV cA N (fun _ => defaultValue (newarray.typeOf at')) := by
    rcases hkd with ⟨rfl, hty⟩ | ⟨rfl, hty⟩ | ⟨rfl, hty⟩
    · have hcA : gA g 13 = cA := by
        have h := (hK.2 0 (gA g 13, .int) rfl).2
        rw [hty] at hNm
        exact Option.some.inj (Eq.trans (Eq.symm h) hNm)
      refine ⟨hcA, ?_, fun _ => by rw [hty]; rfl⟩
      rw [pE_arr (by omega), hcA]
      simp [pAr, pNew, va_up]
    · have hcA : gA g 14 = cA := by
        have h := (hK.2 1 (gA g 14, .long) rfl).2
        rw [hty] at hNm
        exact Option.some.inj (Eq.trans (Eq.symm h) hNm)
      refine ⟨hcA, ?_, fun _ => by rw [hty]; rfl⟩
      rw [pE_arr (by omega), hcA]
      simp [pAr, pNew, va_up]
    · have hcA : gA g 15 = cA := by
        have h := (hK.2 2 (gA g 15, .boolean) rfl).2
        rw [hty] at hNm
        exact Option.some.inj (Eq.trans (Eq.symm h) hNm)
      refine ⟨hcA, ?_, fun _ => by rw [hty]; rfl⟩
      rw [pE_arr (by omega), hcA]
      simp [pAr, pNew, va_up]
  obtain ⟨hH1, hS1⟩ := p_mk (kn := (kd, N)) (w := w) hH hS hc.2.2.2.2.2.2.2.2.2.2.1 hk hlen z1 o1 (by
    rw [hcA.2.1, show gz g + (w.1.length - 1) = H.size by omega]
    show H1[H.size]? = some (vp_cell _ _)
    rw [hcA.2.2]
    exact e1)
  have kk := kk p e R s m args below meth c Qf hc hx H1 locs ls (kc + 1) (ks + N) hH1 hS1 (by show (w.1 ++ [_]).length = _; simp; omega) (by show pSl (w.1 ++ [_]) = _; rw [pSl_new]; simp only []; omega) hl
  have hp : pad g w.1.length = H.size := by
    rw [show w.1.length = (w.1.length - 1) + 1 by omega, pad_s (by omega)]
    omega
  have kk : W p (gl g) e R s m args below meth c H1 locs (kc + 1) (ks + N) Qf (F0 m (pc + 2) ls (.ref (pad g w.1.length) :: r.map (ptv g))) := kk
  rw [hp] at kk
  exact kk
theorem ok_newq {idx kd N : Nat} {C : String} {n : Int32} (hd : decode x.2.2.1 pc = .ok (.anewarray idx, 3)) (hkd : (kd = 16 ∧ C = RX3) ∨ (kd = 17 ∧ C = RX7)) (hcl : Cond.classLink x.2.1 idx C ∈ lw_tbl) (hn0 : ¬ n < 0) (hN : n.toNatClampNeg = N) (hb : N ≤ 60000000) (hlen : w.1.length < 1000) (hc1 : w.1.length + 1 ≤ x.2.2.2.2.2.2.2.1 + x.2.2.2.2.2.1) (hs1 : pSl w.1 + N ≤ x.2.2.2.2.2.2.2.2 + x.2.2.2.2.2.2.1)
    (kk : Ok g x Q (pc + 3) l (.ref w.1.length :: r) (pNew w (kd, N))) : Ok g x Q pc l (.int n :: r) w := by
  intro p e R s m args below meth c Qf hc hx H locs ls kc ks hH hS hk hn hl
  have hts := hc.2.2.2.2.1
  have hKK := hc.2.2.2.2.2.2.2.2.2.2.2.1.1
  have hz := hH.2.1
  have h1 : 1 ≤ w.1.length := by
    have := (List.getElem?_eq_some_iff.mp hH.2.2.1).1
    omega
  have hR1 := hc.2.2.2.2.2.2.2.2.1
  have hR2 := hc.2.2.2.2.2.2.2.2.2.1
  have hAO : va_AO C s := by
    rcases hkd with ⟨-, rfl⟩ | ⟨-, rfl⟩
    · exact hKK.2.1
    · exact hKK.2.2
  subst hN
  refine W.anew hc.1 hc.2.1 hc.2.2.2.1 (hts _ (in_gtb hcl rfl)) (va_AO.use hAO) rfl hd rfl hn0 (by omega) (by omega) (by omega) fun cA kA comp f1 f2 f3 f4 => ?_
  generalize hH1 : H.push ({ cls := cA, slots := Array.replicate n.toNatClampNeg .null, vm := .none } : Cell) = H1
  have z1 : H1.size = H.size + 1 := by rw [← hH1, Array.size_push]
  have e1 : H1[H.size]? = some (arrV cA n.toNatClampNeg (fun _ => .null)) := by rw [← hH1, Array.getElem?_push_size, ← arrV_new]
  have o1 : ∀ q : Nat, q < H.size → H1[q]? = H[q]? := fun q hq => by rw [← hH1, Array.getElem?_push, if_neg (Nat.ne_of_lt hq)]
  have hcA : pE g (pNew w (kd, n.toNatClampNeg)) w.1.length (kd, n.toNatClampNeg) = .inl (cA, n.toNatClampNeg, .inr (.inr (.inr (.inr (fun _ => none))))) := by
    rcases hkd with ⟨rfl, rfl⟩ | ⟨rfl, rfl⟩
    · obtain ⟨_, _, -, -, -, h⟩ := (hKK.1.2 3 (gA g 16, .object RX3) rfl).2
      rw [pE_arr (by omega), show gA g 16 = cA from Option.some.inj (Eq.trans (Eq.symm h) f1)]
      simp [pAr, pNew, va_up]
    · obtain ⟨_, _, -, -, -, h⟩ := (hKK.1.2 4 (gA g 17, .object RX7) rfl).2
      rw [pE_arr (by omega), show gA g 17 = cA from Option.some.inj (Eq.trans (Eq.symm h) f1)]
      simp [pAr, pNew, va_up]
  obtain ⟨hH1, hS1⟩ := p_mk (kn := (kd, n.toNatClampNeg)) (w := w) hH hS hc.2.2.2.2.2.2.2.2.2.2.1 hk hlen z1 o1 (by
    rw [hcA, show gz g + (w.1.length - 1) = H.size by omega]
    show H1[H.size]? = some (vp_cell _ _)
    rw [vp_cell_q]
    exact e1)
  have kk := kk p e R s m args below meth c Qf hc hx H1 locs ls (kc + 1) (ks + n.toNatClampNeg) hH1 hS1 (by show (w.1 ++ [_]).length = _; simp; omega) (by show pSl (w.1 ++ [_]) = _; rw [pSl_new]; simp only []; omega) hl
  have hp : pad g w.1.length = H.size := by
    rw [show w.1.length = (w.1.length - 1) + 1 by omega, pad_s (by omega)]
    omega
  have kk : W p (gl g) e R s m args below meth c H1 locs (kc + 1) (ks + n.toNatClampNeg) Qf (F0 m (pc + 3) ls (.ref (pad g w.1.length) :: r.map (ptv g))) := kk
  rw [hp] at kk
  exact kk
end OkMake
