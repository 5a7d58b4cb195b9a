/-! the plain machine: the script, copying, Object's constructor -/
theorem w_native : Cond.native arraycopyName ∈ lw_tbl ∧ Cond.static arraycopyName ∈ lw_tbl ∧ Cond.initialized "java/lang/System" ∈ lw_tbl := ⟨by decide +kernel, by decide +kernel, by decide +kernel⟩
theorem w_oinit : Cond.instanceMethod objectInit ∈ lw_tbl ∧ Cond.code objectInit ⟨#[0xb1]⟩ 1 none ∈ lw_tbl := ⟨by decide +kernel, by decide +kernel⟩
theorem w_nfw : nativeFrameWords "java/lang/System" "arraycopy" 5 ≤ 20 := by decide +kernel
section OkRest
variable {g : pG} {x : pX} {Q : Option Value → pW → Prop} {pc : Nat} {l : pL} {r : List Value} {w : pW} {Z : pZ} {I : Nat → Nat → Int32} {L : Nat → Nat → Int64} {O : Nat → Nat → Option Nat}
theorem ok_sld {i : Int32} (hd : decode x.2.2.1 pc = .ok (.iaload, 1)) (hi : vp_in i (gL g)) (kk : Ok g x Q (pc + 1) l (.int (gx g i.toNatClampNeg) :: r) w) : Ok g x Q pc l (.int i :: .ref 0 :: r) w := by
  intro p e R s m args below meth c Qf hc hx H locs ls kc ks hH hS hk hn hl
  have hU := hc.2.2.2.2.2.2.2.2.2.2.2.1
  have hgo := hc.2.2.2.2.2.2.2.2.2.2.2.2
  have hbl : gb g < s.heap.size := by
    obtain ⟨scr, h, -⟩ := hU.2.1
    exact (Array.getElem?_eq_some_iff.mp h).1
  exact va_sld (b := gb g) hc.1 hc.2.1 hU.2.1 hbl (by have := hgo.1; show ¬ gz g ≤ gb g; omega) hS hi hd (kk p e R s m args below meth c Qf hc hx H locs ls kc ks hH hS hk hn hl)
theorem ok_slen (hd : decode x.2.2.1 pc = .ok (.arraylength, 1)) (kk : Ok g x Q (pc + 1) l (.int (Int32.ofNat (gL g)) :: r) w) : Ok g x Q pc l (.ref 0 :: r) w := by
  intro p e R s m args below meth c Qf hc hx H locs ls kc ks hH hS hk hn hl
  have hU := hc.2.2.2.2.2.2.2.2.2.2.2.1
  have hgo := hc.2.2.2.2.2.2.2.2.2.2.2.2
  have hbl : gb g < s.heap.size := by
    obtain ⟨scr, h, -⟩ := hU.2.1
    exact (Array.getElem?_eq_some_iff.mp h).1
  exact va_slen (b := gb g) hc.1 hc.2.1 hU.2.1 hbl (by have := hgo.1; show ¬ gz g ≤ gb g; omega) hS hd (kk p e R s m args below meth c Qf hc hx H locs ls kc ks hH hS hk hn hl)
theorem ok_copy {idx n0 n1 a0 a1 : Nat} {sp dp n : Int32} (hd : decode x.2.2.1 pc = .ok (.invokestatic idx, 3)) (hlk : Cond.methodLink x.2.1 idx arraycopyName ∈ lw_tbl) (hz0 : Z[a0]? = some (13, n0)) (hz1 : Z[a1]? = some (13, n1)) (h1 : ¬ sp < 0) (h2 : ¬ dp < 0) (h3 : ¬ n < 0) (h4 : sp.toNatClampNeg + n.toNatClampNeg ≤ n0) (h5 : dp.toNatClampNeg + n.toNatClampNeg ≤ n1) (hr : (r.map fun v => v.category).sum ≤ 8) (hdp : 1 ≤ x.1)
    (kk : Ok g x Q (pc + 3) l r (Z, va_up I a1 (va_cpy (I a0) (I a1) sp.toNatClampNeg dp.toNatClampNeg n.toNatClampNeg), L, O)) : Ok g x Q pc l (.int n :: .int dp :: .ref a1 :: .int sp :: .ref a0 :: r) (Z, I, L, O) := by
  intro p e R s m args below meth c Qf hc hx H locs ls kc ks hH hS hk hn hl
  obtain ⟨j, rfl, hj⟩ := pH_pos hH hz1 (by omega)
  obtain ⟨j2, rfl, hj2⟩ := pH_pos hH hz0 (by omega)
  have p1 : pad g (j + 1) = gz g + j := pad_s (by have h := hH.2.2.2.1; exact Nat.lt_of_lt_of_le (Nat.lt_of_lt_of_le hj h) (by decide))
  have p2 : pad g (j2 + 1) = gz g + j2 := pad_s (by have h := hH.2.2.2.1; exact Nat.lt_of_lt_of_le (Nat.lt_of_lt_of_le hj2 h) (by decide))
  have hts := hc.2.2.2.2.1
  have hR3 := hc.2.2.2.2.2.2.1
  have hR4 := hc.2.2.2.2.2.2.2.1
  have hnf := w_nfw
  show W _ _ _ _ _ _ _ _ _ _ _ _ _ _ _ (F0 m pc ls (.int n :: .int dp :: .ref (pad g (j + 1)) :: .int sp :: .ref (pad g (j2 + 1)) :: r.map (ptv g)))
  rw [p1, p2]
  refine va_copyi hc.1 hc.2.1 (hc.2.2.1.trans hl.1.symm) hc.2.2.2.1 (hts _ (in_gtb hlk rfl)) (hts _ (in_gtb w_native.1 rfl)) (hts _ (in_gtb w_native.2.1 rfl)) (hts _ (in_gtb w_native.2.2 rfl)) hc.2.2.2.2.2.2.2.2.2.2.2.1.1.1 hH.1 (pWs_D g _) (p_S0 hS) j2 j 0 0 (f := I (j2 + 1)) (g := I (j + 1)) (n0 := n0) (n1 := n1) (c0 := gA g 13) (c1 := gA g 13) (ty := .int) (by rw [pWs_get hz0, pE_arr (by omega)]; rfl) (by rw [pWs_get hz1, pE_arr (by omega)]; rfl) rfl rfl rfl h1 h2 h3 h4 h5 (fun _ _ => rfl) (by omega) ?_ hd fun H1 locs1 hP1 _ hS1 => ?_
  · rw [List.map_map, show ((fun v : Value => v.category) ∘ ptv g) = fun v => v.category from funext fun v => ptv_cat g v]
    omega
  · exact p_wr (w' := (Z, va_up I (j + 1) (va_cpy (I (j2 + 1)) (I (j + 1)) sp.toNatClampNeg dp.toNatClampNeg n.toNatClampNeg), L, O)) hH hS hc.2.2.2.2.2.2.2.2.2.2.1 hk rfl (@up_0 _ I (j + 1) (va_cpy (I (j2 + 1)) (I (j + 1)) sp.toNatClampNeg dp.toNatClampNeg n.toNatClampNeg) (Nat.succ_ne_zero j)) (pWs_set (w := (Z, I, L, O)) rfl hz1 (by rw [pE_arr (by omega)]; simp [pAr, va_up]) pE_upI) (fun hH1 hS2 => kk p e R s m args below meth c Qf hc hx H1 locs1 ls kc ks hH1 hS2 hk hn hl) hP1 hS1
theorem ok_oinit {idx a : Nat} (hd : decode x.2.2.1 pc = .ok (.invokespecial idx, 3)) (hlk : Cond.methodLink x.2.1 idx objectInit ∈ lw_tbl) (hr : (r.map fun v => v.category).sum ≤ 8) (hdp : 1 ≤ x.1) (kk : Ok g x Q (pc + 3) l r w) : Ok g x Q pc l (.ref a :: r) w := by
  intro p e R s m args below meth c Qf hc hx H locs ls kc ks hH hS hk hn hl
  have hts := hc.2.2.2.2.1
  have hR3 := hc.2.2.2.2.2.2.1
  have hR4 := hc.2.2.2.2.2.2.2.1
  refine W.objInit (a := pad g a) (rest := r.map (ptv g)) hc.1 hc.2.1 hc.2.2.2.1 (hts _ (in_gtb hlk rfl)) (hts _ (in_gtb w_oinit.1 rfl)) (hts _ (in_gtb w_oinit.2 rfl)) rfl (by rw [hc.2.2.1]; exact hl.1) rfl hd (by omega) ?_ (kk p e R s m args below meth c Qf hc hx H locs ls kc ks hH hS hk hn hl)
  show 2 * 0 + ((r.map (ptv g)).map fun v => v.category).sum + 12 ≤ R.locals
  rw [List.map_map, show ((fun v : Value => v.category) ∘ ptv g) = fun v => v.category from funext fun v => ptv_cat g v]
  omega
end OkRest
