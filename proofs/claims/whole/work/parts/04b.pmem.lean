theorem cl_in {ci : Nat} {q : vw_C} (h : clOK ci q) : ∀ w ∈ u_ws q.1 q.2.1 q.2.2, w ∈ gtb := fun w hw => in_gtb (h.1.1 w hw) (List.all_eq_true.mp h.1.2 w hw)
def FL (own : String) (idx ci k : Nat) : Prop := ∃ q : vw_C, vwCl[ci]? = some q ∧ k < q.2.2 ∧ Cond.fieldLink own idx q.1 (q.2.1 k).2.1 (q.2.1 k).2.2.1 ∈ lw_tbl
def finOf (ci k : Nat) : Bool := ((vwCl.getD ci ("", fun _ => ("", "", "", false), 0)).2.1 k).2.2.2
theorem pv_ref (g : pG) (r : Option Nat) : ptv g (va_rf r) = va_rf (r.map (pad g)) := by cases r <;> rfl
section OkMem
variable {g : pG} {x : pX} {Q : Option Value → pW → Prop} {pc : Nat} {l : pL} {r : List Value} {w : pW}
theorem pE_obj {ci n a : Nat} (h : ci < 13) : pE g w a (ci, n) = .inr (ci, (List.range n).map (fun k => ptv g (pv w ci a k))) := if_pos h
theorem cl_lt {ci : Nat} {q : vw_C} (h : vwCl[ci]? = some q) : ci < 13 := (List.getElem?_eq_some_iff.mp h).1
theorem ok_get {idx ci k n a : Nat} {v : Value} (hd : decode x.2.2.1 pc = .ok (.getfield idx, 3)) (hf : FL x.2.1 idx ci k) (hz : w.1[a]? = some (ci, n)) (hkn : k < n) (hv : pv w ci a k = v) (kk : Ok g x Q (pc + 3) l (v :: r) w) : Ok g x Q pc l (.ref a :: r) w := by
  intro p e R s m args below meth c Qf hc hx H locs ls kc ks hH hS hk hn hl
  obtain ⟨q, hq, hkq, hlk⟩ := hf
  have hci := cl_lt hq
  obtain ⟨j, rfl, hj⟩ := pH_pos hH hz (by omega)
  have hcl := cl_ok ci q hq
  show W _ _ _ _ _ _ _ _ _ _ _ _ _ _ _ (F0 m pc ls (.ref (pad g (j + 1)) :: r.map (ptv g)))
  rw [pad_s (by have := hH.2.2.2.1; omega)]
  subst hv
  refine va_get (C := q.1) (T := q.2.1) (N := q.2.2) (v := ptv g (pv w ci (j + 1) k)) hc.1 hc.2.1 hc.2.2.2.2.1 (cl_in hcl) hc.2.2.2.1 hc.2.2.2.2.2.2.2.2.2.2.2.1.1.1 hH.1 j (by rw [pWs_get hz, pE_obj hci]) hq k hkq (hc.2.2.2.2.1 _ (in_gtb hlk rfl)) ?_ ?_ hd (kk p e R s m args below meth c Qf hc hx H locs ls kc ks hH hS hk hn hl)
  · rw [hcl.2.2.2.2.1 k hkq]
    exact fun _ h => h
  · rw [List.getElem?_map, List.getElem?_range hkn]
    rfl
theorem p_sz {p : Program} {l : Launch} {e : Env} {R : Room} {s : State} {m : MethodId} {args : Array Value} {below : List Frame} {meth : Method} {c : Code} {H : Heap} {locs : List Loc} {cells slots : Nat} {Q : State → Prop} {f : JFrame} (k : H.size ≤ s.heap.size + cells → W p l e R s m args below meth c H locs cells slots Q f) : W p l e R s m args below meth c H locs cells slots Q f :=
  fun T hT X => k (by rw [← hT]; exact X.heapSize) T hT X
theorem p_S0 {g : pG} {s : State} {H : Heap} {locs : List Loc} (h : va_S (pA g) s.heap H locs) : va_S (pA g) H H locs := ⟨Nat.le_refl _, fun _ _ _ => rfl, h.2.2⟩
theorem p_S1 {g : pG} {s : State} {H H1 : Heap} {locs locs1 : List Loc} (h : va_S (pA g) s.heap H locs) (h1 : va_S (pA g) H H1 locs1) : va_S (pA g) s.heap H1 locs1 :=
  ⟨Nat.le_trans h.1 h1.1, fun q a b => (h1.2.1 q (Nat.lt_of_lt_of_le a h.1) b).trans (h.2.1 q a b), h1.2.2⟩
/-- behind a write -/
theorem p_wr {p : Program} {e : Env} {R : Room} {s : State} {m : MethodId} {args : Array Value} {below : List Frame} {meth : Method} {c : Code} {H H1 : Heap} {locs locs1 : List Loc} {kc ks z0 : Nat} {Qf : State → Prop} {f : JFrame} {w w' : pW} {ws' : va_W} (hH : pH g w H) (hS : va_S (pA g) s.heap H locs) (hcx : s.heap.size + 1 = gz g + z0) (hk : w.1.length = z0 + kc) (hZ : w'.1 = w.1) (h0 : w'.2.1 0 = w.2.1 0) (hset : ws' = pWs g w')
    (kk : pH g w' H1 → va_S (pA g) s.heap H1 locs1 → W p (gl g) e R s m args below meth c H1 locs1 kc ks Qf f) (hP1 : va_P (gD g) vwCl ws' H1) (hS1 : va_S (pA g) H H1 locs1) : W p (gl g) e R s m args below meth c H1 locs1 kc ks Qf f := by
  refine p_sz fun hsz => kk ⟨by rw [← hset]; exact hP1, ?_, by rw [hZ]; exact hH.2.2.1, by rw [hZ]; exact hH.2.2.2.1, by rw [h0]; exact hH.2.2.2.2⟩ (p_S1 hS hS1)
  have h1 := hS1.1
  have h2 := hH.2.1
  rw [hZ]
  omega
/-- a put: any value, any new world that differs by it alone -/
theorem ok_put {idx ci k n a : Nat} {v : Value} {w' : pW} (hd : decode x.2.2.1 pc = .ok (.putfield idx, 3)) (hf : FL x.2.1 idx ci k) (hfin : finOf ci k = false ∨ (finOf ci k = true ∧ x.2.2.2.2.1 = true ∧ (vwCl.getD ci ("", fun _ => ("", "", "", false), 0)).1 = x.2.1)) (hz : w.1[a]? = some (ci, n)) (hkn : k < n)
    (hna : narrow (tyT ci k) (ptv g v) = ptv g v) (hfi : fits (tyT ci k) (ptv g v) = true) (hZ : w'.1 = w.1) (h0 : a ≠ 0 → w'.2.1 0 = w.2.1 0) (ho : ∀ j, j ≠ a → ∀ q, pE g w' j q = pE g w j q) (hv : pv w' ci a k = v) (hvo : ∀ j, j ≠ k → pv w' ci a j = pv w ci a j)
    (kk : Ok g x Q (pc + 3) l r w') : Ok g x Q pc l (v :: .ref a :: r) w := by
  intro p e R s m args below meth c Qf hc hx H locs ls kc ks hH hS hk hn hl
  obtain ⟨q, hq, hkq, hlk⟩ := hf
  have hci := cl_lt hq
  obtain ⟨j, rfl, hj⟩ := pH_pos hH hz (by omega)
  have hcl := cl_ok ci q hq
  have hgd : vwCl.getD ci ("", fun _ => ("", "", "", false), 0) = q := by rw [List.getD, hq]; rfl
  have hset : (pWs g w).set j (gz g + j, .inr (ci, ((List.range n).map (fun k => ptv g (pv w ci (j + 1) k))).set k (ptv g v))) = pWs g w' := by
    refine pWs_set hZ hz ?_ ho
    rw [pE_obj hci]
    rw [range_set (h := fun k => ptv g (pv w' ci (j + 1) k)) (by rw [hv]) (fun i hi => by rw [hvo i hi])]
  have fin : ∀ (H1 : Heap) (locs1 : List Loc), va_P (gD g) vwCl ((pWs g w).set j (gz g + j, .inr (ci, ((List.range n).map (fun k => ptv g (pv w ci (j + 1) k))).set k (ptv g v)))) H1 → va_D (pA g) ((pWs g w).set j (gz g + j, .inr (ci, ((List.range n).map (fun k => ptv g (pv w ci (j + 1) k))).set k (ptv g v)))) → va_S (pA g) H H1 locs1 → W p (gl g) e R s m args below meth c H1 locs1 kc ks Qf (F0 m (pc + 3) ls (r.map (ptv g))) := by
    intro H1 locs1 hP1 _ hS1
    exact p_wr hH hS hc.2.2.2.2.2.2.2.2.2.2.1 hk hZ (h0 (by omega)) hset (fun hH1 hS2 => kk p e R s m args below meth c Qf hc hx H1 locs1 ls kc ks hH1 hS2 (by rw [hZ]; exact hk) (by rw [hZ]; exact hn) hl) hP1 hS1
  show W _ _ _ _ _ _ _ _ _ _ _ _ _ _ _ (F0 m pc ls (ptv g v :: .ref (pad g (j + 1)) :: r.map (ptv g)))
  rw [pad_s (by have := hH.2.2.2.1; omega)]
  have hcell : (pWs g w)[j]? = some (gz g + j, .inr (ci, (List.range n).map (fun k => ptv g (pv w ci (j + 1) k)))) := by rw [pWs_get hz, pE_obj hci]
  have hfl : finOf ci k = (q.2.1 k).2.2.2 := by unfold finOf; rw [hgd]
  rcases hfin with hfin | ⟨hfin, hini, hown⟩
  · exact va_put (C := q.1) (T := q.2.1) (N := q.2.2) hc.1 hc.2.1 hc.2.2.2.2.1 (cl_in hcl) (tyT ci) hcl.2.1 hcl.2.2.1 hc.2.2.2.1 hc.2.2.2.2.2.2.2.2.2.2.2.1.1.1 hH.1 (pWs_D g w) (p_S0 hS) j hcell hq k hkq (hc.2.2.2.2.1 _ (in_gtb hlk rfl)) (by rw [hcl.2.2.2.2.1 k hkq]; exact fun _ h => h) (by rw [← hfl]; exact hfin) (hcl.2.1 k hkq) hna hfi (by simpa using hkn) hd fin
  · rw [hgd] at hown
    exact va_putF (C := q.1) (T := q.2.1) (N := q.2.2) hc.1 hc.2.1 hc.2.2.2.2.1 (cl_in hcl) (tyT ci) hcl.2.1 hcl.2.2.1 hc.2.2.2.1 hc.2.2.2.2.2.2.2.2.2.2.2.1.1.1 hH.1 (pWs_D g w) (p_S0 hS) j hcell hq k hkq (hc.2.2.2.2.1 _ (in_gtb hlk rfl)) (by rw [hcl.2.2.2.2.1 k hkq]; exact fun _ h => h) (by rw [← hfl]; exact hfin) (hc.2.2.2.2.2.1 hini) ((hcl.2.2.2.2.1 k hkq).trans hown) (hcl.2.1 k hkq) hna hfi (by simpa using hkn) hd fin
theorem pE_upI {I : Nat → Nat → Int32} {L : Nat → Nat → Int64} {O : Nat → Nat → Option Nat} {Z : pZ} {a : Nat} {f : Nat → Int32} : ∀ j, j ≠ a → ∀ q, pE g (Z, va_up I a f, L, O) j q = pE g (Z, I, L, O) j q := by
  intro j hj q
  simp only [pE, pAr, pv, va_up, if_neg hj]
theorem pE_upL {I : Nat → Nat → Int32} {L : Nat → Nat → Int64} {O : Nat → Nat → Option Nat} {Z : pZ} {a : Nat} {f : Nat → Int64} : ∀ j, j ≠ a → ∀ q, pE g (Z, I, va_up L a f, O) j q = pE g (Z, I, L, O) j q := by
  intro j hj q
  simp only [pE, pAr, pv, va_up, if_neg hj]
theorem pE_upR {I : Nat → Nat → Int32} {L : Nat → Nat → Int64} {O : Nat → Nat → Option Nat} {Z : pZ} {a : Nat} {f : Nat → Option Nat} : ∀ j, j ≠ a → ∀ q, pE g (Z, I, L, va_up O a f) j q = pE g (Z, I, L, O) j q := by
  intro j hj q
  simp only [pE, pAr, pv, va_up, if_neg hj]
variable {Z : pZ} {I : Nat → Nat → Int32} {L : Nat → Nat → Int64} {O : Nat → Nat → Option Nat}
abbrev fOK (x : pX) (ci k : Nat) : Prop := finOf ci k = false ∨ (finOf ci k = true ∧ x.2.2.2.2.1 = true ∧ (vwCl.getD ci ("", fun _ => ("", "", "", false), 0)).1 = x.2.1)
theorem up_0 {α : Type} {f : Nat → α} {a : Nat} {v : α} (h : a ≠ 0) : va_up f a v 0 = f 0 := if_neg (fun e => h e.symm)
theorem ok_putI {idx ci k n a : Nat} {v : Int32} (hd : decode x.2.2.1 pc = .ok (.putfield idx, 3)) (hf : FL x.2.1 idx ci k) (hty : tyT ci k = .int) (hfin : fOK x ci k) (hz : Z[a]? = some (ci, n)) (hkn : k < n) (kk : Ok g x Q (pc + 3) l r (Z, va_up I a (upd (I a) k v), L, O)) : Ok g x Q pc l (.int v :: .ref a :: r) (Z, I, L, O) :=
  ok_put (w' := (Z, va_up I a (upd (I a) k v), L, O)) hd hf hfin hz hkn (by rw [hty]; exact vp_nar_int v) (by rw [hty]; rfl) rfl up_0 pE_upI (by simp [pv, hty, fK, va_up, upd]) (fun j hj => by simp only [pv, va_up, upd, if_neg hj, if_true]) kk
theorem ok_putZ {idx ci k n a : Nat} {v : Int32} (hd : decode x.2.2.1 pc = .ok (.putfield idx, 3)) (hf : FL x.2.1 idx ci k) (hty : tyT ci k = .boolean) (hfin : fOK x ci k) (hz : Z[a]? = some (ci, n)) (hkn : k < n) (hv : v = 0 ∨ v = 1) (kk : Ok g x Q (pc + 3) l r (Z, va_up I a (upd (I a) k v), L, O)) : Ok g x Q pc l (.int v :: .ref a :: r) (Z, I, L, O) :=
  ok_put (w' := (Z, va_up I a (upd (I a) k v), L, O)) hd hf hfin hz hkn (by rw [hty]; rcases hv with rfl | rfl; exact (by decide +kernel : narrow .boolean (.int 0) = .int 0); exact (by decide +kernel : narrow .boolean (.int 1) = .int 1)) (by rw [hty]; rcases hv with rfl | rfl; exact (by decide +kernel : fits .boolean (.int 0) = true); exact (by decide +kernel : fits .boolean (.int 1) = true)) rfl up_0 pE_upI (by simp [pv, hty, fK, va_up, upd]) (fun j hj => by simp only [pv, va_up, upd, if_neg hj, if_true]) kk
theorem ok_putJ {idx ci k n a : Nat} {v : Int64} (hd : decode x.2.2.1 pc = .ok (.putfield idx, 3)) (hf : FL x.2.1 idx ci k) (hty : tyT ci k = .long) (hfin : fOK x ci k) (hz : Z[a]? = some (ci, n)) (hkn : k < n) (kk : Ok g x Q (pc + 3) l r (Z, I, va_up L a (vp_updL (L a) k v), O)) : Ok g x Q pc l (.long v :: .ref a :: r) (Z, I, L, O) :=
  ok_put (w' := (Z, I, va_up L a (vp_updL (L a) k v), O)) hd hf hfin hz hkn (by rw [hty]; rfl) (by rw [hty]; rfl) rfl (fun _ => rfl) pE_upL (by simp [pv, hty, fK, va_up, vp_updL]) (fun j hj => by simp only [pv, va_up, vp_updL, if_neg hj, if_true]) kk
theorem ok_putR {idx ci k n a v : Nat} {ty : FieldType} (hd : decode x.2.2.1 pc = .ok (.putfield idx, 3)) (hf : FL x.2.1 idx ci k) (hty : tyT ci k = ty) (hr : (∃ C, ty = .object C) ∨ ∃ t, ty = .array t) (hfin : fOK x ci k) (hz : Z[a]? = some (ci, n)) (hkn : k < n) (kk : Ok g x Q (pc + 3) l r (Z, I, L, va_up O a (va_up (O a) k (some v)))) : Ok g x Q pc l (.ref v :: .ref a :: r) (Z, I, L, O) :=
  ok_put (w' := (Z, I, L, va_up O a (va_up (O a) k (some v)))) hd hf hfin hz hkn (by rw [hty]; rcases hr with ⟨C, rfl⟩ | ⟨t, rfl⟩ <;> rfl) (by rw [hty]; rcases hr with ⟨C, rfl⟩ | ⟨t, rfl⟩ <;> rfl) rfl (fun _ => rfl) pE_upR (by rcases hr with ⟨C, rfl⟩ | ⟨t, rfl⟩ <;> simp [pv, hty, fK, va_up, va_rf]) (fun j hj => by simp only [pv, va_up, if_neg hj, if_true]) kk
theorem pE_arr {kd n a : Nat} (h : 13 ≤ kd) : pE g w a (kd, n) = .inl (gA g kd, n, pAr g w a kd) := if_neg (by show ¬ kd < 13; omega)
theorem ok_iald {n a : Nat} {i : Int32} (hd : decode x.2.2.1 pc = .ok (.iaload, 1)) (hz : w.1[a]? = some (13, n)) (hi : vp_in i n) (kk : Ok g x Q (pc + 1) l (.int (w.2.1 a i.toNatClampNeg) :: r) w) : Ok g x Q pc l (.int i :: .ref a :: r) w := by
  intro p e R s m args below meth c Qf hc hx H locs ls kc ks hH hS hk hn hl
  obtain ⟨j, rfl, hj⟩ := pH_pos hH hz (by omega)
  show W _ _ _ _ _ _ _ _ _ _ _ _ _ _ _ (F0 m pc ls (.int i :: .ref (pad g (j + 1)) :: r.map (ptv g)))
  rw [pad_s (by have := hH.2.2.2.1; omega)]
  exact va_iald hc.1 hc.2.1 hc.2.2.2.2.2.2.2.2.2.2.2.1.1.1 hH.1 j 0 (f := w.2.1 (j + 1)) (n := n) (cA := gA g 13) (by rw [pWs_get hz, pE_arr (by omega)]; rfl) rfl hi hd (kk p e R s m args below meth c Qf hc hx H locs ls kc ks hH hS hk hn hl)
theorem ok_lald {n a : Nat} {i : Int32} (hd : decode x.2.2.1 pc = .ok (.laload, 1)) (hz : w.1[a]? = some (14, n)) (hi : vp_in i n) (kk : Ok g x Q (pc + 1) l (.long (w.2.2.1 a i.toNatClampNeg) :: r) w) : Ok g x Q pc l (.int i :: .ref a :: r) w := by
  intro p e R s m args below meth c Qf hc hx H locs ls kc ks hH hS hk hn hl
  obtain ⟨j, rfl, hj⟩ := pH_pos hH hz (by omega)
  show W _ _ _ _ _ _ _ _ _ _ _ _ _ _ _ (F0 m pc ls (.int i :: .ref (pad g (j + 1)) :: r.map (ptv g)))
  rw [pad_s (by have := hH.2.2.2.1; omega)]
  exact va_lald hc.1 hc.2.1 hc.2.2.2.2.2.2.2.2.2.2.2.1.1.1 hH.1 j 1 (f := w.2.2.1 (j + 1)) (n := n) (cA := gA g 14) (by rw [pWs_get hz, pE_arr (by omega)]; rfl) rfl hi hd (kk p e R s m args below meth c Qf hc hx H locs ls kc ks hH hS hk hn hl)
theorem ok_zald {n a : Nat} {i : Int32} (hd : decode x.2.2.1 pc = .ok (.baload, 1)) (hz : w.1[a]? = some (15, n)) (hi : vp_in i n) (kk : Ok g x Q (pc + 1) l (.int (w.2.1 a i.toNatClampNeg) :: r) w) : Ok g x Q pc l (.int i :: .ref a :: r) w := by
  intro p e R s m args below meth c Qf hc hx H locs ls kc ks hH hS hk hn hl
  obtain ⟨j, rfl, hj⟩ := pH_pos hH hz (by omega)
  show W _ _ _ _ _ _ _ _ _ _ _ _ _ _ _ (F0 m pc ls (.int i :: .ref (pad g (j + 1)) :: r.map (ptv g)))
  rw [pad_s (by have := hH.2.2.2.1; omega)]
  exact va_zald hc.1 hc.2.1 hc.2.2.2.2.2.2.2.2.2.2.2.1.1.1 hH.1 j 2 (f := w.2.1 (j + 1)) (n := n) (cA := gA g 15) (by rw [pWs_get hz, pE_arr (by omega)]; rfl) rfl hi hd (kk p e R s m args below meth c Qf hc hx H locs ls kc ks hH hS hk hn hl)
theorem ok_aald {kd n a : Nat} {i : Int32} {v : Value} (hd : decode x.2.2.1 pc = .ok (.aaload, 1)) (hz : w.1[a]? = some (kd, n)) (hkd : kd = 16 ∨ kd = 17) (hi : vp_in i n) (hv : va_rf (w.2.2.2 a i.toNatClampNeg) = v) (kk : Ok g x Q (pc + 1) l (v :: r) w) : Ok g x Q pc l (.int i :: .ref a :: r) w := by
  intro p e R s m args below meth c Qf hc hx H locs ls kc ks hH hS hk hn hl
  obtain ⟨j, rfl, hj⟩ := pH_pos hH hz (by omega)
  subst hv
  have kk := kk p e R s m args below meth c Qf hc hx H locs ls kc ks hH hS hk hn hl
  show W _ _ _ _ _ _ _ _ _ _ _ _ _ _ _ (F0 m pc ls (.int i :: .ref (pad g (j + 1)) :: r.map (ptv g)))
  rw [pad_s (by have := hH.2.2.2.1; omega)]
  have kk : W p (gl g) e R s m args below meth c H locs kc ks Qf (F0 m (pc + 1) ls (va_rf ((w.2.2.2 (j + 1) i.toNatClampNeg).map (pad g)) :: r.map (ptv g))) := by
    rw [← pv_ref]
    exact kk
  rcases hkd with rfl | rfl
  · exact va_aldq hc.1 hc.2.1 hc.2.2.2.2.2.2.2.2.2.2.2.1.1.1 hH.1 j 3 (f := fun i => (w.2.2.2 (j + 1) i).map (pad g)) (n := n) (cA := gA g 16) (by rw [pWs_get hz, pE_arr (by omega)]; rfl) rfl hi hd kk
  · exact va_aldq hc.1 hc.2.1 hc.2.2.2.2.2.2.2.2.2.2.2.1.1.1 hH.1 j 4 (f := fun i => (w.2.2.2 (j + 1) i).map (pad g)) (n := n) (cA := gA g 17) (by rw [pWs_get hz, pE_arr (by omega)]; rfl) rfl hi hd kk
theorem ok_iast {n a : Nat} {i v : Int32} (hd : decode x.2.2.1 pc = .ok (.iastore, 1)) (hz : Z[a]? = some (13, n)) (hi : vp_in i n) (kk : Ok g x Q (pc + 1) l r (Z, va_up I a (upd (I a) i.toNatClampNeg v), L, O)) : Ok g x Q pc l (.int v :: .int i :: .ref a :: r) (Z, I, L, O) := by
  intro p e R s m args below meth c Qf hc hx H locs ls kc ks hH hS hk hn hl
  obtain ⟨j, rfl, hj⟩ := pH_pos hH hz (by omega)
  show W _ _ _ _ _ _ _ _ _ _ _ _ _ _ _ (F0 m pc ls (.int v :: .int i :: .ref (pad g (j + 1)) :: r.map (ptv g)))
  rw [pad_s (by have h := hH.2.2.2.1; exact Nat.lt_of_lt_of_le (Nat.lt_of_lt_of_le hj h) (by decide))]
  refine va_iast hc.1 hc.2.1 hc.2.2.2.2.2.2.2.2.2.2.2.1.1.1 hH.1 (pWs_D g _) (p_S0 hS) j 0 (f := I (j + 1)) (n := n) (cA := gA g 13) (by rw [pWs_get hz, pE_arr (by omega)]; rfl) rfl hi hd fun H1 locs1 hP1 _ hS1 => ?_
  exact p_wr (w' := (Z, va_up I (j + 1) (upd (I (j + 1)) i.toNatClampNeg v), L, O)) hH hS hc.2.2.2.2.2.2.2.2.2.2.1 hk rfl (@up_0 _ I (j + 1) (upd (I (j + 1)) i.toNatClampNeg v) (Nat.succ_ne_zero j)) (pWs_set (w := (Z, I, L, O)) rfl hz (by rw [pE_arr (by omega)]; simp [pAr, va_up]) pE_upI) (fun hH1 hS2 => kk p e R s m args below meth c Qf hc hx H1 locs1 ls kc ks hH1 hS2 hk hn hl) hP1 hS1
theorem ok_zast {n a : Nat} {i v u : Int32} (hd : decode x.2.2.1 pc = .ok (.bastore, 1)) (hz : Z[a]? = some (15, n)) (hi : vp_in i n) (hu : vp_nar .boolean v = u) (kk : Ok g x Q (pc + 1) l r (Z, va_up I a (upd (I a) i.toNatClampNeg u), L, O)) : Ok g x Q pc l (.int v :: .int i :: .ref a :: r) (Z, I, L, O) := by
  intro p e R s m args below meth c Qf hc hx H locs ls kc ks hH hS hk hn hl
  obtain ⟨j, rfl, hj⟩ := pH_pos hH hz (by omega)
  subst hu
  show W _ _ _ _ _ _ _ _ _ _ _ _ _ _ _ (F0 m pc ls (.int v :: .int i :: .ref (pad g (j + 1)) :: r.map (ptv g)))
  rw [pad_s (by have h := hH.2.2.2.1; exact Nat.lt_of_lt_of_le (Nat.lt_of_lt_of_le hj h) (by decide))]
  refine va_zast hc.1 hc.2.1 hc.2.2.2.2.2.2.2.2.2.2.2.1.1.1 hH.1 (pWs_D g _) (p_S0 hS) j 2 (f := I (j + 1)) (n := n) (cA := gA g 15) (by rw [pWs_get hz, pE_arr (by omega)]; rfl) rfl hi hd fun H1 locs1 hP1 _ hS1 => ?_
  exact p_wr (w' := (Z, va_up I (j + 1) (upd (I (j + 1)) i.toNatClampNeg (vp_nar .boolean v)), L, O)) hH hS hc.2.2.2.2.2.2.2.2.2.2.1 hk rfl (@up_0 _ I (j + 1) (upd (I (j + 1)) i.toNatClampNeg (vp_nar .boolean v)) (Nat.succ_ne_zero j)) (pWs_set (w := (Z, I, L, O)) rfl hz (by rw [pE_arr (by omega)]; simp [pAr, va_up]) pE_upI) (fun hH1 hS2 => kk p e R s m args below meth c Qf hc hx H1 locs1 ls kc ks hH1 hS2 hk hn hl) hP1 hS1
theorem ok_last {n a : Nat} {i : Int32} {v : Int64} (hd : decode x.2.2.1 pc = .ok (.lastore, 1)) (hz : Z[a]? = some (14, n)) (hi : vp_in i n) (kk : Ok g x Q (pc + 1) l r (Z, I, va_up L a (vp_updL (L a) i.toNatClampNeg v), O)) : Ok g x Q pc l (.long v :: .int i :: .ref a :: r) (Z, I, L, O) := by
  intro p e R s m args below meth c Qf hc hx H locs ls kc ks hH hS hk hn hl
  obtain ⟨j, rfl, hj⟩ := pH_pos hH hz (by omega)
  show W _ _ _ _ _ _ _ _ _ _ _ _ _ _ _ (F0 m pc ls (.long v :: .int i :: .ref (pad g (j + 1)) :: r.map (ptv g)))
  rw [pad_s (by have h := hH.2.2.2.1; exact Nat.lt_of_lt_of_le (Nat.lt_of_lt_of_le hj h) (by decide))]
  refine va_last hc.1 hc.2.1 hc.2.2.2.2.2.2.2.2.2.2.2.1.1.1 hH.1 (pWs_D g _) (p_S0 hS) j 1 (f := L (j + 1)) (n := n) (cA := gA g 14) (by rw [pWs_get hz, pE_arr (by omega)]; rfl) rfl hi hd fun H1 locs1 hP1 _ hS1 => ?_
  exact p_wr (w' := (Z, I, va_up L (j + 1) (vp_updL (L (j + 1)) i.toNatClampNeg v), O)) hH hS hc.2.2.2.2.2.2.2.2.2.2.1 hk rfl rfl (pWs_set (w := (Z, I, L, O)) rfl hz (by rw [pE_arr (by omega)]; simp [pAr, va_up]) pE_upL) (fun hH1 hS2 => kk p e R s m args below meth c Qf hc hx H1 locs1 ls kc ks hH1 hS2 hk hn hl) hP1 hS1
theorem ok_aast {kd ci m' n a b : Nat} {i : Int32} (hd : decode x.2.2.1 pc = .ok (.aastore, 1)) (hz : Z[a]? = some (kd, n)) (hkd : (kd = 16 ∧ ci = 3) ∨ (kd = 17 ∧ ci = 7)) (hb : Z[b]? = some (ci, m')) (hi : vp_in i n) (kk : Ok g x Q (pc + 1) l r (Z, I, L, va_up O a (va_up (O a) i.toNatClampNeg (some b)))) : Ok g x Q pc l (.ref b :: .int i :: .ref a :: r) (Z, I, L, O) := by
  intro p e R s m args below meth c Qf hc hx H locs ls kc ks hH hS hk hn hl
  obtain ⟨j, rfl, hj⟩ := pH_pos hH hz (by omega)
  obtain ⟨j2, rfl, hj2⟩ := pH_pos hH hb (by omega)
  show W _ _ _ _ _ _ _ _ _ _ _ _ _ _ _ (F0 m pc ls (.ref (pad g (j2 + 1)) :: .int i :: .ref (pad g (j + 1)) :: r.map (ptv g)))
  have p1 : pad g (j + 1) = gz g + j := pad_s (by have h := hH.2.2.2.1; exact Nat.lt_of_lt_of_le (Nat.lt_of_lt_of_le hj h) (by decide))
  have p2 : pad g (j2 + 1) = gz g + j2 := pad_s (by have h := hH.2.2.2.1; exact Nat.lt_of_lt_of_le (Nat.lt_of_lt_of_le hj2 h) (by decide))
  have hfu : ∀ k : Nat, (va_up (fun i => (O (j + 1) i).map (pad g)) i.toNatClampNeg (some (gz g + j2))) k = (va_up (O (j + 1)) i.toNatClampNeg (some (j2 + 1)) k).map (pad g) := by
    intro k
    unfold va_up
    by_cases hk : k = i.toNatClampNeg
    · rw [if_pos hk, if_pos hk, ← p2]; rfl
    · rw [if_neg hk, if_neg hk]
  rw [p1, p2]
  rcases hkd with ⟨rfl, rfl⟩ | ⟨rfl, rfl⟩
  · refine va_astq hc.1 hc.2.1 hc.2.2.2.2.2.2.2.2.2.2.2.1.1.1 hH.1 (pWs_D g _) (p_S0 hS) j 3 j2 3 (r := (RX3, TX3, 6)) (f := fun i => (O (j + 1) i).map (pad g)) (n := n) (cA := gA g 16) (by rw [pWs_get hz, pE_arr (by omega)]; rfl) rfl (by rw [pWs_get hb, pE_obj (by omega)]) rfl hi hd fun H1 locs1 hP1 _ hS1 => ?_
    exact p_wr (w' := (Z, I, L, va_up O (j + 1) (va_up (O (j + 1)) i.toNatClampNeg (some (j2 + 1))))) hH hS hc.2.2.2.2.2.2.2.2.2.2.1 hk rfl rfl (pWs_set (w := (Z, I, L, O)) rfl hz (by rw [pE_arr (by omega), show va_up (fun i => (O (j + 1) i).map (pad g)) i.toNatClampNeg (some (gz g + j2)) = _ from funext hfu]; simp [pAr, va_up]) pE_upR) (fun hH1 hS2 => kk p e R s m args below meth c Qf hc hx H1 locs1 ls kc ks hH1 hS2 hk hn hl) hP1 hS1
  · refine va_astq hc.1 hc.2.1 hc.2.2.2.2.2.2.2.2.2.2.2.1.1.1 hH.1 (pWs_D g _) (p_S0 hS) j 4 j2 7 (r := (RX7, TX7, 7)) (f := fun i => (O (j + 1) i).map (pad g)) (n := n) (cA := gA g 17) (by rw [pWs_get hz, pE_arr (by omega)]; rfl) rfl (by rw [pWs_get hb, pE_obj (by omega)]) rfl hi hd fun H1 locs1 hP1 _ hS1 => ?_
    exact p_wr (w' := (Z, I, L, va_up O (j + 1) (va_up (O (j + 1)) i.toNatClampNeg (some (j2 + 1))))) hH hS hc.2.2.2.2.2.2.2.2.2.2.1 hk rfl rfl (pWs_set (w := (Z, I, L, O)) rfl hz (by rw [pE_arr (by omega), show va_up (fun i => (O (j + 1) i).map (pad g)) i.toNatClampNeg (some (gz g + j2)) = _ from funext hfu]; simp [pAr, va_up]) pE_upR) (fun hH1 hS2 => kk p e R s m args below meth c Qf hc hx H1 locs1 ls kc ks hH1 hS2 hk hn hl) hP1 hS1
theorem ok_alen {kd n a : Nat} {v : Int32} (hd : decode x.2.2.1 pc = .ok (.arraylength, 1)) (hz : w.1[a]? = some (kd, n)) (hkd : kd = 13 ∨ kd = 14) (hv : Int32.ofNat n = v) (kk : Ok g x Q (pc + 1) l (.int v :: r) w) : Ok g x Q pc l (.ref a :: r) w := by
  intro p e R s m args below meth c Qf hc hx H locs ls kc ks hH hS hk hn hl
  obtain ⟨j, rfl, hj⟩ := pH_pos hH hz (by omega)
  show W _ _ _ _ _ _ _ _ _ _ _ _ _ _ _ (F0 m pc ls (.ref (pad g (j + 1)) :: r.map (ptv g)))
  rw [pad_s (by have := hH.2.2.2.1; omega)]
  rcases hkd with rfl | rfl
  · exact va_alen hc.1 hc.2.1 hc.2.2.2.2.2.2.2.2.2.2.2.1.1.1 hH.1 j 0 (x := (n, .inl (w.2.1 (j + 1)))) (cA := gA g 13) (by rw [pWs_get hz, pE_arr (by omega)]; rfl) rfl hv hd (kk p e R s m args below meth c Qf hc hx H locs ls kc ks hH hS hk hn hl)
  · exact va_alen hc.1 hc.2.1 hc.2.2.2.2.2.2.2.2.2.2.2.1.1.1 hH.1 j 1 (x := (n, .inr (.inl (w.2.2.1 (j + 1))))) (cA := gA g 14) (by rw [pWs_get hz, pE_arr (by omega)]; rfl) rfl hv hd (kk p e R s m args below meth c Qf hc hx H locs ls kc ks hH hS hk hn hl)
end OkMem
