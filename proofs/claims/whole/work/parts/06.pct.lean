/-! the plain machine: contracts and calls -/
def pRt (ret : Option FieldType) (v : Option Value) : Prop := match ret, v with
  | none, none => True
  | some .int, some (.int _) => True
  | some .boolean, some (.int b) => b = 0 ∨ b = 1
  | some .char, some (.int b) => narrow .char (.int b) = .int b
  | some .long, some (.long _) => True
  | some (.object _), some (.ref _) => True
  | some (.object _), some .null => True
  | _, _ => False
def pQ (g : pG) (ret : Option FieldType) (w : pW) (mc ms : Nat) (Q : Option Value → pW → Prop) : Array Value → State → Outcome → State → Prop := fun _ st oc t =>
  (∃ (v : Option Value) (w' : pW), oc = .returned (v.map (ptv g)) ∧ pRt ret v ∧ Q v w' ∧ w'.1.length = w.1.length + mc ∧ pSl w'.1 = pSl w.1 + ms ∧ pH g w' t.heap) ∧ va_F (pA g) st t
def pRm (d mc ms : Nat) : Room := { frames := d, cells := mc, slots := ms, locals := 50 * d }
def CT (g : pG) (d : Nat) (mt : pMT) (mc ms : Nat) (args : List Value) (w : pW) (Q : Option Value → pW → Prop) : Prop :=
  Met (gl g) mt.1 (Cond.code mt.1 mt.2.1 mt.2.2.1 mt.2.2.2 :: gtb) (pRm d mc ms) (va_Pc (args.map (ptv g)) (fun U => pH g w U.heap ∧ pU g U U.heap ∧ pGo g)) (pQ g mt.2.2.2 w mc ms Q) mc ms (pA g)
theorem lg_sl_ptv (g : pG) : ∀ vs : List Value, (lg_sl (vs.map (ptv g))).length = (lg_sl vs).length := by
  intro vs
  induction vs with
  | nil => rfl
  | cons v vs ih =>
    unfold lg_sl at ih ⊢
    simp only [List.map_cons, List.flatMap_cons, List.length_append, ptv_cat, ih]
    split <;> rfl
theorem lv_args_ptv (g : pG) : ∀ (vs : List Value) (i : Nat), lv_args i (vs.map (ptv g)) = (lv_args i vs).map (fun q => (q.1, ptv g q.2)) := by
  intro vs
  induction vs with
  | nil => intro i; rfl
  | cons v vs ih =>
    intro i
    simp only [List.map_cons, lv_args, ptv_cat, ih]
theorem pU_moved {g : pG} {s U : State} {H H1 : Heap} (h : pU g s H) (hW : s.WarmedH U.vm) (hgo : pGo g) (hq : ∀ a : Nat, a < H.size → ¬ pA g a → H1[a]? = H[a]?) : pU g U H1 := by
  obtain ⟨⟨hK, h1, h2⟩, hX, hh⟩ := h
  have hb : gb g < H.size := by
    obtain ⟨scr, h, -⟩ := hX
    exact (Array.getElem?_eq_some_iff.mp h).1
  refine ⟨⟨va_K.moved hW.alike hK, va_AO.moved hW.alike h1, va_AO.moved hW.alike h2⟩, va_X.moved hW.alike (hX.kept (hq _ hb ?_)), hgo.2.1 s U H1 hW (hgo.2.2 s H H1 hq hh)⟩
  have := hgo.1
  show ¬ gz g ≤ gb g
  omega
/-- a contract out of a walk, for a method that no native row stands for (the JDK's own classes, too) -/
theorem met_ofWF {l : Launch} {y : MethodName} {ws ws' : List Cond} {rm : Room} {Pc : Array Value → State → Prop} {Qc : Array Value → State → Outcome → State → Prop} {mc ms : Nat} {free : Addr → Prop} {cc : ByteArray} {maxL : Nat} {ret : Option FieldType}
    (hy : plainFor y = true) (hw : ws = Cond.code y cc maxL ret :: ws')
    (body : ∀ p e s m args below meth c s₁, BodyLoose p l y (headSpec ws rm) cc maxL ret e s m args below meth c s₁ → c.maxLocals = maxL → Pc args s →
      W p l e (headSpec ws rm).room s m args below meth c s.heap [] 0 0 (MQ below Qc args s mc ms free) (entryFrame m args maxL)) : Met l y ws rm Pc Qc mc ms free := by
  refine MetFree.of_bodySF (code := cc) (maxLocals := maxL) (ret := ret) hy (fun args s m h hn => ?_) (fun p e s m args below meth c s₁ B hml hP _ => ?_)
  · have hk := Cond.code_spec hn (atoms_spec (ws := ws) h _ (hw ▸ List.mem_cons_self))
    obtain ⟨meth, c, a1, a2, a3, a4, a5, a6, -⟩ := hk
    exact ⟨meth, c, a1, a2, a3, a4, a5, a6⟩
  · have hb := body p e s m args below meth c s₁ B hml hP s₁ (B.state ▸ rfl) (Stand.of_body B)
    obtain ⟨t, st, o, r1, r2, r3⟩ := hb
    exact ⟨t, o, st, r1, r2, r3⟩
section OkCall
variable {g : pG} {x : pX} {Q : Option Value → pW → Prop} {pc : Nat} {l : pL} {r : List Value} {w : pW}
set_option maxHeartbeats 1000000 in
theorem ct_of_ok {d mc ms : Nat} {mt : pMT} {ini : Bool} {args : List Value} (hpl : plainFor mt.1 = true) (hini : ini = true → mt.1.name = "<init>") (hlen : (lg_sl args).length ≤ mt.2.2.1)
    (h : Ok g (d, mt.1.cls, mt.2.1, mt.2.2.1, ini, mc, ms, w.1.length, pSl w.1) (fun v w' => pRt mt.2.2.2 v ∧ Q v w' ∧ w'.1.length = w.1.length + mc ∧ pSl w'.1 = pSl w.1 + ms) 0 (lv_args 0 args) [] w) : CT g d mt mc ms args w Q := by
  refine met_ofWF (cc := mt.2.1) (maxL := mt.2.2.1) (ret := mt.2.2.2) hpl rfl ?_
  intro p e s m args' below meth c s₁ B hml hv
  obtain ⟨rfl, hH, hU, hgo⟩ := hv
  have hr := B.returns
  have hlocks := B.notSynchronized
  have hts := atoms_spec (ws := Cond.code mt.1 mt.2.1 mt.2.2.1 mt.2.2.2 :: gtb) B.pre
  rw [lg_entry_eq]
  refine h p e (pRm d mc ms) s m (args.map (ptv g)).toArray below meth c _ ⟨B.exec, B.bytes, hml, findClass_of_methodNamed B.named, fun w hw => hts w (List.mem_cons_of_mem _ hw), fun hi => (name_of_methodNamed B.named B.method).1.trans (hini hi), Nat.le_refl _, Nat.le_refl _, rfl, rfl, hH.2.1, hU, hgo⟩ ?_ s.heap [] _ 0 0 hH va_S.rf rfl rfl ?_
  · intro H locs ls pc k n v w' hH' hS hk hn hQ hret
    obtain ⟨hrt, hq, hz1, hz2⟩ := hQ
    have ek : k = mc := by
      have : w'.1.length = w.1.length + k := hk
      omega
    have en : n = ms := by
      have : pSl w'.1 = pSl w.1 + n := hn
      omega
    subst ek
    subst en
    have fin : ∀ t : State, t.heap = H → s.WarmedH t.vm → pQ g mt.2.2.2 w k n Q (args.map (ptv g)).toArray s (.returned (v.map (ptv g))) t := fun t ht _ => ⟨⟨v, w', rfl, hrt, hq, hz1, hz2, by rw [ht]; exact hH'⟩, hS.F ht⟩
    match v, hret, hrt, fin with
    | none, hret, hrt, fin =>
      have e1 : mt.2.2.2 = none := by
        revert hrt
        cases mt.2.2.2 with
        | none => intro _; rfl
        | some t => intro h; cases t <;> exact h.elim
      exact W.vret B.exec B.bytes (hr.trans e1) fin hS.2.2 hret
    | some (.int b), hret, hrt, fin =>
      have e1 : ∃ ty, mt.2.2.2 = some ty ∧ narrow ty (.int b) = .int b := by
        revert hrt
        cases mt.2.2.2 with
        | none => intro h; exact h.elim
        | some t =>
          intro h
          cases t <;> first | exact ⟨_, rfl, vp_nar_int b⟩ | exact ⟨_, rfl, h⟩ | (rcases h with rfl | rfl <;> exact ⟨_, rfl, by decide +kernel⟩) | exact h.elim
      obtain ⟨ty, e1, e2⟩ := e1
      exact W.zret B.exec B.bytes (hr.trans e1) e2 fin hS.2.2 hret
    | some (.long b), hret, hrt, fin =>
      have e1 : mt.2.2.2 = some .long := by
        revert hrt
        cases mt.2.2.2 with
        | none => intro h; exact h.elim
        | some t => intro h; cases t <;> first | rfl | exact h.elim
      exact W.lret B.exec B.bytes (hr.trans e1) fin hS.2.2 hret
    | some (.ref b), hret, hrt, fin =>
      have e1 : ∃ C, mt.2.2.2 = some (.object C) := by
        revert hrt
        cases mt.2.2.2 with
        | none => intro h; exact h.elim
        | some t => intro h; cases t <;> first | exact ⟨_, rfl⟩ | exact h.elim
      obtain ⟨C, e1⟩ := e1
      exact W.aret (v := .ref (pad g b)) B.exec B.bytes (hr.trans e1) (Or.inl ⟨C, rfl⟩) (Or.inr ⟨_, rfl⟩) fin hS.2.2 hret
    | some .null, hret, hrt, fin =>
      have e1 : ∃ C, mt.2.2.2 = some (.object C) := by
        revert hrt
        cases mt.2.2.2 with
        | none => intro h; exact h.elim
        | some t => intro h; cases t <;> first | exact ⟨_, rfl⟩ | exact h.elim
      obtain ⟨C, e1⟩ := e1
      exact W.aret (v := .null) B.exec B.bytes (hr.trans e1) (Or.inl ⟨C, rfl⟩) (Or.inl rfl) fin hS.2.2 hret
  · have hl := lv_entry (args.map (ptv g)) (n := mt.2.2.1) (by rw [lg_sl_ptv]; exact hlen)
    rw [lv_args_ptv] at hl
    exact hl
def mOK (mt : pMT) (n : Nat) : Prop := Cond.code mt.1 mt.2.1 mt.2.2.1 mt.2.2.2 ∈ lw_tbl ∧ Cond.initialized mt.1.cls ∈ lw_tbl ∧ (mt.1.cls ≠ "java/lang/invoke/MethodHandle" ∧ mt.1.cls ≠ "java/lang/invoke/VarHandle" ∧ (parseMethodDescriptor mt.1.desc).map (fun d => d.parameters.length) = some n) ∧ mt.2.2.1 ≤ 31 ∧ plainFor mt.1 = true
def mV (mt : pMT) : Prop := Cond.instanceMethod mt.1 ∈ lw_tbl ∧ Cond.selects mt.1.cls mt.1 mt.1 ∈ lw_tbl
def mS (mt : pMT) : Prop := Cond.static mt.1 ∈ lw_tbl
def mI (mt : pMT) : Prop := Cond.instanceMethod mt.1 ∈ lw_tbl ∧ mt.1.name = "<init>" ∧ mt.2.2.2 = none
theorem gtb_ws {mt : pMT} {n : Nat} (h : mOK mt n) : GoodIn gtb (Cond.code mt.1 mt.2.1 mt.2.2.1 mt.2.2.2 :: gtb) := by
  intro c hc
  have hm : c ∈ gtb := by
    rcases List.mem_cons.mp hc with rfl | hc
    · exact in_gtb h.1 rfl
    · exact hc
  exact ⟨hm, good_of_word (gtb_good hm)⟩
/-- behind a call -/
theorem p_ret {p : Program} {e : Env} {R : Room} {s : State} {m : MethodId} {args : Array Value} {below : List Frame} {meth : Method} {c : Code} {Qf : State → Prop} {H : Heap} {locs : List Loc} {ls : Array Slot} {kc ks mc ms : Nat} {st0 : List Value} {a : Array Value} {ret : Option FieldType}
    (hc : pC g x p R s m args meth c) (hx : ∀ (H : Heap) (locs : List Loc) (ls : Array Slot) (pc k n : Nat) (v : Option Value) (w : pW), pH g w H → va_S (pA g) s.heap H locs → w.1.length = x.2.2.2.2.2.2.2.1 + k → pSl w.1 = x.2.2.2.2.2.2.2.2 + n → Q v w → retI x.2.2.1 pc v → W p (gl g) e R s m args below meth c H locs k n Qf (F0 m pc ls ((v.map (ptv g)).toList)))
    (hr : va_Run p (gl g) e R s m args below meth c H locs kc ks mc ms (F0 m pc ls st0) (r.map (ptv g)) (pQ g ret w mc ms (fun v w' => Ok g x Q (pc + 3) l (v.toList ++ r) w') a) (pA g))
    (hS : va_S (pA g) s.heap H locs) (hk : w.1.length = x.2.2.2.2.2.2.2.1 + kc) (hn : pSl w.1 = x.2.2.2.2.2.2.2.2 + ks) (hl : lv_has ls x.2.2.2.1 (l.map (fun q => (q.1, ptv g q.2)))) : W p (gl g) e R s m args below meth c H locs kc ks Qf (F0 m pc ls st0) := by
  intro T hT X
  obtain ⟨v, st₀, t, T', L, h0, X', hL, e1, e2, ⟨⟨v2, w', hv, -, hok, hz1, hz2, hH'⟩, hz, hkk⟩, st⟩ := hr T hT X
  cases hv
  rw [h0] at hz hkk
  have hS1 : va_S (pA g) s.heap T'.heap (locs ++ L) := ⟨Nat.le_trans hS.1 (by rw [e1]; exact hz), fun q h1 h2 => by rw [e1, hkk q (Nat.lt_of_lt_of_le h1 hS.1) h2]; exact hS.2.1 q h1 h2, fun q hq => by
      rcases List.mem_append.mp hq with h | h
      · exact hS.2.2 q h
      · exact hL q h⟩
  have hW := hok p e R s m args below meth c Qf hc hx T'.heap (locs ++ L) ls (kc + mc) (ks + ms) (by rw [e1]; exact hH') hS1 (by rw [hz1, hk]; omega) (by rw [hz2, hn]; omega) hl
  have hst : (v2.toList ++ r).map (ptv g) = (v2.map (ptv g)).toList ++ r.map (ptv g) := by cases v2 <;> rfl
  rw [hst] at hW
  obtain ⟨t2, a1, b1⟩ := hW T' rfl X'
  exact ⟨t2, st t2 a1, b1⟩
theorem p_pre {d mc ms : Nat} {p : Program} {R : Room} {s : State} {m : MethodId} {args : Array Value} {meth : Method} {c : Code} {H : Heap} {locs : List Loc} {as : List Value} (hc : pC g x p R s m args meth c) (hH : pH g w H) (hS : va_S (pA g) s.heap H locs) : PreS s H (va_Pc (as.map (ptv g)) (fun U => pH g w U.heap ∧ pU g U U.heap ∧ pGo g)) (as.map (ptv g)) := by
  have hgo := hc.2.2.2.2.2.2.2.2.2.2.2.2
  refine ⟨fun a U f mk q => ⟨q.1, q.2.1, pU_moved (s := U) (U := U.calling f mk a) q.2.2.1 (State.WarmedH.refl U) hgo (fun _ _ _ => rfl), hgo⟩, fun U hU hW => ⟨rfl, by rw [hU]; exact hH, ?_, hgo⟩⟩
  rw [hU]
  exact pU_moved hc.2.2.2.2.2.2.2.2.2.2.2.1 hW hgo hS.2.1
theorem ok_callS {d idx n mc ms : Nat} {mt : pMT} {st As : List Value} (hd : decode x.2.2.1 pc = .ok (.invokestatic idx, 3)) (hm : mOK mt n) (hv : mS mt) (hlk : Cond.methodLink x.2.1 idx mt.1 ∈ lw_tbl) (hn : As.length = n) (hst : st = As.reverse ++ r) (hr : (r.map fun v => v.category).sum ≤ 8) (hdp : d + 1 ≤ x.1) (hc1 : w.1.length + mc ≤ x.2.2.2.2.2.2.2.1 + x.2.2.2.2.2.1) (hs1 : pSl w.1 + ms ≤ x.2.2.2.2.2.2.2.2 + x.2.2.2.2.2.2.1)
    (h : CT g d mt mc ms As w (fun v w' => Ok g x Q (pc + 3) l (v.toList ++ r) w')) : Ok g x Q pc l st w := by
  intro p e R s m args below meth c Qf hc hx H locs ls kc ks hH hS hk hn' hl
  subst hst
  have hts := hc.2.2.2.2.1
  have hR3 := hc.2.2.2.2.2.2.1
  have hR4 := hc.2.2.2.2.2.2.2.1
  have hR1 := hc.2.2.2.2.2.2.2.2.1
  have hR2 := hc.2.2.2.2.2.2.2.2.2.1
  have hml := hm.2.2.2.1
  refine p_ret hc hx (va_runS (As := As.map (ptv g)) (bytes := mt.2.1) (maxL := mt.2.2.1) (ret := mt.2.2.2) (n := n) ⟨hc.1, hc.2.1, hc.2.2.1, hc.2.2.2.1, hts⟩ h ⟨callB_of n hts (gtb_ws hm) rfl rfl rfl (hts _ (in_gtb hm.2.1 rfl)) (hts _ (in_gtb hlk rfl)) hm.2.2.1 ⟨?_, ?_⟩, hts _ (in_gtb hv rfl)⟩ (p_pre (d := d) (mc := mc) (ms := ms) hc hH hS) rfl (by rw [List.length_map]; exact hn) hl.1 ?_ ?_ hd ⟨?_, ?_⟩) hS hk hn' hl
  · show d + 1 ≤ R.frames
    omega
  · show 8 + (mt.2.2.1 + 11) + 50 * d ≤ R.locals
    omega
  · show (As.reverse ++ r).map (ptv g) = _
    rw [List.map_append, List.map_reverse]
  · show 2 * 0 + ((r.map (ptv g)).map fun v => v.category).sum ≤ 8
    rw [List.map_map, show ((fun v : Value => v.category) ∘ ptv g) = fun v => v.category from funext fun v => ptv_cat g v]
    omega
  · omega
  · omega
theorem ok_callV {d idx n mc ms ci a nn : Nat} {mt : pMT} {st As : List Value} {q : vw_C} (hd : decode x.2.2.1 pc = .ok (.invokevirtual idx, 3)) (hm : mOK mt n) (hv : mV mt) (hlk : Cond.methodLink x.2.1 idx mt.1 ∈ lw_tbl) (hn : As.length = n) (ha : w.1[a]? = some (ci, nn)) (hq : vwCl[ci]? = some q) (hqc : q.1 = mt.1.cls) (hst : st = As.reverse ++ .ref a :: r) (hr : (r.map fun v => v.category).sum ≤ 8) (hdp : d + 1 ≤ x.1) (hc1 : w.1.length + mc ≤ x.2.2.2.2.2.2.2.1 + x.2.2.2.2.2.1) (hs1 : pSl w.1 + ms ≤ x.2.2.2.2.2.2.2.2 + x.2.2.2.2.2.2.1)
    (h : CT g d mt mc ms (.ref a :: As) w (fun v w' => Ok g x Q (pc + 3) l (v.toList ++ r) w')) : Ok g x Q pc l st w := by
  intro p e R s m args below meth c Qf hc hx H locs ls kc ks hH hS hk hn' hl
  subst hst
  have hci := cl_lt hq
  obtain ⟨j, rfl, hj⟩ := pH_pos hH ha (by omega)
  have hpa : pad g (j + 1) = gz g + j := pad_s (by have := hH.2.2.2.1; omega)
  have hts := hc.2.2.2.2.1
  have hR3 := hc.2.2.2.2.2.2.1
  have hR4 := hc.2.2.2.2.2.2.2.1
  have hR1 := hc.2.2.2.2.2.2.2.2.1
  have hR2 := hc.2.2.2.2.2.2.2.2.2.1
  have hml := hm.2.2.2.1
  have hK := hc.2.2.2.2.2.2.2.2.2.2.2.1.1.1
  have hpre := p_pre (d := d) (mc := mc) (ms := ms) (as := .ref (j + 1) :: As) hc hH hS
  have hrecv : ∃ cellB : Cell, H[pad g (j + 1)]? = some cellB ∧ cellB.vm.isStatics = false ∧ s.vm.findClass mt.1.cls = some cellB.cls := by
    rw [hpa, ← hqc]
    exact va_recv hK hH.1 hq (by rw [pWs_get ha, pE_obj hci])
  refine p_ret hc hx (va_runV (C := mt.1.cls) (b := pad g (j + 1)) (As := As.map (ptv g)) (bytes := mt.2.1) (maxL := mt.2.2.1) (ret := mt.2.2.2) (n := n) ⟨hc.1, hc.2.1, hc.2.2.1, hc.2.2.2.1, hts⟩ h ⟨callB_of n hts (gtb_ws hm) rfl rfl rfl (hts _ (in_gtb hm.2.1 rfl)) (hts _ (in_gtb hlk rfl)) hm.2.2.1 ⟨?_, ?_⟩, hts _ (in_gtb hv.1 rfl), hts _ (in_gtb hv.2 rfl)⟩ ⟨hpre.1, hrecv, hpre.2⟩ rfl (by rw [List.length_map]; exact hn) hl.1 ?_ ?_ hd ⟨?_, ?_⟩) hS hk hn' hl
  · show d + 1 ≤ R.frames
    omega
  · show 8 + (mt.2.2.1 + 11) + 50 * d ≤ R.locals
    omega
  · show (As.reverse ++ .ref (j + 1) :: r).map (ptv g) = _
    rw [List.map_append, List.map_reverse]
    rfl
  · show 2 * 0 + ((r.map (ptv g)).map fun v => v.category).sum ≤ 8
    rw [List.map_map, show ((fun v : Value => v.category) ∘ ptv g) = fun v => v.category from funext fun v => ptv_cat g v]
    omega
  · omega
  · omega
theorem ok_callI {d idx n mc ms a : Nat} {mt : pMT} {st As : List Value} (hd : decode x.2.2.1 pc = .ok (.invokespecial idx, 3)) (hm : mOK mt n) (hv : mI mt) (hlk : Cond.methodLink x.2.1 idx mt.1 ∈ lw_tbl) (hn : As.length = n) (hst : st = As.reverse ++ .ref a :: r) (hr : (r.map fun v => v.category).sum ≤ 8) (hdp : d + 1 ≤ x.1) (hc1 : w.1.length + mc ≤ x.2.2.2.2.2.2.2.1 + x.2.2.2.2.2.1) (hs1 : pSl w.1 + ms ≤ x.2.2.2.2.2.2.2.2 + x.2.2.2.2.2.2.1)
    (h : CT g d mt mc ms (.ref a :: As) w (fun v w' => Ok g x Q (pc + 3) l (v.toList ++ r) w')) : Ok g x Q pc l st w := by
  intro p e R s m args below meth c Qf hc hx H locs ls kc ks hH hS hk hn' hl
  subst hst
  have hts := hc.2.2.2.2.1
  have hR3 := hc.2.2.2.2.2.2.1
  have hR4 := hc.2.2.2.2.2.2.2.1
  have hR1 := hc.2.2.2.2.2.2.2.2.1
  have hR2 := hc.2.2.2.2.2.2.2.2.2.1
  have hml := hm.2.2.2.1
  have hpre := p_pre (d := d) (mc := mc) (ms := ms) (as := .ref a :: As) hc hH hS
  have e9 : mt.2.2.2 = none := hv.2.2
  have hG := gtb_ws hm
  have h2 := h
  unfold CT at h2
  rw [e9] at h2 hG
  refine p_ret hc hx (va_runI (b := pad g a) (As := As.map (ptv g)) (bytes := mt.2.1) (maxL := mt.2.2.1) (n := n) ⟨hc.1, hc.2.1, hc.2.2.1, hc.2.2.2.1, hts⟩ h2 ⟨callB_of n hts hG rfl rfl rfl (hts _ (in_gtb hm.2.1 rfl)) (hts _ (in_gtb hlk rfl)) hm.2.2.1 ⟨?_, ?_⟩, hv.2.1, hts _ (in_gtb hv.1 rfl)⟩ hpre rfl (by rw [List.length_map]; exact hn) hl.1 ?_ ?_ hd ⟨?_, ?_⟩) hS hk hn' hl
  · show d + 1 ≤ R.frames
    omega
  · show 8 + (mt.2.2.1 + 11) + 50 * d ≤ R.locals
    omega
  · show (As.reverse ++ .ref a :: r).map (ptv g) = _
    rw [List.map_append, List.map_reverse]
    rfl
  · show 2 * 0 + ((r.map (ptv g)).map fun v => v.category).sum ≤ 8
    rw [List.map_map, show ((fun v : Value => v.category) ∘ ptv g) = fun v => v.category from funext fun v => ptv_cat g v]
    omega
  · omega
  · omega
end OkCall
