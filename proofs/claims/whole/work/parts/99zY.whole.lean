/-! the start: the world of the plain machine, as the statement gives it -/
theorem wh_prim {args : Array Value} {s : State} {ty : FieldType} (hty : ty = .int ∨ ty = .long ∨ ty = .boolean) (h : (Cond.arrayClass ty).before args s = true) : ∃ cA : ClassId, ArrOfT s cA ty ∧ va_RA s cA ty := by
  obtain ⟨cA, kA, comp, h1, h2, h3⟩ := Cond.arrayClass_spec h
  refine ⟨cA, fun n z => ⟨fun k h => (by cases h), kA, h2, comp, h3⟩, ?_⟩
  rcases hty with rfl | rfl | rfl <;> exact h1
theorem wh_obj {args : Array Value} {s : State} {C : String} (h : (Cond.arrayOver (.object C)).before args s = true) : ∃ cA : ClassId, ArrOfT s cA (.object C) ∧ va_RA s cA (.object C) := by
  obtain ⟨comp, cA, kA, h1, h2, h3, h4, h5⟩ := Cond.arrayOver_spec h
  exact ⟨cA, fun n z => ⟨fun k h => (by cases h), kA, h3, comp, h4⟩, kA, comp, h3, h4, h1, h5⟩
theorem wh_cls {args : Array Value} {s : State} (hts : ∀ w ∈ lw_tbl, w.before args s = true) : ∃ D : va_G, ∀ (c : Nat) (q : vw_C), vwCl[c]? = some q → u_Kn s q.1 q.2.1 q.2.2 (D.1 c) (D.2 c) := by
  have h : ∀ c : Nat, ∃ D : ClassId × (Nat → Nat), ∀ q : vw_C, vwCl[c]? = some q → u_Kn s q.1 q.2.1 q.2.2 D.1 D.2 := by
    intro c
    cases hq : vwCl[c]? with
    | none => exact ⟨(0, fun _ => 0), fun q h => by cases h⟩
    | some q =>
      have ok := cl_ok c q hq
      obtain ⟨cC, iS, hk⟩ := u_known hts ok.1.1 (hts _ ok.2.2.2.2.2.1)
      exact ⟨(cC, iS), fun q' h => by cases h; exact hk⟩
  exact ⟨(fun c => (h c).choose.1, fun c => (h c).choose.2), fun c q hq => (h c).choose_spec q hq⟩
theorem wh_el : ∀ j, j < 129 → (flatC (Jvm.Cond.and given_1 narrow_1))[39 + j]? = some (Cond.eq (.elem (.field (.string RX8 70) "java/lang/String" "value" "[B") (.int (Int32.ofNat j))) (.int (sByt.getD j 0))) := by decide +kernel
theorem wh_35 : (flatC (Jvm.Cond.and given_1 narrow_1))[35]? = some (Cond.exactly (.string RX8 70) "java/lang/String") := by decide +kernel
theorem wh_36 : (flatC (Jvm.Cond.and given_1 narrow_1))[36]? = some (Cond.eq (.field (.string RX8 70) "java/lang/String" "coder" "B") (.int 0)) := by decide +kernel
theorem wh_37 : (flatC (Jvm.Cond.and given_1 narrow_1))[37]? = some (Cond.arrayOf (.field (.string RX8 70) "java/lang/String" "value" "[B") .byte) := by decide +kernel
theorem wh_38 : (flatC (Jvm.Cond.and given_1 narrow_1))[38]? = some (Cond.eq (.length (.field (.string RX8 70) "java/lang/String" "value" "[B")) (.int (Int32.ofNat 129))) := by decide +kernel
theorem wh_4 : (flatC (Jvm.Cond.and given_1 narrow_1))[4]? = some (Cond.eq (.static RJ0 "COMPACT_STRINGS" "Z") (.int 1)) := by decide +kernel
theorem wh_5 : (flatC (Jvm.Cond.and given_1 narrow_1))[5]? = some (Cond.isRef (.static "jdk/internal/util/Preconditions" "SIOOBE_FORMATTER" "Ljava/util/function/BiFunction;")) := by decide +kernel
theorem wh_str {args : Array Value} {s : State} {A : Nat → Prop} (hts : ∀ w ∈ lw_tbl, w.before args s = true) (hgv : (Jvm.Cond.and given_1 narrow_1).before args s = true) (hA : ∀ a : Nat, a < s.heap.size → ¬ A a) : ∃ aS vS : Nat, SF A aS vS s s.heap := by
  have hs := flat_of_before _ hgv
  have hm : ∀ (i : Nat) (w : Cond), (flatC (Jvm.Cond.and given_1 narrow_1))[i]? = some w → w.before args s = true := fun i w h => hs w (List.mem_of_getElem? h)
  obtain ⟨adK, adV, hS, hE⟩ := vk_Sof (args := args) (s := s) (N := 1) (tm := fun _ => Term.string RX8 70) (len := [129]) (byt := [sByt]) (A := A)
    (fun i hi => by obtain rfl : i = 0 := by omega
                    decide)
    (fun i _ => hm 35 _ wh_35) (fun i _ => hm 36 _ wh_36) (fun i _ => hm 37 _ wh_37)
    (fun i hi => by obtain rfl : i = 0 := by omega
                    exact hm 38 _ wh_38)
    (fun i hi j hj => by obtain rfl : i = 0 := by omega
                         exact hm _ _ (wh_el j hj))
    (fun i j hi hj hij => absurd (show i = j by omega) hij) hA
  refine ⟨adK 0, adV 0, vk_R.of (hts _ (tb_i 457 (by decide +kernel))) (hE 0 (by decide)), ⟨fun i hi => ?_, fun i j hi hj _ => by omega⟩, va_Zof (hts _ (tb_i 467 (by decide +kernel))) (hts _ (tb_i 14 (by decide +kernel))) (va_eqi (hm 4 _ wh_4)) hA, va_Zqof (hts _ (tb_i 483 (by decide +kernel))) (hts _ (tb_i 16 (by decide +kernel))) (hm 5 _ wh_5) hA⟩
  obtain rfl : i = 0 := by omega
  exact hS.1 0 hi
theorem sl_le (M : Nat) : ∀ Z : pZ, (∀ (a : Nat) (q : Nat × Nat), Z[a]? = some q → q.2 ≤ M) → pSl Z ≤ Z.length * M := by
  intro Z
  induction Z with
  | nil => intro _; exact Nat.zero_le _
  | cons x Z ih =>
    intro h
    have h1 := h 0 x rfl
    have h2 := ih (fun a q e => h (a + 1) q e)
    have e : pSl (x :: Z) = x.2 + pSl Z := by simp [pSl]
    rw [e, List.length_cons, Nat.add_mul]
    omega
theorem wh_J : JMf.1 = 348 := by decide +kernel
theorem wh_JZ : ∀ a, a < 348 → ((lkZ JZ a).getD (0, 0)).2 ≤ 4371 := by decide +kernel
theorem wh_sl (ls : Nat) (xs : Nat → Int32) : pSl (WM ls xs).1 ≤ ls + 1600000 := by
  have hl : (WM ls xs).1.length = 348 := by rw [(Rel_M ls xs).1, wh_J]
  have h0 := bg_Z0 ls xs
  have hz : ∀ a q, a ≠ 0 → (WM ls xs).1[a]? = some q → q.2 ≤ 4371 := by
    intro a q ha hq
    have hlt : a < 348 := by have := (List.getElem?_eq_some_iff.mp hq).1; omega
    have h := wh_JZ a hlt
    rw [← bg_Z ls xs ha, hq] at h
    exact h
  generalize (WM ls xs).1 = Z at hl h0 hz
  cases Z with
  | nil => cases hl
  | cons x Z =>
    cases h0
    have h2 := sl_le 4371 Z (fun a q e => hz (a + 1) q (by omega) e)
    have e : pSl ((18, ls) :: Z) = ls + pSl Z := by simp [pSl]
    rw [List.length_cons] at hl
    rw [e, show Z.length = 347 by omega] at *
    omega
/-! THE CLAIM OUT OF ONE WALK OF THE LAW'S BODY. Your part is whole_start (and what it stands on); all else here is the same for every law, but numbers. -/
def R_law : String := "PianolaRollsLaw"
def lw_P (b : Addr) (xs : List Int32) (args : Array Value) (s : State) : Prop := args = #[.ref b] ∧ s.IntsAt b xs ∧ xs.length ≤ 3072 ∧ (Jvm.Cond.and given_1 narrow_1).before args s = true
def lw_Q (_ : Array Value) (s : State) (o : Outcome) (t : State) : Prop := o = .returned (some (.int 1)) ∧ Framed s o t [] 600000 7302250
def lw_Z (below : List Frame) (a : Array Value) (s : State) : State → Prop := fun t => ∃ o, t.status = .running ∧ Ended t below o ∧ lw_Q a s o t
/-- the law's own end, with 1 on the stack, nothing written that was there before, its room as the claim has it -/
theorem lw_ret {p : Program} {l : Launch} {e : Env} {s : State} {m : MethodId} {below : List Frame} {meth : Method} {c : Code} {b : Nat} (hx : p.tables.exec = Jvm.exec) (hb : c.code = code) (hr : meth.sig.returnType = ret) (hlocks : meth.locks = false) {pc : Nat} {H : Heap} {ls : Array Slot} (hdg : decode code pc = .ok (.ireturn, 1)) : W p l e room_1 s m #[Value.ref b] below meth c H [] 600000 7302250 (lw_Z below #[Value.ref b] s) (F0 m pc ls [.int 1]) := by
  intro T hT X
  obtain ⟨fs, hret, hrun, hended, hW, hframe⟩ := X.leave (v := some (.int 1)) (hlocks := hlocks) (fun h => by rw [hr] at h; cases h)
  have hmeth' : T.vm.method? m = some meth := X.method'
  refine ⟨T.setFrames fs, ?_, .returned (some (.int 1)), hrun, hended, rfl, ⟨_, rfl⟩, hW, hframe⟩
  jvm_step X.here [X.here.top, hx, hb, hdg, hmeth', hr, ret, narrow_b1]
  (try refine ⟨rfl, ?_⟩); (try refine ⟨rfl, ?_⟩)
  first | (intro acts; rw [hret _ acts rfl rfl rfl]) | rw [hret _ _ rfl rfl rfl]
  exact Steps.refl _
/-- what holds at the law's entry: the machine, the code, the tables' words (any of lw_tbl by 'hts w (by decide +kernel)'), the script of L ints xs at the cell b, what the Statement gives of the start (any of its parts by flat_of_before) -/
def lw_At (p : Program) (s : State) (m : MethodId) (meth : Method) (c : Code) (b L : Nat) (xs : Nat → Int32) : Prop :=
  p.tables.exec = Jvm.exec ∧ c.code = code ∧ meth.sig.returnType = ret ∧ c.maxLocals = 4 ∧ s.vm.findClass R_law = some m.cls ∧ (∀ w ∈ lw_tbl, w.before #[Value.ref b] s = true) ∧ va_X b L xs s s.heap ∧ b < s.heap.size ∧ meth.locks = false ∧ (Jvm.Cond.and given_1 narrow_1).before #[Value.ref b] s = true
theorem wh_run {g : pG} {p : Program} {e : Env} {s : State} {m : MethodId} {below : List Frame} {meth : Method} {c : Code} (hx : p.tables.exec = Jvm.exec) (hb : c.code = code) (hr : meth.sig.returnType = ret) (hml : c.maxLocals = 4) (hown : s.vm.findClass R_law = some m.cls) (hts : ∀ w ∈ lw_tbl, w.before #[Value.ref (gb g)] s = true) (hlocks : meth.locks = false)
    (hz : gz g = s.heap.size) (hU : pU g s s.heap) (hG : pGo g) (hStr : StrOK g) (hgL : gL g ≤ 3072) {ls : Array Slot} (hl : lv_has ls 4 [(0, .ref (gb g))]) : W p (gl g) e room_1 s m #[Value.ref (gb g)] below meth c s.heap [] 0 0 (lw_Z below #[Value.ref (gb g)] s) (F0 m 0 ls []) := by
  have ok := law_all (g := g) (Qx := fun v w => v = some (.int 1) ∧ w.1 = (WM (gL g) (gx g)).1) hStr hgL (fun I L O => ⟨rfl, rfl⟩)
  have hc : pC g (400, RL, cL_law, 4, false, 600000, 7302250, 1, gL g) p room_1 s m #[Value.ref (gb g)] meth c := ⟨hx, hb, hml, hown, fun w hw => hts w (List.mem_filter.mp hw).1, fun h => (by cases h), Nat.le_of_ble_eq_true rfl, Nat.le_of_ble_eq_true rfl, rfl, rfl, (by show s.heap.size + 1 = gz g + 1; rw [hz]), hU, hG⟩
  refine ok p e room_1 s m _ below meth c _ hc ?_ s.heap [] ls 0 0 ⟨fun k q h => ?_, (by show s.heap.size + 1 = gz g + 1; rw [hz]), rfl, Nat.le_of_ble_eq_true rfl, rfl⟩ va_S.rf rfl ?_ hl
  · intro H locs ls pc k n v w hH hS hk hn hQ hret
    obtain ⟨hv, hw⟩ := hQ
    subst hv
    have h1 := wh_sl (gL g) (gx g)
    have h2 := hH.2.2.2.1
    rw [hw] at hn
    have hk : w.1.length = 1 + k := hk
    have hn : pSl (WM (gL g) (gx g)).1 = gL g + n := hn
    refine va_forget (fun q hq => by rw [← hz]; exact hS.2.2 q hq) ?_
    refine W.widen (k := 600000) (n := 7302250) (by omega) (by omega) ?_
    exact lw_ret hx hb hr hlocks hret
  · cases h
  · show pSl [(18, gL g)] = gL g + 0
    simp [pSl]
/-- YOUR PART: from the entry, for every script of at most 3072 ints, the law comes to its end with true ('hflags': the launch's flags, for a law that throws: no stack traces) -/
theorem whole_start {p : Program} {e : Env} {s : State} {m : MethodId} {below : List Frame} {meth : Method} {c : Code} (l : Launch) (hflags : l.flags = flags0) {b L : Nat} {xs : Nat → Int32} (hL : L ≤ 3072) (C0 : lw_At p s m meth c b L xs) : W p l e room_1 s m #[Value.ref b] below meth c s.heap [] 0 0 (lw_Z below #[Value.ref b] s) (entryFrame m ([Value.ref b] : List Value).toArray 4) := by
  obtain ⟨hx, hb, hr, hml, hown, hts, hX, hbl, hlocks, hgv⟩ := id C0
  obtain ⟨D, hD⟩ := wh_cls hts
  obtain ⟨a13, k13⟩ := wh_prim (ty := .int) (Or.inl rfl) (hts _ (tb_i 77 (by decide +kernel)))
  obtain ⟨a14, k14⟩ := wh_prim (ty := .long) (Or.inr (Or.inl rfl)) (hts _ (tb_i 290 (by decide +kernel)))
  obtain ⟨a15, k15⟩ := wh_prim (ty := .boolean) (Or.inr (Or.inr rfl)) (hts _ (tb_i 1408 (by decide +kernel)))
  have o3 : (Cond.arrayOver (.object RX3)).before #[Value.ref b] s = true := hts _ (tb_i 111 (by decide +kernel))
  have o7 : (Cond.arrayOver (.object RX7)).before #[Value.ref b] s = true := hts _ (tb_i 171 (by decide +kernel))
  obtain ⟨a16, k16⟩ := wh_obj o3
  obtain ⟨a17, k17⟩ := wh_obj o7
  obtain ⟨aS, vS, hSF⟩ := wh_str (A := fun q : Nat => s.heap.size ≤ q) hts hgv (fun a h => Nat.not_le.mpr h)
  have hl := lv_entry ([.ref b]) (n := 4) (Nat.le_of_ble_eq_true rfl)
  rw [lg_entry_eq]
  generalize (lg_sl ([.ref b]) ++ List.replicate (4 - (lg_sl ([.ref b])).length) Slot.unset).toArray = ls at hl ⊢
  have hl : lv_has ls 4 [(0, .ref b)] := hl
  have hK : va_K D vwCl [(a13, .int), (a14, .long), (a15, .boolean), (a16, .object RX3), (a17, .object RX7)] s := by
    refine ⟨hD, fun k q h => ?_⟩
    match k, h with
    | 0, h => cases h; exact k13
    | 1, h => cases h; exact k14
    | 2, h => cases h; exact k15
    | 3, h => cases h; exact k16
    | 4, h => cases h; exact k17
    | k + 5, h => simp at h
  exact wh_run (g := (l, D, fun k => if k = 13 then a13 else if k = 14 then a14 else if k = 15 then a15 else if k = 16 then a16 else a17, b, s.heap.size, aS, SF (fun q : Nat => s.heap.size ≤ q) aS vS, L, xs)) hx hb hr hml hown hts hlocks rfl ⟨⟨hK, va_AO.of o3, va_AO.of o7⟩, hX, hSF⟩ ⟨hbl, fun s U H hW h => h.warm hW, fun U H H1 hq h => h.kept hq⟩ (str_ok (fun U H h => h)) hL hl
