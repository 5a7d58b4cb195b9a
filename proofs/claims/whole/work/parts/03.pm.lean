/-! The plain machine: a world of cells by small addresses, a judgement Ok over it (what the real machine does from there), a rule for each instruction. -/
abbrev pZ : Type := List (Nat × Nat)
abbrev pW : Type := pZ × (Nat → Nat → Int32) × (Nat → Nat → Int64) × (Nat → Nat → Option Nat)
abbrev pL : Type := List (Nat × Value)
/-- a method: its name, its code, its locals, what it returns -/
abbrev pMT : Type := MethodName × ByteArray × Nat × Option FieldType
/-- what stays the same all along: launch, classes and slots, array classes, the script's address, the first own address, the text's address, what is known of the text, the script's length and ints -/
abbrev pG : Type := Launch × va_G × (Nat → ClassId) × Nat × Nat × Nat × (State → Heap → Prop) × Nat × (Nat → Int32)
/-- what stays the same in a method: depth left, its class, code, locals, is it a constructor, cells and slots it may make, how many there were -/
abbrev pX : Type := Nat × String × ByteArray × Nat × Bool × Nat × Nat × Nat × Nat
abbrev gl (g : pG) : Launch := g.1
abbrev gD (g : pG) : va_G := g.2.1
abbrev gA (g : pG) : Nat → ClassId := g.2.2.1
abbrev gb (g : pG) : Nat := g.2.2.2.1
abbrev gz (g : pG) : Nat := g.2.2.2.2.1
abbrev gS (g : pG) : Nat := g.2.2.2.2.2.1
abbrev gh (g : pG) : State → Heap → Prop := g.2.2.2.2.2.2.1
abbrev gL (g : pG) : Nat := g.2.2.2.2.2.2.2.1
abbrev gx (g : pG) : Nat → Int32 := g.2.2.2.2.2.2.2.2
def gtb : List Cond := lw_tbl.filter goodWord
theorem in_gtb {c : Cond} (h : c ∈ lw_tbl) (hg : goodWord c = true) : c ∈ gtb := List.mem_filter.mpr ⟨h, hg⟩
theorem gtb_good {c : Cond} (h : c ∈ gtb) : goodWord c = true := (List.mem_filter.mp h).2
def pA (g : pG) : Nat → Prop := fun q => gz g ≤ q
def pad (g : pG) (a : Nat) : Nat := if a = 0 then gb g else if a = 1000000 then gS g else gz g + (a - 1)
def ptv (g : pG) (v : Value) : Value := match v with
  | .ref a => .ref (pad g a)
  | v => v
def tyT (ci : Nat) : Nat → FieldType := match ci with
  | 0 => tyX0 | 1 => tyX1 | 2 => tyX2 | 3 => tyX3 | 4 => tyX4 | 5 => tyX5 | 6 => tyX6 | 7 => tyX7 | 8 => tyX8 | 9 => tyX9 | 10 => tyX10 | 11 => tyX11 | _ => tyX12
def fK (t : FieldType) : Nat := match t with
  | .int => 0 | .boolean => 0 | .long => 1 | _ => 2
/-- what a field holds -/
def pv (w : pW) (ci a k : Nat) : Value := match fK (tyT ci k) with
  | 0 => .int (w.2.1 a k) | 1 => .long (w.2.2.1 a k) | _ => va_rf (w.2.2.2 a k)
def pAr (g : pG) (w : pW) (a kd : Nat) : ((Nat → Int32) ⊕ (Nat → Int64) ⊕ (Nat → UInt32) ⊕ (Nat → UInt64) ⊕ (Nat → Option Nat)) :=
  if kd = 14 then .inr (.inl (w.2.2.1 a)) else if 16 ≤ kd then .inr (.inr (.inr (.inr (fun i => (w.2.2.2 a i).map (pad g))))) else .inl (w.2.1 a)
def pE (g : pG) (w : pW) (a : Nat) (kn : Nat × Nat) : va_E :=
  if kn.1 < 13 then .inr (kn.1, (List.range kn.2).map (fun k => ptv g (pv w kn.1 a k))) else .inl (gA g kn.1, kn.2, pAr g w a kn.1)
def pWs (g : pG) (w : pW) : va_W := (List.range (w.1.length - 1)).map (fun j => (gz g + j, pE g w (j + 1) (w.1.getD (j + 1) (0, 0))))
def pTys (g : pG) : List (ClassId × FieldType) := [(gA g 13, .int), (gA g 14, .long), (gA g 15, .boolean), (gA g 16, .object RX3), (gA g 17, .object RX7)]
def pK (g : pG) (U : State) : Prop := va_K (gD g) vwCl (pTys g) U ∧ va_AO RX3 U ∧ va_AO RX7 U
/-- the heap holds the world -/
def pH (g : pG) (w : pW) (H : Heap) : Prop := va_P (gD g) vwCl (pWs g w) H ∧ H.size + 1 = gz g + w.1.length ∧ w.1[0]? = some (18, gL g) ∧ w.1.length ≤ 1000 ∧ w.2.1 0 = gx g
/-- what is known of a state beside the world -/
def pU (g : pG) (U : State) (H : Heap) : Prop := pK g U ∧ va_X (gb g) (gL g) (gx g) U H ∧ gh g U H
/-- what is known of g -/
def pGo (g : pG) : Prop := gb g < gz g ∧ (∀ (s U : State) (H : Heap), s.WarmedH U.vm → gh g s H → gh g U H) ∧ (∀ (U : State) (H H1 : Heap), (∀ a : Nat, a < H.size → ¬ pA g a → H1[a]? = H[a]?) → gh g U H → gh g U H1)
def pSl (Z : pZ) : Nat := (Z.map (fun q => q.2)).sum
def pC (g : pG) (x : pX) (p : Program) (R : Room) (s : State) (m : MethodId) (args : Array Value) (meth : Method) (c : Code) : Prop :=
  p.tables.exec = Jvm.exec ∧ c.code = x.2.2.1 ∧ c.maxLocals = x.2.2.2.1 ∧ s.vm.findClass x.2.1 = some m.cls ∧ (∀ w ∈ gtb, w.before args s = true) ∧ (x.2.2.2.2.1 = true → meth.name = "<init>") ∧ x.1 ≤ R.frames ∧ 50 * x.1 ≤ R.locals ∧ x.2.2.2.2.2.1 = R.cells ∧ x.2.2.2.2.2.2.1 = R.slots ∧ s.heap.size + 1 = gz g + x.2.2.2.2.2.2.2.1 ∧ pU g s s.heap ∧ pGo g
def retI (cc : ByteArray) (pc : Nat) (v : Option Value) : Prop := match v with
  | none => decode cc pc = .ok (.return_, 1)
  | some (.int _) => decode cc pc = .ok (.ireturn, 1)
  | some (.long _) => decode cc pc = .ok (.lreturn, 1)
  | some (.ref _) => decode cc pc = .ok (.areturn, 1)
  | some .null => decode cc pc = .ok (.areturn, 1)
  | _ => False
def Ok (g : pG) (x : pX) (Q : Option Value → pW → Prop) (pc : Nat) (l : pL) (st : List Value) (w : pW) : Prop :=
  ∀ (p : Program) (e : Env) (R : Room) (s : State) (m : MethodId) (args : Array Value) (below : List Frame) (meth : Method) (c : Code) (Qf : State → Prop),
    pC g x p R s m args meth c →
    (∀ (H : Heap) (locs : List Loc) (ls : Array Slot) (pc k n : Nat) (v : Option Value) (w : pW), pH g w H → va_S (pA g) s.heap H locs → w.1.length = x.2.2.2.2.2.2.2.1 + k → pSl w.1 = x.2.2.2.2.2.2.2.2 + n → Q v w → retI x.2.2.1 pc v → W p (gl g) e R s m args below meth c H locs k n Qf (F0 m pc ls ((v.map (ptv g)).toList))) →
    ∀ (H : Heap) (locs : List Loc) (ls : Array Slot) (k n : Nat), pH g w H → va_S (pA g) s.heap H locs → w.1.length = x.2.2.2.2.2.2.2.1 + k → pSl w.1 = x.2.2.2.2.2.2.2.2 + n → lv_has ls x.2.2.2.1 (l.map (fun q => (q.1, ptv g q.2))) → W p (gl g) e R s m args below meth c H locs k n Qf (F0 m pc ls (st.map (ptv g)))
section OkRules
variable {g : pG} {x : pX} {Q : Option Value → pW → Prop} {pc : Nat} {l : pL} {r : List Value} {w : pW}
theorem ok_iconst {i : Int} {v : Int32} (hd : decode x.2.2.1 pc = .ok (.iconst i, 1)) (hv : Int32.ofInt i = v) (k : Ok g x Q (pc + 1) l (.int v :: r) w) : Ok g x Q pc l (r) w :=
  fun p e R s m args below meth c Qf hc hx H locs ls kc ks hH hS hk hn hl => lv_iconst hc.1 hc.2.1 hd hv (k p e R s m args below meth c Qf hc hx H locs ls kc ks hH hS hk hn hl)
theorem ok_bipush {i : Int} {v : Int32} (hd : decode x.2.2.1 pc = .ok (.bipush i, 2)) (hv : (Int8.ofInt i).toInt32 = v) (k : Ok g x Q (pc + 2) l (.int v :: r) w) : Ok g x Q pc l (r) w :=
  fun p e R s m args below meth c Qf hc hx H locs ls kc ks hH hS hk hn hl => lv_bipush hc.1 hc.2.1 hd hv (k p e R s m args below meth c Qf hc hx H locs ls kc ks hH hS hk hn hl)
theorem ok_sipush {i : Int} {v : Int32} (hd : decode x.2.2.1 pc = .ok (.sipush i, 3)) (hv : (Int16.ofInt i).toInt32 = v) (k : Ok g x Q (pc + 3) l (.int v :: r) w) : Ok g x Q pc l (r) w :=
  fun p e R s m args below meth c Qf hc hx H locs ls kc ks hH hS hk hn hl => lv_sipush hc.1 hc.2.1 hd hv (k p e R s m args below meth c Qf hc hx H locs ls kc ks hH hS hk hn hl)
theorem ok_lconst {i : Fin 2} {v : Int64} (hd : decode x.2.2.1 pc = .ok (.lconst i, 1)) (hv : Int64.ofNat (i : Nat) = v) (k : Ok g x Q (pc + 1) l (.long v :: r) w) : Ok g x Q pc l (r) w :=
  fun p e R s m args below meth c Qf hc hx H locs ls kc ks hH hS hk hn hl => lv_lconst hc.1 hc.2.1 hd hv (k p e R s m args below meth c Qf hc hx H locs ls kc ks hH hS hk hn hl)
theorem ok_null  (hd : decode x.2.2.1 pc = .ok (.aconst_null, 1)) (k : Ok g x Q (pc + 1) l (.null :: r) w) : Ok g x Q pc l (r) w :=
  fun p e R s m args below meth c Qf hc hx H locs ls kc ks hH hS hk hn hl => lv_null hc.1 hc.2.1 hd  (k p e R s m args below meth c Qf hc hx H locs ls kc ks hH hS hk hn hl)
theorem ok_iadd {a b : Int32} (hd : decode x.2.2.1 pc = .ok (.iadd, 1)) (k : Ok g x Q (pc + 1) l (.int (a + b) :: r) w) : Ok g x Q pc l (.int b :: .int a :: r) w :=
  fun p e R s m args below meth c Qf hc hx H locs ls kc ks hH hS hk hn hl => lv_iadd hc.1 hc.2.1 hd  (k p e R s m args below meth c Qf hc hx H locs ls kc ks hH hS hk hn hl)
theorem ok_isub {a b : Int32} (hd : decode x.2.2.1 pc = .ok (.isub, 1)) (k : Ok g x Q (pc + 1) l (.int (a - b) :: r) w) : Ok g x Q pc l (.int b :: .int a :: r) w :=
  fun p e R s m args below meth c Qf hc hx H locs ls kc ks hH hS hk hn hl => lv_isub hc.1 hc.2.1 hd  (k p e R s m args below meth c Qf hc hx H locs ls kc ks hH hS hk hn hl)
theorem ok_imul {a b : Int32} (hd : decode x.2.2.1 pc = .ok (.imul, 1)) (k : Ok g x Q (pc + 1) l (.int (a * b) :: r) w) : Ok g x Q pc l (.int b :: .int a :: r) w :=
  fun p e R s m args below meth c Qf hc hx H locs ls kc ks hH hS hk hn hl => lv_imul hc.1 hc.2.1 hd  (k p e R s m args below meth c Qf hc hx H locs ls kc ks hH hS hk hn hl)
theorem ok_iand {a b : Int32} (hd : decode x.2.2.1 pc = .ok (.iand, 1)) (k : Ok g x Q (pc + 1) l (.int (a &&& b) :: r) w) : Ok g x Q pc l (.int b :: .int a :: r) w :=
  fun p e R s m args below meth c Qf hc hx H locs ls kc ks hH hS hk hn hl => lv_iand hc.1 hc.2.1 hd  (k p e R s m args below meth c Qf hc hx H locs ls kc ks hH hS hk hn hl)
theorem ok_ior {a b : Int32} (hd : decode x.2.2.1 pc = .ok (.ior, 1)) (k : Ok g x Q (pc + 1) l (.int (a ||| b) :: r) w) : Ok g x Q pc l (.int b :: .int a :: r) w :=
  fun p e R s m args below meth c Qf hc hx H locs ls kc ks hH hS hk hn hl => lv_ior hc.1 hc.2.1 hd  (k p e R s m args below meth c Qf hc hx H locs ls kc ks hH hS hk hn hl)
theorem ok_ixor {a b : Int32} (hd : decode x.2.2.1 pc = .ok (.ixor, 1)) (k : Ok g x Q (pc + 1) l (.int (a ^^^ b) :: r) w) : Ok g x Q pc l (.int b :: .int a :: r) w :=
  fun p e R s m args below meth c Qf hc hx H locs ls kc ks hH hS hk hn hl => lv_ixor hc.1 hc.2.1 hd  (k p e R s m args below meth c Qf hc hx H locs ls kc ks hH hS hk hn hl)
theorem ok_ishl {a b : Int32} (hd : decode x.2.2.1 pc = .ok (.ishl, 1)) (k : Ok g x Q (pc + 1) l (.int (a <<< (b &&& 31)) :: r) w) : Ok g x Q pc l (.int b :: .int a :: r) w :=
  fun p e R s m args below meth c Qf hc hx H locs ls kc ks hH hS hk hn hl => lv_ishl hc.1 hc.2.1 hd  (k p e R s m args below meth c Qf hc hx H locs ls kc ks hH hS hk hn hl)
theorem ok_ishr {a b : Int32} (hd : decode x.2.2.1 pc = .ok (.ishr, 1)) (k : Ok g x Q (pc + 1) l (.int (a >>> (b &&& 31)) :: r) w) : Ok g x Q pc l (.int b :: .int a :: r) w :=
  fun p e R s m args below meth c Qf hc hx H locs ls kc ks hH hS hk hn hl => lv_ishr hc.1 hc.2.1 hd  (k p e R s m args below meth c Qf hc hx H locs ls kc ks hH hS hk hn hl)
theorem ok_idiv {a b : Int32} (hd : decode x.2.2.1 pc = .ok (.idiv, 1)) (hb : ¬ b = 0) (k : Ok g x Q (pc + 1) l (.int (a / b) :: r) w) : Ok g x Q pc l (.int b :: .int a :: r) w :=
  fun p e R s m args below meth c Qf hc hx H locs ls kc ks hH hS hk hn hl => lv_idiv hc.1 hc.2.1 hd hb (k p e R s m args below meth c Qf hc hx H locs ls kc ks hH hS hk hn hl)
theorem ok_irem {a b : Int32} (hd : decode x.2.2.1 pc = .ok (.irem, 1)) (hb : ¬ b = 0) (k : Ok g x Q (pc + 1) l (.int (a - a / b * b) :: r) w) : Ok g x Q pc l (.int b :: .int a :: r) w :=
  fun p e R s m args below meth c Qf hc hx H locs ls kc ks hH hS hk hn hl => lv_irem hc.1 hc.2.1 hd hb (k p e R s m args below meth c Qf hc hx H locs ls kc ks hH hS hk hn hl)
theorem ok_iushr {a b : Int32} (hd : decode x.2.2.1 pc = .ok (.iushr, 1)) (k : Ok g x Q (pc + 1) l (.int (a.toUInt32 >>> (b.toUInt32 &&& Int32.toUInt32 31)).toInt32 :: r) w) : Ok g x Q pc l (.int b :: .int a :: r) w :=
  fun p e R s m args below meth c Qf hc hx H locs ls kc ks hH hS hk hn hl => lv_iushr hc.1 hc.2.1 hd rfl (k p e R s m args below meth c Qf hc hx H locs ls kc ks hH hS hk hn hl)
theorem ok_ineg {a : Int32} (hd : decode x.2.2.1 pc = .ok (.ineg, 1)) (k : Ok g x Q (pc + 1) l (.int (-a) :: r) w) : Ok g x Q pc l (.int a :: r) w :=
  fun p e R s m args below meth c Qf hc hx H locs ls kc ks hH hS hk hn hl => lv_ineg hc.1 hc.2.1 hd  (k p e R s m args below meth c Qf hc hx H locs ls kc ks hH hS hk hn hl)
theorem ok_ladd {a b : Int64} (hd : decode x.2.2.1 pc = .ok (.ladd, 1)) (k : Ok g x Q (pc + 1) l (.long (a + b) :: r) w) : Ok g x Q pc l (.long b :: .long a :: r) w :=
  fun p e R s m args below meth c Qf hc hx H locs ls kc ks hH hS hk hn hl => lv_ladd hc.1 hc.2.1 hd  (k p e R s m args below meth c Qf hc hx H locs ls kc ks hH hS hk hn hl)
theorem ok_lsub {a b : Int64} (hd : decode x.2.2.1 pc = .ok (.lsub, 1)) (k : Ok g x Q (pc + 1) l (.long (a - b) :: r) w) : Ok g x Q pc l (.long b :: .long a :: r) w :=
  fun p e R s m args below meth c Qf hc hx H locs ls kc ks hH hS hk hn hl => lv_lsub hc.1 hc.2.1 hd  (k p e R s m args below meth c Qf hc hx H locs ls kc ks hH hS hk hn hl)
theorem ok_lmul {a b : Int64} (hd : decode x.2.2.1 pc = .ok (.lmul, 1)) (k : Ok g x Q (pc + 1) l (.long (a * b) :: r) w) : Ok g x Q pc l (.long b :: .long a :: r) w :=
  fun p e R s m args below meth c Qf hc hx H locs ls kc ks hH hS hk hn hl => lv_lmul hc.1 hc.2.1 hd  (k p e R s m args below meth c Qf hc hx H locs ls kc ks hH hS hk hn hl)
theorem ok_lor {a b : Int64} (hd : decode x.2.2.1 pc = .ok (.lor, 1)) (k : Ok g x Q (pc + 1) l (.long (a ||| b) :: r) w) : Ok g x Q pc l (.long b :: .long a :: r) w :=
  fun p e R s m args below meth c Qf hc hx H locs ls kc ks hH hS hk hn hl => lv_lor hc.1 hc.2.1 hd  (k p e R s m args below meth c Qf hc hx H locs ls kc ks hH hS hk hn hl)
theorem ok_ldiv {a b : Int64} (hd : decode x.2.2.1 pc = .ok (.ldiv, 1)) (hb : ¬ b = 0) (k : Ok g x Q (pc + 1) l (.long (a / b) :: r) w) : Ok g x Q pc l (.long b :: .long a :: r) w :=
  fun p e R s m args below meth c Qf hc hx H locs ls kc ks hH hS hk hn hl => lv_ldiv hc.1 hc.2.1 hd hb (k p e R s m args below meth c Qf hc hx H locs ls kc ks hH hS hk hn hl)
theorem ok_lrem {a b : Int64} (hd : decode x.2.2.1 pc = .ok (.lrem, 1)) (hb : ¬ b = 0) (k : Ok g x Q (pc + 1) l (.long (a - a / b * b) :: r) w) : Ok g x Q pc l (.long b :: .long a :: r) w :=
  fun p e R s m args below meth c Qf hc hx H locs ls kc ks hH hS hk hn hl => lv_lrem hc.1 hc.2.1 hd hb (k p e R s m args below meth c Qf hc hx H locs ls kc ks hH hS hk hn hl)
theorem ok_lneg {a : Int64} (hd : decode x.2.2.1 pc = .ok (.lneg, 1)) (k : Ok g x Q (pc + 1) l (.long (-a) :: r) w) : Ok g x Q pc l (.long a :: r) w :=
  fun p e R s m args below meth c Qf hc hx H locs ls kc ks hH hS hk hn hl => lv_lneg hc.1 hc.2.1 hd  (k p e R s m args below meth c Qf hc hx H locs ls kc ks hH hS hk hn hl)
theorem ok_lshl {a : Int64} {b : Int32} (hd : decode x.2.2.1 pc = .ok (.lshl, 1)) (k : Ok g x Q (pc + 1) l (.long (a <<< (b.toInt64 &&& 63)) :: r) w) : Ok g x Q pc l (.int b :: .long a :: r) w :=
  fun p e R s m args below meth c Qf hc hx H locs ls kc ks hH hS hk hn hl => lv_lshl hc.1 hc.2.1 hd rfl (k p e R s m args below meth c Qf hc hx H locs ls kc ks hH hS hk hn hl)
theorem ok_lshr {a : Int64} {b : Int32} (hd : decode x.2.2.1 pc = .ok (.lshr, 1)) (k : Ok g x Q (pc + 1) l (.long (a >>> (b.toInt64 &&& 63)) :: r) w) : Ok g x Q pc l (.int b :: .long a :: r) w :=
  fun p e R s m args below meth c Qf hc hx H locs ls kc ks hH hS hk hn hl => lv_lshr hc.1 hc.2.1 hd rfl (k p e R s m args below meth c Qf hc hx H locs ls kc ks hH hS hk hn hl)
theorem ok_lcmp {a b : Int64} (hd : decode x.2.2.1 pc = .ok (.lcmp, 1)) (k : Ok g x Q (pc + 1) l (.int (lg_cmp a b) :: r) w) : Ok g x Q pc l (.long b :: .long a :: r) w :=
  fun p e R s m args below meth c Qf hc hx H locs ls kc ks hH hS hk hn hl => W.lcmp hc.1 hc.2.1 hd  (k p e R s m args below meth c Qf hc hx H locs ls kc ks hH hS hk hn hl)
theorem ok_i2l {a : Int32} (hd : decode x.2.2.1 pc = .ok (.i2l, 1)) (k : Ok g x Q (pc + 1) l (.long a.toInt64 :: r) w) : Ok g x Q pc l (.int a :: r) w :=
  fun p e R s m args below meth c Qf hc hx H locs ls kc ks hH hS hk hn hl => lv_i2l hc.1 hc.2.1 hd rfl (k p e R s m args below meth c Qf hc hx H locs ls kc ks hH hS hk hn hl)
theorem ok_l2i {a : Int64} (hd : decode x.2.2.1 pc = .ok (.l2i, 1)) (k : Ok g x Q (pc + 1) l (.int a.toInt32 :: r) w) : Ok g x Q pc l (.long a :: r) w :=
  fun p e R s m args below meth c Qf hc hx H locs ls kc ks hH hS hk hn hl => lv_l2i hc.1 hc.2.1 hd rfl (k p e R s m args below meth c Qf hc hx H locs ls kc ks hH hS hk hn hl)
theorem ptv_cat (g : pG) (v : Value) : (ptv g v).category = v.category := by cases v <;> rfl
theorem ok_dup {v : Value} (hd : decode x.2.2.1 pc = .ok (.dup, 1)) (hv : v.category = 1) (k : Ok g x Q (pc + 1) l (v :: v :: r) w) : Ok g x Q pc l (v :: r) w :=
  fun p e R s m args below meth c Qf hc hx H locs ls kc ks hH hS hk hn hl => lv_dup hc.1 hc.2.1 hd ((ptv_cat g v).trans hv) (k p e R s m args below meth c Qf hc hx H locs ls kc ks hH hS hk hn hl)
theorem ok_dup2 {v u : Value} (hd : decode x.2.2.1 pc = .ok (.dup2, 1)) (hv : v.category = 1) (hu : u.category = 1) (k : Ok g x Q (pc + 1) l (v :: u :: v :: u :: r) w) : Ok g x Q pc l (v :: u :: r) w :=
  fun p e R s m args below meth c Qf hc hx H locs ls kc ks hH hS hk hn hl => lv_dup2_11 hc.1 hc.2.1 hd ((ptv_cat g v).trans hv) ((ptv_cat g u).trans hu) (k p e R s m args below meth c Qf hc hx H locs ls kc ks hH hS hk hn hl)
theorem ok_dupx1 {v u : Value} (hd : decode x.2.2.1 pc = .ok (.dup_x1, 1)) (hv : v.category = 1) (hu : u.category = 1) (k : Ok g x Q (pc + 1) l (v :: u :: v :: r) w) : Ok g x Q pc l (v :: u :: r) w :=
  fun p e R s m args below meth c Qf hc hx H locs ls kc ks hH hS hk hn hl => lv_dup_x1 hc.1 hc.2.1 hd ((ptv_cat g v).trans hv) ((ptv_cat g u).trans hu) (k p e R s m args below meth c Qf hc hx H locs ls kc ks hH hS hk hn hl)
theorem ok_pop {v : Value} (hd : decode x.2.2.1 pc = .ok (.pop, 1)) (hv : v.category = 1) (k : Ok g x Q (pc + 1) l (r) w) : Ok g x Q pc l (v :: r) w :=
  fun p e R s m args below meth c Qf hc hx H locs ls kc ks hH hS hk hn hl => lv_pop hc.1 hc.2.1 hd ((ptv_cat g v).trans hv) (k p e R s m args below meth c Qf hc hx H locs ls kc ks hH hS hk hn hl)
theorem pl_at {ls : Array Slot} {nL : Nat} (h : lv_has ls nL (l.map (fun q => (q.1, ptv g q.2)))) (k : Nat) {i : Nat} {v : Value} (hk : l[k]? = some (i, v)) : ls[i]? = some (.val (ptv g v)) :=
  lv_at h k (by rw [List.getElem?_map, hk]; rfl)
theorem ok_iload {i : Nat} {v : Int32} (hd : decode x.2.2.1 pc = .ok (.iload i, 2)) (j : Nat) (hj : l[j]? = some (i, .int v)) (k : Ok g x Q (pc + 2) l (.int v :: r) w) : Ok g x Q pc l r w :=
  fun p e R s m args below meth c Qf hc hx H locs ls kc ks hH hS hk hn hl => lv_iload hc.1 hc.2.1 hd (pl_at hl j hj) (k p e R s m args below meth c Qf hc hx H locs ls kc ks hH hS hk hn hl)
theorem ok_iload_n {i : Fin 4} {v : Int32} (hd : decode x.2.2.1 pc = .ok (.iload_n i, 1)) (j : Nat) (hj : l[j]? = some ((i : Nat), .int v)) (k : Ok g x Q (pc + 1) l (.int v :: r) w) : Ok g x Q pc l r w :=
  fun p e R s m args below meth c Qf hc hx H locs ls kc ks hH hS hk hn hl => lv_iload_n hc.1 hc.2.1 hd rfl (pl_at hl j hj) (k p e R s m args below meth c Qf hc hx H locs ls kc ks hH hS hk hn hl)
theorem ok_lload {i : Nat} {v : Int64} (hd : decode x.2.2.1 pc = .ok (.lload i, 2)) (j : Nat) (hj : l[j]? = some (i, .long v)) (k : Ok g x Q (pc + 2) l (.long v :: r) w) : Ok g x Q pc l r w :=
  fun p e R s m args below meth c Qf hc hx H locs ls kc ks hH hS hk hn hl => lv_lload hc.1 hc.2.1 hd (pl_at hl j hj) (k p e R s m args below meth c Qf hc hx H locs ls kc ks hH hS hk hn hl)
theorem ok_lload_n {i : Fin 4} {v : Int64} (hd : decode x.2.2.1 pc = .ok (.lload_n i, 1)) (j : Nat) (hj : l[j]? = some ((i : Nat), .long v)) (k : Ok g x Q (pc + 1) l (.long v :: r) w) : Ok g x Q pc l r w :=
  fun p e R s m args below meth c Qf hc hx H locs ls kc ks hH hS hk hn hl => lv_lload_n hc.1 hc.2.1 hd rfl (pl_at hl j hj) (k p e R s m args below meth c Qf hc hx H locs ls kc ks hH hS hk hn hl)
theorem ok_aload {i : Nat} {v : Nat} (hd : decode x.2.2.1 pc = .ok (.aload i, 2)) (j : Nat) (hj : l[j]? = some (i, .ref v)) (k : Ok g x Q (pc + 2) l (.ref v :: r) w) : Ok g x Q pc l r w :=
  fun p e R s m args below meth c Qf hc hx H locs ls kc ks hH hS hk hn hl => lv_aload hc.1 hc.2.1 hd (pl_at hl j hj) (k p e R s m args below meth c Qf hc hx H locs ls kc ks hH hS hk hn hl)
theorem ok_aload_n {i : Fin 4} {v : Nat} (hd : decode x.2.2.1 pc = .ok (.aload_n i, 1)) (j : Nat) (hj : l[j]? = some ((i : Nat), .ref v)) (k : Ok g x Q (pc + 1) l (.ref v :: r) w) : Ok g x Q pc l r w :=
  fun p e R s m args below meth c Qf hc hx H locs ls kc ks hH hS hk hn hl => lv_aload_n hc.1 hc.2.1 hd rfl (pl_at hl j hj) (k p e R s m args below meth c Qf hc hx H locs ls kc ks hH hS hk hn hl)
theorem ok_aloadN {i : Nat} (hd : decode x.2.2.1 pc = .ok (.aload i, 2)) (j : Nat) (hj : l[j]? = some (i, .null)) (k : Ok g x Q (pc + 2) l (.null :: r) w) : Ok g x Q pc l r w :=
  fun p e R s m args below meth c Qf hc hx H locs ls kc ks hH hS hk hn hl => lv_aloadN hc.1 hc.2.1 hd (pl_at hl j hj) (k p e R s m args below meth c Qf hc hx H locs ls kc ks hH hS hk hn hl)
theorem ok_aload_nN {i : Fin 4} (hd : decode x.2.2.1 pc = .ok (.aload_n i, 1)) (j : Nat) (hj : l[j]? = some ((i : Nat), .null)) (k : Ok g x Q (pc + 1) l (.null :: r) w) : Ok g x Q pc l r w :=
  fun p e R s m args below meth c Qf hc hx H locs ls kc ks hH hS hk hn hl => lv_aload_nN hc.1 hc.2.1 hd rfl (pl_at hl j hj) (k p e R s m args below meth c Qf hc hx H locs ls kc ks hH hS hk hn hl)
theorem pl_f1 (g : pG) (i : Nat) (v : Value) : ∀ l : pL, (i, ptv g v) :: (l.map (fun q => (q.1, ptv g q.2))).filter (fun q => !(q.1 == i) && !(q.1 + 1 == i && q.2.category == 2)) = ((i, v) :: l.filter (fun q => !(q.1 == i) && !(q.1 + 1 == i && q.2.category == 2))).map (fun q => (q.1, ptv g q.2)) := by
  intro l
  induction l with
  | nil => rfl
  | cons a l ih =>
    have ih := List.tail_eq_of_cons_eq ih
    simp only [List.map_cons, List.filter_cons, ptv_cat] at ih ⊢
    split <;> simp_all
theorem pl_f2 (g : pG) (i : Nat) (v : Value) : ∀ l : pL, (i, ptv g v) :: (l.map (fun q => (q.1, ptv g q.2))).filter (fun q => !(q.1 == i) && (!(q.1 == i + 1) && !(q.1 + 1 == i && q.2.category == 2))) = ((i, v) :: l.filter (fun q => !(q.1 == i) && (!(q.1 == i + 1) && !(q.1 + 1 == i && q.2.category == 2)))).map (fun q => (q.1, ptv g q.2)) := by
  intro l
  induction l with
  | nil => rfl
  | cons a l ih =>
    have ih := List.tail_eq_of_cons_eq ih
    simp only [List.map_cons, List.filter_cons, ptv_cat] at ih ⊢
    split <;> simp_all
theorem ok_istore {i : Nat} {v : Int32} {l' : pL} (hd : decode x.2.2.1 pc = .ok (.istore i, 2)) (hb : i < x.2.2.2.1) (h' : (i, Value.int v) :: l.filter (fun q => !(q.1 == i) && !(q.1 + 1 == i && q.2.category == 2)) = l') (k : Ok g x Q (pc + 2) l' r w) : Ok g x Q pc l (.int v :: r) w :=
  fun p e R s m args below meth c Qf hc hx H locs ls kc ks hH hS hk hn hl => lv_istore hc.1 hc.2.1 hd hl hb (((pl_f1 g i (Value.int v) l).trans (congrArg _ h'))) (fun ls2 h2 => k p e R s m args below meth c Qf hc hx H locs ls2 kc ks hH hS hk hn h2)
theorem ok_istore_n {i : Nat} {f : Fin 4} {v : Int32} {l' : pL} (hd : decode x.2.2.1 pc = .ok (.istore_n f, 1)) (hi : (f : Nat) = i) (hb : i < x.2.2.2.1) (h' : (i, Value.int v) :: l.filter (fun q => !(q.1 == i) && !(q.1 + 1 == i && q.2.category == 2)) = l') (k : Ok g x Q (pc + 1) l' r w) : Ok g x Q pc l (.int v :: r) w :=
  fun p e R s m args below meth c Qf hc hx H locs ls kc ks hH hS hk hn hl => lv_istore_n hc.1 hc.2.1 hd hi hl hb (((pl_f1 g i (Value.int v) l).trans (congrArg _ h'))) (fun ls2 h2 => k p e R s m args below meth c Qf hc hx H locs ls2 kc ks hH hS hk hn h2)
theorem ok_lstore {i : Nat} {v : Int64} {l' : pL} (hd : decode x.2.2.1 pc = .ok (.lstore i, 2)) (hb : i + 1 < x.2.2.2.1) (h' : (i, Value.long v) :: l.filter (fun q => !(q.1 == i) && (!(q.1 == i + 1) && !(q.1 + 1 == i && q.2.category == 2))) = l') (k : Ok g x Q (pc + 2) l' r w) : Ok g x Q pc l (.long v :: r) w :=
  fun p e R s m args below meth c Qf hc hx H locs ls kc ks hH hS hk hn hl => lv_lstore hc.1 hc.2.1 hd hl hb (((pl_f2 g i (Value.long v) l).trans (congrArg _ h'))) (fun ls2 h2 => k p e R s m args below meth c Qf hc hx H locs ls2 kc ks hH hS hk hn h2)
theorem ok_lstore_n {i : Nat} {f : Fin 4} {v : Int64} {l' : pL} (hd : decode x.2.2.1 pc = .ok (.lstore_n f, 1)) (hi : (f : Nat) = i) (hb : i + 1 < x.2.2.2.1) (h' : (i, Value.long v) :: l.filter (fun q => !(q.1 == i) && (!(q.1 == i + 1) && !(q.1 + 1 == i && q.2.category == 2))) = l') (k : Ok g x Q (pc + 1) l' r w) : Ok g x Q pc l (.long v :: r) w :=
  fun p e R s m args below meth c Qf hc hx H locs ls kc ks hH hS hk hn hl => lv_lstore_n hc.1 hc.2.1 hd hi hl hb (((pl_f2 g i (Value.long v) l).trans (congrArg _ h'))) (fun ls2 h2 => k p e R s m args below meth c Qf hc hx H locs ls2 kc ks hH hS hk hn h2)
theorem ok_astore {i : Nat} {v : Nat} {l' : pL} (hd : decode x.2.2.1 pc = .ok (.astore i, 2)) (hb : i < x.2.2.2.1) (h' : (i, Value.ref v) :: l.filter (fun q => !(q.1 == i) && !(q.1 + 1 == i && q.2.category == 2)) = l') (k : Ok g x Q (pc + 2) l' r w) : Ok g x Q pc l (.ref v :: r) w :=
  fun p e R s m args below meth c Qf hc hx H locs ls kc ks hH hS hk hn hl => lv_astore hc.1 hc.2.1 hd hl hb (((pl_f1 g i (Value.ref v) l).trans (congrArg _ h'))) (fun ls2 h2 => k p e R s m args below meth c Qf hc hx H locs ls2 kc ks hH hS hk hn h2)
theorem ok_astore_n {i : Nat} {f : Fin 4} {v : Nat} {l' : pL} (hd : decode x.2.2.1 pc = .ok (.astore_n f, 1)) (hi : (f : Nat) = i) (hb : i < x.2.2.2.1) (h' : (i, Value.ref v) :: l.filter (fun q => !(q.1 == i) && !(q.1 + 1 == i && q.2.category == 2)) = l') (k : Ok g x Q (pc + 1) l' r w) : Ok g x Q pc l (.ref v :: r) w :=
  fun p e R s m args below meth c Qf hc hx H locs ls kc ks hH hS hk hn hl => lv_astore_n hc.1 hc.2.1 hd hi hl hb (((pl_f1 g i (Value.ref v) l).trans (congrArg _ h'))) (fun ls2 h2 => k p e R s m args below meth c Qf hc hx H locs ls2 kc ks hH hS hk hn h2)
theorem ok_astoreN {i : Nat} {l' : pL} (hd : decode x.2.2.1 pc = .ok (.astore i, 2)) (hb : i < x.2.2.2.1) (h' : (i, Value.null) :: l.filter (fun q => !(q.1 == i) && !(q.1 + 1 == i && q.2.category == 2)) = l') (k : Ok g x Q (pc + 2) l' r w) : Ok g x Q pc l (.null :: r) w :=
  fun p e R s m args below meth c Qf hc hx H locs ls kc ks hH hS hk hn hl => lv_astoreN hc.1 hc.2.1 hd hl hb (((pl_f1 g i Value.null l).trans (congrArg _ h'))) (fun ls2 h2 => k p e R s m args below meth c Qf hc hx H locs ls2 kc ks hH hS hk hn h2)
theorem ok_astore_nN {i : Nat} {f : Fin 4} {l' : pL} (hd : decode x.2.2.1 pc = .ok (.astore_n f, 1)) (hi : (f : Nat) = i) (hb : i < x.2.2.2.1) (h' : (i, Value.null) :: l.filter (fun q => !(q.1 == i) && !(q.1 + 1 == i && q.2.category == 2)) = l') (k : Ok g x Q (pc + 1) l' r w) : Ok g x Q pc l (.null :: r) w :=
  fun p e R s m args below meth c Qf hc hx H locs ls kc ks hH hS hk hn hl => lv_astore_nN hc.1 hc.2.1 hd hi hl hb (((pl_f1 g i Value.null l).trans (congrArg _ h'))) (fun ls2 h2 => k p e R s m args below meth c Qf hc hx H locs ls2 kc ks hH hS hk hn h2)
theorem ok_iinc {i : Nat} {n : Int} {v u : Int32} {l' : pL} (hd : decode x.2.2.1 pc = .ok (.iinc i n, 3)) (j : Nat) (hj : l[j]? = some (i, .int v)) (hu : v + Int32.ofInt n = u) (hb : i < x.2.2.2.1) (h' : (i, Value.int u) :: l.filter (fun q => !(q.1 == i) && !(q.1 + 1 == i && q.2.category == 2)) = l') (k : Ok g x Q (pc + 3) l' r w) : Ok g x Q pc l r w :=
  fun p e R s m args below meth c Qf hc hx H locs ls kc ks hH hS hk hn hl => lv_iinc hc.1 hc.2.1 hd hl (k := j) (by rw [List.getElem?_map, hj]; rfl) hu hb (((pl_f1 g i (Value.int u) l).trans (congrArg _ h'))) (fun ls2 h2 => k p e R s m args below meth c Qf hc hx H locs ls2 kc ks hH hS hk hn h2)
theorem ok_if_eq {a : Int32} {off : Int} {t : Nat} (hd : decode x.2.2.1 pc = .ok (.ifCond .eq off, 3)) (ht : (pc : Int) + off = (t : Int)) (kt : a = 0 → Ok g x Q t l r w) (kf : ¬ a = 0 → Ok g x Q (pc + 3) l r w) : Ok g x Q pc l (.int a :: r) w :=
  fun p e R s m args below meth c Qf hc hx H locs ls kc ks hH hS hk hn hl => lv_if_eq hc.1 hc.2.1 hd ht (fun h => kt h p e R s m args below meth c Qf hc hx H locs ls kc ks hH hS hk hn hl) (fun h => kf h p e R s m args below meth c Qf hc hx H locs ls kc ks hH hS hk hn hl)
theorem ok_icmp_eq {a b : Int32} {off : Int} {t : Nat} (hd : decode x.2.2.1 pc = .ok (.if_icmp .eq off, 3)) (ht : (pc : Int) + off = (t : Int)) (kt : a = b → Ok g x Q t l r w) (kf : ¬ a = b → Ok g x Q (pc + 3) l r w) : Ok g x Q pc l (.int b :: .int a :: r) w :=
  fun p e R s m args below meth c Qf hc hx H locs ls kc ks hH hS hk hn hl => lv_icmp_eq hc.1 hc.2.1 hd ht (fun h => kt h p e R s m args below meth c Qf hc hx H locs ls kc ks hH hS hk hn hl) (fun h => kf h p e R s m args below meth c Qf hc hx H locs ls kc ks hH hS hk hn hl)
theorem ok_if_ne {a : Int32} {off : Int} {t : Nat} (hd : decode x.2.2.1 pc = .ok (.ifCond .ne off, 3)) (ht : (pc : Int) + off = (t : Int)) (kt : ¬ a = 0 → Ok g x Q t l r w) (kf : a = 0 → Ok g x Q (pc + 3) l r w) : Ok g x Q pc l (.int a :: r) w :=
  fun p e R s m args below meth c Qf hc hx H locs ls kc ks hH hS hk hn hl => lv_if_ne hc.1 hc.2.1 hd ht (fun h => kt h p e R s m args below meth c Qf hc hx H locs ls kc ks hH hS hk hn hl) (fun h => kf h p e R s m args below meth c Qf hc hx H locs ls kc ks hH hS hk hn hl)
theorem ok_icmp_ne {a b : Int32} {off : Int} {t : Nat} (hd : decode x.2.2.1 pc = .ok (.if_icmp .ne off, 3)) (ht : (pc : Int) + off = (t : Int)) (kt : ¬ a = b → Ok g x Q t l r w) (kf : a = b → Ok g x Q (pc + 3) l r w) : Ok g x Q pc l (.int b :: .int a :: r) w :=
  fun p e R s m args below meth c Qf hc hx H locs ls kc ks hH hS hk hn hl => lv_icmp_ne hc.1 hc.2.1 hd ht (fun h => kt h p e R s m args below meth c Qf hc hx H locs ls kc ks hH hS hk hn hl) (fun h => kf h p e R s m args below meth c Qf hc hx H locs ls kc ks hH hS hk hn hl)
theorem ok_if_lt {a : Int32} {off : Int} {t : Nat} (hd : decode x.2.2.1 pc = .ok (.ifCond .lt off, 3)) (ht : (pc : Int) + off = (t : Int)) (kt : a < 0 → Ok g x Q t l r w) (kf : ¬ a < 0 → Ok g x Q (pc + 3) l r w) : Ok g x Q pc l (.int a :: r) w :=
  fun p e R s m args below meth c Qf hc hx H locs ls kc ks hH hS hk hn hl => lv_if_lt hc.1 hc.2.1 hd ht (fun h => kt h p e R s m args below meth c Qf hc hx H locs ls kc ks hH hS hk hn hl) (fun h => kf h p e R s m args below meth c Qf hc hx H locs ls kc ks hH hS hk hn hl)
theorem ok_icmp_lt {a b : Int32} {off : Int} {t : Nat} (hd : decode x.2.2.1 pc = .ok (.if_icmp .lt off, 3)) (ht : (pc : Int) + off = (t : Int)) (kt : a < b → Ok g x Q t l r w) (kf : ¬ a < b → Ok g x Q (pc + 3) l r w) : Ok g x Q pc l (.int b :: .int a :: r) w :=
  fun p e R s m args below meth c Qf hc hx H locs ls kc ks hH hS hk hn hl => lv_icmp_lt hc.1 hc.2.1 hd ht (fun h => kt h p e R s m args below meth c Qf hc hx H locs ls kc ks hH hS hk hn hl) (fun h => kf h p e R s m args below meth c Qf hc hx H locs ls kc ks hH hS hk hn hl)
theorem ok_if_ge {a : Int32} {off : Int} {t : Nat} (hd : decode x.2.2.1 pc = .ok (.ifCond .ge off, 3)) (ht : (pc : Int) + off = (t : Int)) (kt : 0 ≤ a → Ok g x Q t l r w) (kf : ¬ 0 ≤ a → Ok g x Q (pc + 3) l r w) : Ok g x Q pc l (.int a :: r) w :=
  fun p e R s m args below meth c Qf hc hx H locs ls kc ks hH hS hk hn hl => lv_if_ge hc.1 hc.2.1 hd ht (fun h => kt h p e R s m args below meth c Qf hc hx H locs ls kc ks hH hS hk hn hl) (fun h => kf h p e R s m args below meth c Qf hc hx H locs ls kc ks hH hS hk hn hl)
theorem ok_icmp_ge {a b : Int32} {off : Int} {t : Nat} (hd : decode x.2.2.1 pc = .ok (.if_icmp .ge off, 3)) (ht : (pc : Int) + off = (t : Int)) (kt : b ≤ a → Ok g x Q t l r w) (kf : ¬ b ≤ a → Ok g x Q (pc + 3) l r w) : Ok g x Q pc l (.int b :: .int a :: r) w :=
  fun p e R s m args below meth c Qf hc hx H locs ls kc ks hH hS hk hn hl => lv_icmp_ge hc.1 hc.2.1 hd ht (fun h => kt h p e R s m args below meth c Qf hc hx H locs ls kc ks hH hS hk hn hl) (fun h => kf h p e R s m args below meth c Qf hc hx H locs ls kc ks hH hS hk hn hl)
theorem ok_if_gt {a : Int32} {off : Int} {t : Nat} (hd : decode x.2.2.1 pc = .ok (.ifCond .gt off, 3)) (ht : (pc : Int) + off = (t : Int)) (kt : 0 < a → Ok g x Q t l r w) (kf : ¬ 0 < a → Ok g x Q (pc + 3) l r w) : Ok g x Q pc l (.int a :: r) w :=
  fun p e R s m args below meth c Qf hc hx H locs ls kc ks hH hS hk hn hl => lv_if_gt hc.1 hc.2.1 hd ht (fun h => kt h p e R s m args below meth c Qf hc hx H locs ls kc ks hH hS hk hn hl) (fun h => kf h p e R s m args below meth c Qf hc hx H locs ls kc ks hH hS hk hn hl)
theorem ok_icmp_gt {a b : Int32} {off : Int} {t : Nat} (hd : decode x.2.2.1 pc = .ok (.if_icmp .gt off, 3)) (ht : (pc : Int) + off = (t : Int)) (kt : b < a → Ok g x Q t l r w) (kf : ¬ b < a → Ok g x Q (pc + 3) l r w) : Ok g x Q pc l (.int b :: .int a :: r) w :=
  fun p e R s m args below meth c Qf hc hx H locs ls kc ks hH hS hk hn hl => lv_icmp_gt hc.1 hc.2.1 hd ht (fun h => kt h p e R s m args below meth c Qf hc hx H locs ls kc ks hH hS hk hn hl) (fun h => kf h p e R s m args below meth c Qf hc hx H locs ls kc ks hH hS hk hn hl)
theorem ok_if_le {a : Int32} {off : Int} {t : Nat} (hd : decode x.2.2.1 pc = .ok (.ifCond .le off, 3)) (ht : (pc : Int) + off = (t : Int)) (kt : a ≤ 0 → Ok g x Q t l r w) (kf : ¬ a ≤ 0 → Ok g x Q (pc + 3) l r w) : Ok g x Q pc l (.int a :: r) w :=
  fun p e R s m args below meth c Qf hc hx H locs ls kc ks hH hS hk hn hl => lv_if_le hc.1 hc.2.1 hd ht (fun h => kt h p e R s m args below meth c Qf hc hx H locs ls kc ks hH hS hk hn hl) (fun h => kf h p e R s m args below meth c Qf hc hx H locs ls kc ks hH hS hk hn hl)
theorem ok_icmp_le {a b : Int32} {off : Int} {t : Nat} (hd : decode x.2.2.1 pc = .ok (.if_icmp .le off, 3)) (ht : (pc : Int) + off = (t : Int)) (kt : a ≤ b → Ok g x Q t l r w) (kf : ¬ a ≤ b → Ok g x Q (pc + 3) l r w) : Ok g x Q pc l (.int b :: .int a :: r) w :=
  fun p e R s m args below meth c Qf hc hx H locs ls kc ks hH hS hk hn hl => lv_icmp_le hc.1 hc.2.1 hd ht (fun h => kt h p e R s m args below meth c Qf hc hx H locs ls kc ks hH hS hk hn hl) (fun h => kf h p e R s m args below meth c Qf hc hx H locs ls kc ks hH hS hk hn hl)
theorem ok_goto {off : Int} {t : Nat} (hd : decode x.2.2.1 pc = .ok (.goto off, 3)) (ht : (pc : Int) + off = (t : Int)) (k : Ok g x Q t l r w) : Ok g x Q pc l r w :=
  fun p e R s m args below meth c Qf hc hx H locs ls kc ks hH hS hk hn hl => lv_goto hc.1 hc.2.1 hd ht (k p e R s m args below meth c Qf hc hx H locs ls kc ks hH hS hk hn hl)
theorem ok_ifnull {a : Nat} {off : Int} (hd : decode x.2.2.1 pc = .ok (.ifnull off, 3)) (k : Ok g x Q (pc + 3) l r w) : Ok g x Q pc l (.ref a :: r) w :=
  fun p e R s m args below meth c Qf hc hx H locs ls kc ks hH hS hk hn hl => lv_ifnull hc.1 hc.2.1 hd (k p e R s m args below meth c Qf hc hx H locs ls kc ks hH hS hk hn hl)
theorem ok_ifnullN {off : Int} {t : Nat} (hd : decode x.2.2.1 pc = .ok (.ifnull off, 3)) (ht : (pc : Int) + off = (t : Int)) (k : Ok g x Q t l r w) : Ok g x Q pc l (.null :: r) w :=
  fun p e R s m args below meth c Qf hc hx H locs ls kc ks hH hS hk hn hl => lv_ifnullN hc.1 hc.2.1 hd ht (k p e R s m args below meth c Qf hc hx H locs ls kc ks hH hS hk hn hl)
theorem ok_ifnonnull {a : Nat} {off : Int} {t : Nat} (hd : decode x.2.2.1 pc = .ok (.ifnonnull off, 3)) (ht : (pc : Int) + off = (t : Int)) (k : Ok g x Q t l r w) : Ok g x Q pc l (.ref a :: r) w :=
  fun p e R s m args below meth c Qf hc hx H locs ls kc ks hH hS hk hn hl => lv_ifnonnull hc.1 hc.2.1 hd ht (k p e R s m args below meth c Qf hc hx H locs ls kc ks hH hS hk hn hl)
theorem ok_ifnonnullN {off : Int} (hd : decode x.2.2.1 pc = .ok (.ifnonnull off, 3)) (k : Ok g x Q (pc + 3) l r w) : Ok g x Q pc l (.null :: r) w :=
  fun p e R s m args below meth c Qf hc hx H locs ls kc ks hH hS hk hn hl => lv_ifnonnullN hc.1 hc.2.1 hd (k p e R s m args below meth c Qf hc hx H locs ls kc ks hH hS hk hn hl)
theorem ok_tabOut {d lo hi : Int} {os : Array Int} {n t : Nat} {a : Int32} (hd : decode x.2.2.1 pc = .ok (.tableswitch d lo hi os, n)) (h : a.toInt < lo ∨ hi < a.toInt) (ht : (pc : Int) + d = (t : Int)) (k : Ok g x Q t l r w) : Ok g x Q pc l (.int a :: r) w :=
  fun p e R s m args below meth c Qf hc hx H locs ls kc ks hH hS hk hn hl => lv_tableOut hc.1 hc.2.1 hd h ht (k p e R s m args below meth c Qf hc hx H locs ls kc ks hH hS hk hn hl)
theorem ok_tabIn {d lo hi off : Int} {os : Array Int} {n t : Nat} {a : Int32} (hd : decode x.2.2.1 pc = .ok (.tableswitch d lo hi os, n)) (h1 : ¬ a.toInt < lo) (h2 : ¬ hi < a.toInt) (ho : os[(a.toInt - lo).toNat]? = some off) (ht : (pc : Int) + off = (t : Int)) (k : Ok g x Q t l r w) : Ok g x Q pc l (.int a :: r) w :=
  fun p e R s m args below meth c Qf hc hx H locs ls kc ks hH hS hk hn hl => lv_tableIn hc.1 hc.2.1 hd h1 h2 ho ht (k p e R s m args below meth c Qf hc hx H locs ls kc ks hH hS hk hn hl)
theorem ok_look {d off : Int} {ps : Array (Int × Int)} {n t : Nat} {a : Int32} (hd : decode x.2.2.1 pc = .ok (.lookupswitch d ps, n)) (hp : (ps.toList.zip (ps.toList.drop 1)).all (fun (a, next) => a.1 < next.1) = true) (ho : Op.lookupswitch.offset ps.toList d a.toInt = off) (ht : (pc : Int) + off = (t : Int)) (k : Ok g x Q t l r w) : Ok g x Q pc l (.int a :: r) w :=
  fun p e R s m args below meth c Qf hc hx H locs ls kc ks hH hS hk hn hl => lv_lookup hc.1 hc.2.1 hd hp ho ht (k p e R s m args below meth c Qf hc hx H locs ls kc ks hH hS hk hn hl)
theorem ok_ldc {i : Nat} {v : Int32} (hd : decode x.2.2.1 pc = .ok (.ldc i, 2)) (h : Cond.constant x.2.1 i v ∈ lw_tbl) (k : Ok g x Q (pc + 2) l (.int v :: r) w) : Ok g x Q pc l r w :=
  fun p e R s m args below meth c Qf hc hx H locs ls kc ks hH hS hk hn hl => lv_ldc hc.1 hc.2.1 hc.2.2.2.1 (hc.2.2.2.2.1 _ (in_gtb h rfl)) hd (k p e R s m args below meth c Qf hc hx H locs ls kc ks hH hS hk hn hl)
theorem ok_ldcw {i : Nat} {v : Int32} (hd : decode x.2.2.1 pc = .ok (.ldc_w i, 3)) (h : Cond.constant x.2.1 i v ∈ lw_tbl) (k : Ok g x Q (pc + 3) l (.int v :: r) w) : Ok g x Q pc l r w :=
  fun p e R s m args below meth c Qf hc hx H locs ls kc ks hH hS hk hn hl => lv_ldcw hc.1 hc.2.1 hc.2.2.2.1 (hc.2.2.2.2.1 _ (in_gtb h rfl)) hd (k p e R s m args below meth c Qf hc hx H locs ls kc ks hH hS hk hn hl)
theorem ok_ldc2 {i : Nat} {v : Int64} (hd : decode x.2.2.1 pc = .ok (.ldc2_w i, 3)) (h : Cond.constantLong x.2.1 i v ∈ lw_tbl) (k : Ok g x Q (pc + 3) l (.long v :: r) w) : Ok g x Q pc l r w :=
  fun p e R s m args below meth c Qf hc hx H locs ls kc ks hH hS hk hn hl => lv_ldc2 hc.1 hc.2.1 hc.2.2.2.1 (hc.2.2.2.2.1 _ (in_gtb h rfl)) hd (k p e R s m args below meth c Qf hc hx H locs ls kc ks hH hS hk hn hl)
theorem ok_iret {v : Int32} (hd : decode x.2.2.1 pc = .ok (.ireturn, 1)) (k : Q (some (.int v)) w) : Ok g x Q pc l [.int v] w :=
  fun p e R s m args below meth c Qf hc hx H locs ls kc ks hH hS hk hn hl => hx H locs ls pc kc ks (some (.int v)) w hH hS hk hn k hd
theorem ok_lret {v : Int64} (hd : decode x.2.2.1 pc = .ok (.lreturn, 1)) (k : Q (some (.long v)) w) : Ok g x Q pc l [.long v] w :=
  fun p e R s m args below meth c Qf hc hx H locs ls kc ks hH hS hk hn hl => hx H locs ls pc kc ks (some (.long v)) w hH hS hk hn k hd
theorem ok_aret {v : Nat} (hd : decode x.2.2.1 pc = .ok (.areturn, 1)) (k : Q (some (.ref v)) w) : Ok g x Q pc l [.ref v] w :=
  fun p e R s m args below meth c Qf hc hx H locs ls kc ks hH hS hk hn hl => hx H locs ls pc kc ks (some (.ref v)) w hH hS hk hn k hd
theorem ok_aretN (hd : decode x.2.2.1 pc = .ok (.areturn, 1)) (k : Q (some .null) w) : Ok g x Q pc l [.null] w :=
  fun p e R s m args below meth c Qf hc hx H locs ls kc ks hH hS hk hn hl => hx H locs ls pc kc ks (some .null) w hH hS hk hn k hd
theorem ok_vret (hd : decode x.2.2.1 pc = .ok (.return_, 1)) (k : Q none w) : Ok g x Q pc l [] w :=
  fun p e R s m args below meth c Qf hc hx H locs ls kc ks hH hS hk hn hl => hx H locs ls pc kc ks none w hH hS hk hn k hd
end OkRules
