/-! THE WALK OVER THE PURE STATE. Cx: machine, method, tables, script, goal; GG: from this point the goal is reached, whatever the addresses are. -/
abbrev Cx : Type := (Program × Launch × Env × Room) × (State × MethodId × Array Value × List Frame) × (Method × Code) × (va_G × (Nat → ClassId) × (Nat → Prop) × (Nat → Nat) × Nat) × (Nat × Nat × (Nat → Int32)) × (State → Prop)
abbrev xR (x : Cx) : Room := x.1.2.2.2
abbrev xs (x : Cx) : State := x.2.1.1
abbrev xm (x : Cx) : MethodId := x.2.1.2.1
abbrev xa (x : Cx) : Array Value := x.2.1.2.2.1
abbrev xc (x : Cx) : Code := x.2.2.1.2
abbrev xD (x : Cx) : va_G := x.2.2.2.1.1
abbrev xy (x : Cx) : Nat → ClassId := x.2.2.2.1.2.1
abbrev xA (x : Cx) : Nat → Prop := x.2.2.2.1.2.2.1
abbrev xal (x : Cx) : Nat → Nat := x.2.2.2.1.2.2.2.1
abbrev xN (x : Cx) : Nat := x.2.2.2.1.2.2.2.2
abbrev xb (x : Cx) : Nat := x.2.2.2.2.1.1
abbrev xL (x : Cx) : Nat := x.2.2.2.2.1.2.1
abbrev xS (x : Cx) : Nat → Int32 := x.2.2.2.2.1.2.2
abbrev xQ (x : Cx) : State → Prop := x.2.2.2.2.2
abbrev WW (x : Cx) (H : Heap) (locs : List Loc) (cs sl : Nat) (g : JFrame) : Prop := W x.1.1 x.1.2.1 x.1.2.2.1 (xR x) (xs x) (xm x) (xa x) x.2.1.2.2.2 x.2.2.1.1 (xc x) H locs cs sl (xQ x) g
def RW (x : Cx) (N : Nat) (α : Nat → Nat) (S : pv_M) (H : Heap) (locs : List Loc) : Prop := va_P (xD x) pv_cl (pv_wd (xy x) α N S) H ∧ va_D (xA x) (pv_wd (xy x) α N S) ∧ va_S (xA x) (xs x).heap H locs ∧ pv_ok N S ∧ ∀ i, i < xN x → α i = xal x i
def LR (x : Cx) (α : Nat → Nat) (lv : List Value) (ls : Array Slot) : Prop := ls.size = (xc x).maxLocals ∧ lv_wf ls ∧ ∀ (i : Nat) (v : Value), lv[i]? = some v → v ≠ unk → ls[i]? = some (Slot.val (tv (xb x) α v))
def GG (x : Cx) (N cs sl : Nat) (lv st : List Value) (S : pv_M) (pc : Nat) : Prop := ∀ (α : Nat → Nat) (H : Heap) (locs : List Loc) (ls : Array Slot), RW x N α S H locs → LR x α lv ls → WW x H locs cs sl (F0 (xm x) pc ls (st.map (tv (xb x) α)))
/-- the texts of the exceptions, by their places in the table of LanguageAtoms -/
def pv_strs : List (Nat × String) := [(237, "the languages are equal"), (257, "no such row"), (263, "the row is missing"), (271, "the divisor is 0"), (281, "nothing was saved"), (285, "no such number"), (288, "the number of states is out of range"), (290, "no such operation"), (292, "the length is out of range"), (294, "the set contains an atom that does not exist"), (296, "the word would have more than 12 letters"), (298, "the result has more than 6 quotients")]
/-- words that aren't good ones, and are carried by hand -/
def nbw : Cond → Bool
  | .fieldLinkNest .. => true
  | .methodLinkNest .. => true
  | .declares _ => true
  | .castable .. => true
  | _ => false
def NB : List Cond := lw_tbl.filter nbw
theorem nb_in {w : Cond} (i : Nat) (h : lw_tbl[i]? = some w) (hg : nbw w = true) : w ∈ NB := List.mem_filter.mpr ⟨List.mem_of_getElem? h, hg⟩
theorem nb_on {w : Cond} (h : w ∈ NB) : w.onTables = true := by
  have h1 := (List.mem_filter.mp h).2
  cases w <;> first | rfl | exact (Bool.false_ne_true h1).elim
theorem nb_warm {w : Cond} (h : w ∈ NB) {s U : State} (hW : s.WarmedH U.vm) (hz : va_Nw w s) : va_Nw w U := by
  have h1 := (List.mem_filter.mp h).2
  cases w <;> first | exact (Bool.false_ne_true h1).elim | exact va_Nw.warmF hW hz | exact va_Nw.warmM hW hz | exact va_Nw.warmD hW hz | exact va_Nw.warmC hW hz
/-- what a throw, and a nest mate, need of the machine -/
def BU (A : Nat → Prop) (U : State) (H : Heap) : Prop := vx_Zq Bundle.tN "UNASSIGNED_STACK" Bundle.steD A U H ∧ vx_Zq Bundle.tN "SUPPRESSED_SENTINEL" Bundle.listD A U H ∧ (∀ q ∈ pv_strs, ∃ a, vk_R RX11 q.1 q.2 a U) ∧ (∀ w ∈ NB, va_Nw w U) ∧ va_AO RX1 U ∧ va_AO RX7 U
def BX (x : Cx) (cc : ByteArray) (own : String) : Prop := x.1.1.tables.exec = Jvm.exec ∧ (xc x).code = cc ∧ (xs x).vm.findClass own = some (xm x).cls ∧ (∀ w ∈ TB, w.before (xa x) (xs x) = true) ∧ va_K (xD x) pv_cl (pv_tys (xy x)) (xs x) ∧ (∀ q, (xs x).heap.size ≤ q → xA x q) ∧ BU (xA x) (xs x) (xs x).heap
/-- a store into the locals: a long or double that it cuts in two is unknown from now on -/
def sv (lv : List Value) (i : Nat) (v : Value) : List Value := ((lv.zipIdx).map fun q => if q.2 + 1 = i ∧ q.1.category = 2 then unk else q.1).set i v
def sv2 (lv : List Value) (i : Nat) (v : Value) : List Value := (sv lv i v).set (i + 1) unk
theorem tv_cat (b : Nat) (α : Nat → Nat) (v : Value) : (tv b α v).category = v.category := by
  cases v with
  | retAddr k => by_cases h : k = 1 <;> simp [tv, h, Value.category]
  | _ => rfl

theorem g_iadd {x : Cx} {cc : ByteArray} {own : String} {N cs sl : Nat} {lv st : List Value} {S : pv_M} {pc : Nat} (C : BX x cc own) {a b : Int32} (d : decode cc pc = .ok (.iadd, 1))  (k : GG x N cs sl lv (.int (a + b) :: st) S (pc + 1)) : GG x N cs sl lv (.int b :: .int a :: st) S pc :=
  fun α H locs ls h1 h2 => lv_iadd C.1 C.2.1 d (k α H locs ls h1 h2)
theorem g_isub {x : Cx} {cc : ByteArray} {own : String} {N cs sl : Nat} {lv st : List Value} {S : pv_M} {pc : Nat} (C : BX x cc own) {a b : Int32} (d : decode cc pc = .ok (.isub, 1))  (k : GG x N cs sl lv (.int (a - b) :: st) S (pc + 1)) : GG x N cs sl lv (.int b :: .int a :: st) S pc :=
  fun α H locs ls h1 h2 => lv_isub C.1 C.2.1 d (k α H locs ls h1 h2)
theorem g_imul {x : Cx} {cc : ByteArray} {own : String} {N cs sl : Nat} {lv st : List Value} {S : pv_M} {pc : Nat} (C : BX x cc own) {a b : Int32} (d : decode cc pc = .ok (.imul, 1))  (k : GG x N cs sl lv (.int (a * b) :: st) S (pc + 1)) : GG x N cs sl lv (.int b :: .int a :: st) S pc :=
  fun α H locs ls h1 h2 => lv_imul C.1 C.2.1 d (k α H locs ls h1 h2)
theorem g_iand {x : Cx} {cc : ByteArray} {own : String} {N cs sl : Nat} {lv st : List Value} {S : pv_M} {pc : Nat} (C : BX x cc own) {a b : Int32} (d : decode cc pc = .ok (.iand, 1))  (k : GG x N cs sl lv (.int (a &&& b) :: st) S (pc + 1)) : GG x N cs sl lv (.int b :: .int a :: st) S pc :=
  fun α H locs ls h1 h2 => lv_iand C.1 C.2.1 d (k α H locs ls h1 h2)
theorem g_ior {x : Cx} {cc : ByteArray} {own : String} {N cs sl : Nat} {lv st : List Value} {S : pv_M} {pc : Nat} (C : BX x cc own) {a b : Int32} (d : decode cc pc = .ok (.ior, 1))  (k : GG x N cs sl lv (.int (a ||| b) :: st) S (pc + 1)) : GG x N cs sl lv (.int b :: .int a :: st) S pc :=
  fun α H locs ls h1 h2 => lv_ior C.1 C.2.1 d (k α H locs ls h1 h2)
theorem g_ixor {x : Cx} {cc : ByteArray} {own : String} {N cs sl : Nat} {lv st : List Value} {S : pv_M} {pc : Nat} (C : BX x cc own) {a b : Int32} (d : decode cc pc = .ok (.ixor, 1))  (k : GG x N cs sl lv (.int (a ^^^ b) :: st) S (pc + 1)) : GG x N cs sl lv (.int b :: .int a :: st) S pc :=
  fun α H locs ls h1 h2 => lv_ixor C.1 C.2.1 d (k α H locs ls h1 h2)
theorem g_ishl {x : Cx} {cc : ByteArray} {own : String} {N cs sl : Nat} {lv st : List Value} {S : pv_M} {pc : Nat} (C : BX x cc own) {a b : Int32} (d : decode cc pc = .ok (.ishl, 1))  (k : GG x N cs sl lv (.int (a <<< (b &&& 31)) :: st) S (pc + 1)) : GG x N cs sl lv (.int b :: .int a :: st) S pc :=
  fun α H locs ls h1 h2 => lv_ishl C.1 C.2.1 d (k α H locs ls h1 h2)
theorem g_ishr {x : Cx} {cc : ByteArray} {own : String} {N cs sl : Nat} {lv st : List Value} {S : pv_M} {pc : Nat} (C : BX x cc own) {a b : Int32} (d : decode cc pc = .ok (.ishr, 1))  (k : GG x N cs sl lv (.int (a >>> (b &&& 31)) :: st) S (pc + 1)) : GG x N cs sl lv (.int b :: .int a :: st) S pc :=
  fun α H locs ls h1 h2 => lv_ishr C.1 C.2.1 d (k α H locs ls h1 h2)
theorem g_iushr {x : Cx} {cc : ByteArray} {own : String} {N cs sl : Nat} {lv st : List Value} {S : pv_M} {pc : Nat} (C : BX x cc own) {a b : Int32} (d : decode cc pc = .ok (.iushr, 1))  (k : GG x N cs sl lv (.int ((a.toUInt32 >>> (b.toUInt32 &&& Int32.toUInt32 31)).toInt32) :: st) S (pc + 1)) : GG x N cs sl lv (.int b :: .int a :: st) S pc :=
  fun α H locs ls h1 h2 => lv_iushr C.1 C.2.1 d rfl (k α H locs ls h1 h2)
theorem g_idiv {x : Cx} {cc : ByteArray} {own : String} {N cs sl : Nat} {lv st : List Value} {S : pv_M} {pc : Nat} (C : BX x cc own) {a b : Int32} (d : decode cc pc = .ok (.idiv, 1)) (hne : ¬ b = 0) (k : GG x N cs sl lv (.int (a / b) :: st) S (pc + 1)) : GG x N cs sl lv (.int b :: .int a :: st) S pc :=
  fun α H locs ls h1 h2 => lv_idiv C.1 C.2.1 d hne (k α H locs ls h1 h2)
theorem g_irem {x : Cx} {cc : ByteArray} {own : String} {N cs sl : Nat} {lv st : List Value} {S : pv_M} {pc : Nat} (C : BX x cc own) {a b : Int32} (d : decode cc pc = .ok (.irem, 1)) (hne : ¬ b = 0) (k : GG x N cs sl lv (.int (a - a / b * b) :: st) S (pc + 1)) : GG x N cs sl lv (.int b :: .int a :: st) S pc :=
  fun α H locs ls h1 h2 => lv_irem C.1 C.2.1 d hne (k α H locs ls h1 h2)
theorem g_ineg {x : Cx} {cc : ByteArray} {own : String} {N cs sl : Nat} {lv st : List Value} {S : pv_M} {pc : Nat} (C : BX x cc own) {a : Int32} (d : decode cc pc = .ok (.ineg, 1))  (k : GG x N cs sl lv (.int (-a) :: st) S (pc + 1)) : GG x N cs sl lv (.int a :: st) S pc :=
  fun α H locs ls h1 h2 => lv_ineg C.1 C.2.1 d (k α H locs ls h1 h2)
theorem g_ladd {x : Cx} {cc : ByteArray} {own : String} {N cs sl : Nat} {lv st : List Value} {S : pv_M} {pc : Nat} (C : BX x cc own) {a b : Int64} (d : decode cc pc = .ok (.ladd, 1))  (k : GG x N cs sl lv (.long (a + b) :: st) S (pc + 1)) : GG x N cs sl lv (.long b :: .long a :: st) S pc :=
  fun α H locs ls h1 h2 => lv_ladd C.1 C.2.1 d (k α H locs ls h1 h2)
theorem g_lsub {x : Cx} {cc : ByteArray} {own : String} {N cs sl : Nat} {lv st : List Value} {S : pv_M} {pc : Nat} (C : BX x cc own) {a b : Int64} (d : decode cc pc = .ok (.lsub, 1))  (k : GG x N cs sl lv (.long (a - b) :: st) S (pc + 1)) : GG x N cs sl lv (.long b :: .long a :: st) S pc :=
  fun α H locs ls h1 h2 => lv_lsub C.1 C.2.1 d (k α H locs ls h1 h2)
theorem g_lmul {x : Cx} {cc : ByteArray} {own : String} {N cs sl : Nat} {lv st : List Value} {S : pv_M} {pc : Nat} (C : BX x cc own) {a b : Int64} (d : decode cc pc = .ok (.lmul, 1))  (k : GG x N cs sl lv (.long (a * b) :: st) S (pc + 1)) : GG x N cs sl lv (.long b :: .long a :: st) S pc :=
  fun α H locs ls h1 h2 => lv_lmul C.1 C.2.1 d (k α H locs ls h1 h2)
theorem g_land {x : Cx} {cc : ByteArray} {own : String} {N cs sl : Nat} {lv st : List Value} {S : pv_M} {pc : Nat} (C : BX x cc own) {a b : Int64} (d : decode cc pc = .ok (.land, 1))  (k : GG x N cs sl lv (.long (a &&& b) :: st) S (pc + 1)) : GG x N cs sl lv (.long b :: .long a :: st) S pc :=
  fun α H locs ls h1 h2 => lv_land C.1 C.2.1 d (k α H locs ls h1 h2)
theorem g_lor {x : Cx} {cc : ByteArray} {own : String} {N cs sl : Nat} {lv st : List Value} {S : pv_M} {pc : Nat} (C : BX x cc own) {a b : Int64} (d : decode cc pc = .ok (.lor, 1))  (k : GG x N cs sl lv (.long (a ||| b) :: st) S (pc + 1)) : GG x N cs sl lv (.long b :: .long a :: st) S pc :=
  fun α H locs ls h1 h2 => lv_lor C.1 C.2.1 d (k α H locs ls h1 h2)
theorem g_lxor {x : Cx} {cc : ByteArray} {own : String} {N cs sl : Nat} {lv st : List Value} {S : pv_M} {pc : Nat} (C : BX x cc own) {a b : Int64} (d : decode cc pc = .ok (.lxor, 1))  (k : GG x N cs sl lv (.long (a ^^^ b) :: st) S (pc + 1)) : GG x N cs sl lv (.long b :: .long a :: st) S pc :=
  fun α H locs ls h1 h2 => lv_lxor C.1 C.2.1 d (k α H locs ls h1 h2)
theorem g_lshl {x : Cx} {cc : ByteArray} {own : String} {N cs sl : Nat} {lv st : List Value} {S : pv_M} {pc : Nat} (C : BX x cc own) {a : Int64} {b : Int32} (d : decode cc pc = .ok (.lshl, 1))  (k : GG x N cs sl lv (.long (a <<< (b.toInt64 &&& 63)) :: st) S (pc + 1)) : GG x N cs sl lv (.int b :: .long a :: st) S pc :=
  fun α H locs ls h1 h2 => lv_lshl C.1 C.2.1 d rfl (k α H locs ls h1 h2)
theorem g_lshr {x : Cx} {cc : ByteArray} {own : String} {N cs sl : Nat} {lv st : List Value} {S : pv_M} {pc : Nat} (C : BX x cc own) {a : Int64} {b : Int32} (d : decode cc pc = .ok (.lshr, 1))  (k : GG x N cs sl lv (.long (a >>> (b.toInt64 &&& 63)) :: st) S (pc + 1)) : GG x N cs sl lv (.int b :: .long a :: st) S pc :=
  fun α H locs ls h1 h2 => lv_lshr C.1 C.2.1 d rfl (k α H locs ls h1 h2)
theorem g_lushr {x : Cx} {cc : ByteArray} {own : String} {N cs sl : Nat} {lv st : List Value} {S : pv_M} {pc : Nat} (C : BX x cc own) {a : Int64} {b : Int32} (d : decode cc pc = .ok (.lushr, 1))  (k : GG x N cs sl lv (.long ((a.toUInt64 >>> (b.toInt64.toUInt64 &&& Int64.toUInt64 63)).toInt64) :: st) S (pc + 1)) : GG x N cs sl lv (.int b :: .long a :: st) S pc :=
  fun α H locs ls h1 h2 => lv_lushr C.1 C.2.1 d rfl (k α H locs ls h1 h2)
theorem g_i2l {x : Cx} {cc : ByteArray} {own : String} {N cs sl : Nat} {lv st : List Value} {S : pv_M} {pc : Nat} (C : BX x cc own) {a : Int32} (d : decode cc pc = .ok (.i2l, 1))  (k : GG x N cs sl lv (.long a.toInt64 :: st) S (pc + 1)) : GG x N cs sl lv (.int a :: st) S pc :=
  fun α H locs ls h1 h2 => lv_i2l C.1 C.2.1 d rfl (k α H locs ls h1 h2)
theorem g_l2i {x : Cx} {cc : ByteArray} {own : String} {N cs sl : Nat} {lv st : List Value} {S : pv_M} {pc : Nat} (C : BX x cc own) {a : Int64} (d : decode cc pc = .ok (.l2i, 1))  (k : GG x N cs sl lv (.int a.toInt32 :: st) S (pc + 1)) : GG x N cs sl lv (.long a :: st) S pc :=
  fun α H locs ls h1 h2 => lv_l2i C.1 C.2.1 d rfl (k α H locs ls h1 h2)
theorem g_l2d {x : Cx} {cc : ByteArray} {own : String} {N cs sl : Nat} {lv st : List Value} {S : pv_M} {pc : Nat} (C : BX x cc own) {a : Int64} (d : decode cc pc = .ok (.l2d, 1))  (k : GG x N cs sl lv (.double (FP.l2d a) :: st) S (pc + 1)) : GG x N cs sl lv (.long a :: st) S pc :=
  fun α H locs ls h1 h2 => lv_l2d C.1 C.2.1 d (k α H locs ls h1 h2)
theorem g_lcmp {x : Cx} {cc : ByteArray} {own : String} {N cs sl : Nat} {lv st : List Value} {S : pv_M} {pc : Nat} (C : BX x cc own) {a b : Int64} (d : decode cc pc = .ok (.lcmp, 1))  (k : GG x N cs sl lv (.int (lg_cmp a b) :: st) S (pc + 1)) : GG x N cs sl lv (.long b :: .long a :: st) S pc :=
  fun α H locs ls h1 h2 => W.lcmp C.1 C.2.1 d (k α H locs ls h1 h2)
theorem g_fadd {x : Cx} {cc : ByteArray} {own : String} {N cs sl : Nat} {lv st : List Value} {S : pv_M} {pc : Nat} (C : BX x cc own) {a b : UInt32} (d : decode cc pc = .ok (.fadd, 1)) (hne : vf_n32 (FP.fadd a b)) (k : GG x N cs sl lv (.float (FP.fadd a b) :: st) S (pc + 1)) : GG x N cs sl lv (.float b :: .float a :: st) S pc :=
  fun α H locs ls h1 h2 => lv_fadd C.1 C.2.1 d hne (k α H locs ls h1 h2)
theorem g_fsub {x : Cx} {cc : ByteArray} {own : String} {N cs sl : Nat} {lv st : List Value} {S : pv_M} {pc : Nat} (C : BX x cc own) {a b : UInt32} (d : decode cc pc = .ok (.fsub, 1)) (hne : vf_n32 (FP.fsub a b)) (k : GG x N cs sl lv (.float (FP.fsub a b) :: st) S (pc + 1)) : GG x N cs sl lv (.float b :: .float a :: st) S pc :=
  fun α H locs ls h1 h2 => lv_fsub C.1 C.2.1 d hne (k α H locs ls h1 h2)
theorem g_frem {x : Cx} {cc : ByteArray} {own : String} {N cs sl : Nat} {lv st : List Value} {S : pv_M} {pc : Nat} (C : BX x cc own) {a b : UInt32} (d : decode cc pc = .ok (.frem, 1)) (hne : vf_n32 (FP.frem a b)) (k : GG x N cs sl lv (.float (FP.frem a b) :: st) S (pc + 1)) : GG x N cs sl lv (.float b :: .float a :: st) S pc :=
  fun α H locs ls h1 h2 => lv_frem C.1 C.2.1 d hne (k α H locs ls h1 h2)
theorem g_dadd {x : Cx} {cc : ByteArray} {own : String} {N cs sl : Nat} {lv st : List Value} {S : pv_M} {pc : Nat} (C : BX x cc own) {a b : UInt64} (d : decode cc pc = .ok (.dadd, 1)) (hne : vf_n64 (FP.dadd a b)) (k : GG x N cs sl lv (.double (FP.dadd a b) :: st) S (pc + 1)) : GG x N cs sl lv (.double b :: .double a :: st) S pc :=
  fun α H locs ls h1 h2 => lv_dadd C.1 C.2.1 d hne (k α H locs ls h1 h2)
theorem g_dsub {x : Cx} {cc : ByteArray} {own : String} {N cs sl : Nat} {lv st : List Value} {S : pv_M} {pc : Nat} (C : BX x cc own) {a b : UInt64} (d : decode cc pc = .ok (.dsub, 1)) (hne : vf_n64 (FP.dsub a b)) (k : GG x N cs sl lv (.double (FP.dsub a b) :: st) S (pc + 1)) : GG x N cs sl lv (.double b :: .double a :: st) S pc :=
  fun α H locs ls h1 h2 => lv_dsub C.1 C.2.1 d hne (k α H locs ls h1 h2)
theorem g_ddiv {x : Cx} {cc : ByteArray} {own : String} {N cs sl : Nat} {lv st : List Value} {S : pv_M} {pc : Nat} (C : BX x cc own) {a b : UInt64} (d : decode cc pc = .ok (.ddiv, 1)) (hne : vf_n64 (FP.ddiv a b)) (k : GG x N cs sl lv (.double (FP.ddiv a b) :: st) S (pc + 1)) : GG x N cs sl lv (.double b :: .double a :: st) S pc :=
  fun α H locs ls h1 h2 => lv_ddiv C.1 C.2.1 d hne (k α H locs ls h1 h2)
theorem g_drem {x : Cx} {cc : ByteArray} {own : String} {N cs sl : Nat} {lv st : List Value} {S : pv_M} {pc : Nat} (C : BX x cc own) {a b : UInt64} (d : decode cc pc = .ok (.drem, 1)) (hne : vf_n64 (FP.drem a b)) (k : GG x N cs sl lv (.double (FP.drem a b) :: st) S (pc + 1)) : GG x N cs sl lv (.double b :: .double a :: st) S pc :=
  fun α H locs ls h1 h2 => lv_drem C.1 C.2.1 d hne (k α H locs ls h1 h2)
theorem g_f2d {x : Cx} {cc : ByteArray} {own : String} {N cs sl : Nat} {lv st : List Value} {S : pv_M} {pc : Nat} (C : BX x cc own) {a : UInt32} (d : decode cc pc = .ok (.f2d, 1)) (hne : vf_n64 (FP.f2d a)) (k : GG x N cs sl lv (.double (FP.f2d a) :: st) S (pc + 1)) : GG x N cs sl lv (.float a :: st) S pc :=
  fun α H locs ls h1 h2 => lv_f2d C.1 C.2.1 d hne (k α H locs ls h1 h2)
theorem g_d2f {x : Cx} {cc : ByteArray} {own : String} {N cs sl : Nat} {lv st : List Value} {S : pv_M} {pc : Nat} (C : BX x cc own) {a : UInt64} (d : decode cc pc = .ok (.d2f, 1)) (hne : vf_n32 (FP.d2f a)) (k : GG x N cs sl lv (.float (FP.d2f a) :: st) S (pc + 1)) : GG x N cs sl lv (.double a :: st) S pc :=
  fun α H locs ls h1 h2 => lv_d2f C.1 C.2.1 d hne (k α H locs ls h1 h2)
theorem g_fcmp {x : Cx} {cc : ByteArray} {own : String} {N cs sl : Nat} {lv st : List Value} {S : pv_M} {pc : Nat} (C : BX x cc own) {a b : UInt32} {op : CmpOp} (d : decode cc pc = .ok (.fcmp op, 1))  (k : GG x N cs sl lv (.int (Op.cmpValue (FP.fcmp a b) op) :: st) S (pc + 1)) : GG x N cs sl lv (.float b :: .float a :: st) S pc :=
  fun α H locs ls h1 h2 => lv_fcmp C.1 C.2.1 d (k α H locs ls h1 h2)
theorem g_dcmp {x : Cx} {cc : ByteArray} {own : String} {N cs sl : Nat} {lv st : List Value} {S : pv_M} {pc : Nat} (C : BX x cc own) {a b : UInt64} {op : CmpOp} (d : decode cc pc = .ok (.dcmp op, 1))  (k : GG x N cs sl lv (.int (Op.cmpValue (FP.dcmp a b) op) :: st) S (pc + 1)) : GG x N cs sl lv (.double b :: .double a :: st) S pc :=
  fun α H locs ls h1 h2 => lv_dcmp C.1 C.2.1 d (k α H locs ls h1 h2)
theorem g_fconst0 {x : Cx} {cc : ByteArray} {own : String} {N cs sl : Nat} {lv st : List Value} {S : pv_M} {pc : Nat} (C : BX x cc own)  (d : decode cc pc = .ok (.fconst 0, 1))  (k : GG x N cs sl lv (.float FP.fconst0 :: st) S (pc + 1)) : GG x N cs sl lv (st) S pc :=
  fun α H locs ls h1 h2 => lv_fconst0 C.1 C.2.1 d (k α H locs ls h1 h2)
theorem g_dconst0 {x : Cx} {cc : ByteArray} {own : String} {N cs sl : Nat} {lv st : List Value} {S : pv_M} {pc : Nat} (C : BX x cc own)  (d : decode cc pc = .ok (.dconst 0, 1))  (k : GG x N cs sl lv (.double FP.dconst0 :: st) S (pc + 1)) : GG x N cs sl lv (st) S pc :=
  fun α H locs ls h1 h2 => lv_dconst0 C.1 C.2.1 d (k α H locs ls h1 h2)
theorem g_iconst {x : Cx} {cc : ByteArray} {own : String} {N cs sl : Nat} {lv st : List Value} {S : pv_M} {pc : Nat} (C : BX x cc own) {n : Int} (v : Int32) (d : decode cc pc = .ok (.iconst n, 1)) (hv : Int32.ofInt n = v := by decide) (k : GG x N cs sl lv (.int v :: st) S (pc + 1)) : GG x N cs sl lv (st) S pc :=
  fun α H locs ls h1 h2 => lv_iconst C.1 C.2.1 d hv (k α H locs ls h1 h2)
theorem g_bipush {x : Cx} {cc : ByteArray} {own : String} {N cs sl : Nat} {lv st : List Value} {S : pv_M} {pc : Nat} (C : BX x cc own) {n : Int} (v : Int32) (d : decode cc pc = .ok (.bipush n, 2)) (hv : (Int8.ofInt n).toInt32 = v := by decide) (k : GG x N cs sl lv (.int v :: st) S (pc + 2)) : GG x N cs sl lv (st) S pc :=
  fun α H locs ls h1 h2 => lv_bipush C.1 C.2.1 d hv (k α H locs ls h1 h2)
theorem g_sipush {x : Cx} {cc : ByteArray} {own : String} {N cs sl : Nat} {lv st : List Value} {S : pv_M} {pc : Nat} (C : BX x cc own) {n : Int} (v : Int32) (d : decode cc pc = .ok (.sipush n, 3)) (hv : (Int16.ofInt n).toInt32 = v := by decide) (k : GG x N cs sl lv (.int v :: st) S (pc + 3)) : GG x N cs sl lv (st) S pc :=
  fun α H locs ls h1 h2 => lv_sipush C.1 C.2.1 d hv (k α H locs ls h1 h2)
theorem g_lconst {x : Cx} {cc : ByteArray} {own : String} {N cs sl : Nat} {lv st : List Value} {S : pv_M} {pc : Nat} (C : BX x cc own) {n : Fin 2} (v : Int64) (d : decode cc pc = .ok (.lconst n, 1)) (hv : Int64.ofNat (n : Nat) = v := by decide) (k : GG x N cs sl lv (.long v :: st) S (pc + 1)) : GG x N cs sl lv (st) S pc :=
  fun α H locs ls h1 h2 => lv_lconst C.1 C.2.1 d hv (k α H locs ls h1 h2)
theorem g_ldc {x : Cx} {cc : ByteArray} {own : String} {N cs sl : Nat} {lv st : List Value} {S : pv_M} {pc : Nat} (C : BX x cc own) {index : Nat} {v : Int32} (d : decode cc pc = .ok (.ldc index, 2)) (hc : Cond.constant own index v ∈ TB) (k : GG x N cs sl lv (.int v :: st) S (pc + 2)) : GG x N cs sl lv (st) S pc :=
  fun α H locs ls h1 h2 => lv_ldc C.1 C.2.1 C.2.2.1 (C.2.2.2.1 _ hc) d (k α H locs ls h1 h2)
theorem g_ldcw {x : Cx} {cc : ByteArray} {own : String} {N cs sl : Nat} {lv st : List Value} {S : pv_M} {pc : Nat} (C : BX x cc own) {index : Nat} {v : Int32} (d : decode cc pc = .ok (.ldc_w index, 3)) (hc : Cond.constant own index v ∈ TB) (k : GG x N cs sl lv (.int v :: st) S (pc + 3)) : GG x N cs sl lv (st) S pc :=
  fun α H locs ls h1 h2 => lv_ldcw C.1 C.2.1 C.2.2.1 (C.2.2.2.1 _ hc) d (k α H locs ls h1 h2)
theorem g_ldc2 {x : Cx} {cc : ByteArray} {own : String} {N cs sl : Nat} {lv st : List Value} {S : pv_M} {pc : Nat} (C : BX x cc own) {index : Nat} {v : Int64} (d : decode cc pc = .ok (.ldc2_w index, 3)) (hc : Cond.constantLong own index v ∈ TB) (k : GG x N cs sl lv (.long v :: st) S (pc + 3)) : GG x N cs sl lv (st) S pc :=
  fun α H locs ls h1 h2 => lv_ldc2 C.1 C.2.1 C.2.2.1 (C.2.2.2.1 _ hc) d (k α H locs ls h1 h2)
theorem g_dup {x : Cx} {cc : ByteArray} {own : String} {N cs sl : Nat} {lv st : List Value} {S : pv_M} {pc : Nat} (C : BX x cc own) {v : Value} (d : decode cc pc = .ok (.dup, 1)) (hv : v.category = 1 := by rfl) (k : GG x N cs sl lv (v :: v :: st) S (pc + 1)) : GG x N cs sl lv (v :: st) S pc :=
  fun α H locs ls h1 h2 => lv_dup C.1 C.2.1 d (by rw [tv_cat]; exact hv) (k α H locs ls h1 h2)
theorem g_pop {x : Cx} {cc : ByteArray} {own : String} {N cs sl : Nat} {lv st : List Value} {S : pv_M} {pc : Nat} (C : BX x cc own) {v : Value} (d : decode cc pc = .ok (.pop, 1)) (hv : v.category = 1 := by rfl) (k : GG x N cs sl lv st S (pc + 1)) : GG x N cs sl lv (v :: st) S pc :=
  fun α H locs ls h1 h2 => lv_pop C.1 C.2.1 d (by rw [tv_cat]; exact hv) (k α H locs ls h1 h2)
theorem g_dup2 {x : Cx} {cc : ByteArray} {own : String} {N cs sl : Nat} {lv st : List Value} {S : pv_M} {pc : Nat} (C : BX x cc own) {v w : Value} (d : decode cc pc = .ok (.dup2, 1)) (hv : v.category = 1 := by rfl) (hw : w.category = 1 := by rfl) (k : GG x N cs sl lv (v :: w :: v :: w :: st) S (pc + 1)) : GG x N cs sl lv (v :: w :: st) S pc :=
  fun α H locs ls h1 h2 => lv_dup2_11 C.1 C.2.1 d (by rw [tv_cat]; exact hv) (by rw [tv_cat]; exact hw) (k α H locs ls h1 h2)
theorem g_goto {x : Cx} {cc : ByteArray} {own : String} {N cs sl : Nat} {lv st : List Value} {S : pv_M} {pc : Nat} (C : BX x cc own) {off : Int} (tgt : Nat) (d : decode cc pc = .ok (.goto off, 3)) (ht : (pc : Int) + off = (tgt : Int) := by decide) (k : GG x N cs sl lv st S tgt) : GG x N cs sl lv st S pc :=
  fun α H locs ls h1 h2 => lv_goto C.1 C.2.1 d ht (k α H locs ls h1 h2)
theorem g_table {x : Cx} {cc : ByteArray} {own : String} {N cs sl : Nat} {lv st : List Value} {S : pv_M} {pc : Nat} (C : BX x cc own) {dflt lo hi : Int} {offs : Array Int} {len : Nat} {a : Int32} {off : Int} (tgt : Nat) (d : decode cc pc = .ok (.tableswitch dflt lo hi offs, len)) (q1 : ¬ a.toInt < lo) (q2 : ¬ hi < a.toInt) (ho : offs[(a.toInt - lo).toNat]? = some off) (ht : (pc : Int) + off = (tgt : Int)) (k : GG x N cs sl lv st S tgt) : GG x N cs sl lv (.int a :: st) S pc :=
  fun α H locs ls h1 h2 => lv_tableIn C.1 C.2.1 d q1 q2 ho ht (k α H locs ls h1 h2)
theorem g_tableX {x : Cx} {cc : ByteArray} {own : String} {N cs sl : Nat} {lv st : List Value} {S : pv_M} {pc : Nat} (C : BX x cc own) {dflt lo hi : Int} {offs : Array Int} {len : Nat} {a : Int32} (tgt : Nat) (d : decode cc pc = .ok (.tableswitch dflt lo hi offs, len)) (q1 : a.toInt < lo ∨ hi < a.toInt) (ht : (pc : Int) + dflt = (tgt : Int)) (k : GG x N cs sl lv st S tgt) : GG x N cs sl lv (.int a :: st) S pc :=
  fun α H locs ls h1 h2 => lv_tableOut C.1 C.2.1 d q1 ht (k α H locs ls h1 h2)
theorem g_if_eq {x : Cx} {cc : ByteArray} {own : String} {N cs sl : Nat} {lv st : List Value} {S : pv_M} {pc : Nat} (C : BX x cc own) {a : Int32} {off : Int} (tgt : Nat) (d : decode cc pc = .ok (.ifCond .eq off, 3)) (ht : (pc : Int) + off = (tgt : Int) := by decide) (kt : a = 0 → GG x N cs sl lv st S tgt) (kf : ¬ a = 0 → GG x N cs sl lv st S (pc + 3)) : GG x N cs sl lv (.int a :: st) S pc :=
  fun α H locs ls h1 h2 => lv_if_eq C.1 C.2.1 d ht (fun h => kt h α H locs ls h1 h2) (fun h => kf h α H locs ls h1 h2)
theorem g_if_ne {x : Cx} {cc : ByteArray} {own : String} {N cs sl : Nat} {lv st : List Value} {S : pv_M} {pc : Nat} (C : BX x cc own) {a : Int32} {off : Int} (tgt : Nat) (d : decode cc pc = .ok (.ifCond .ne off, 3)) (ht : (pc : Int) + off = (tgt : Int) := by decide) (kt : ¬ a = 0 → GG x N cs sl lv st S tgt) (kf : a = 0 → GG x N cs sl lv st S (pc + 3)) : GG x N cs sl lv (.int a :: st) S pc :=
  fun α H locs ls h1 h2 => lv_if_ne C.1 C.2.1 d ht (fun h => kt h α H locs ls h1 h2) (fun h => kf h α H locs ls h1 h2)
theorem g_if_lt {x : Cx} {cc : ByteArray} {own : String} {N cs sl : Nat} {lv st : List Value} {S : pv_M} {pc : Nat} (C : BX x cc own) {a : Int32} {off : Int} (tgt : Nat) (d : decode cc pc = .ok (.ifCond .lt off, 3)) (ht : (pc : Int) + off = (tgt : Int) := by decide) (kt : a < 0 → GG x N cs sl lv st S tgt) (kf : ¬ a < 0 → GG x N cs sl lv st S (pc + 3)) : GG x N cs sl lv (.int a :: st) S pc :=
  fun α H locs ls h1 h2 => lv_if_lt C.1 C.2.1 d ht (fun h => kt h α H locs ls h1 h2) (fun h => kf h α H locs ls h1 h2)
theorem g_if_ge {x : Cx} {cc : ByteArray} {own : String} {N cs sl : Nat} {lv st : List Value} {S : pv_M} {pc : Nat} (C : BX x cc own) {a : Int32} {off : Int} (tgt : Nat) (d : decode cc pc = .ok (.ifCond .ge off, 3)) (ht : (pc : Int) + off = (tgt : Int) := by decide) (kt : 0 ≤ a → GG x N cs sl lv st S tgt) (kf : ¬ 0 ≤ a → GG x N cs sl lv st S (pc + 3)) : GG x N cs sl lv (.int a :: st) S pc :=
  fun α H locs ls h1 h2 => lv_if_ge C.1 C.2.1 d ht (fun h => kt h α H locs ls h1 h2) (fun h => kf h α H locs ls h1 h2)
theorem g_if_gt {x : Cx} {cc : ByteArray} {own : String} {N cs sl : Nat} {lv st : List Value} {S : pv_M} {pc : Nat} (C : BX x cc own) {a : Int32} {off : Int} (tgt : Nat) (d : decode cc pc = .ok (.ifCond .gt off, 3)) (ht : (pc : Int) + off = (tgt : Int) := by decide) (kt : 0 < a → GG x N cs sl lv st S tgt) (kf : ¬ 0 < a → GG x N cs sl lv st S (pc + 3)) : GG x N cs sl lv (.int a :: st) S pc :=
  fun α H locs ls h1 h2 => lv_if_gt C.1 C.2.1 d ht (fun h => kt h α H locs ls h1 h2) (fun h => kf h α H locs ls h1 h2)
theorem g_if_le {x : Cx} {cc : ByteArray} {own : String} {N cs sl : Nat} {lv st : List Value} {S : pv_M} {pc : Nat} (C : BX x cc own) {a : Int32} {off : Int} (tgt : Nat) (d : decode cc pc = .ok (.ifCond .le off, 3)) (ht : (pc : Int) + off = (tgt : Int) := by decide) (kt : a ≤ 0 → GG x N cs sl lv st S tgt) (kf : ¬ a ≤ 0 → GG x N cs sl lv st S (pc + 3)) : GG x N cs sl lv (.int a :: st) S pc :=
  fun α H locs ls h1 h2 => lv_if_le C.1 C.2.1 d ht (fun h => kt h α H locs ls h1 h2) (fun h => kf h α H locs ls h1 h2)
theorem g_ic_eq {x : Cx} {cc : ByteArray} {own : String} {N cs sl : Nat} {lv st : List Value} {S : pv_M} {pc : Nat} (C : BX x cc own) {a b : Int32} {off : Int} (tgt : Nat) (d : decode cc pc = .ok (.if_icmp .eq off, 3)) (ht : (pc : Int) + off = (tgt : Int) := by decide) (kt : a = b → GG x N cs sl lv st S tgt) (kf : ¬ a = b → GG x N cs sl lv st S (pc + 3)) : GG x N cs sl lv (.int b :: .int a :: st) S pc :=
  fun α H locs ls h1 h2 => lv_icmp_eq C.1 C.2.1 d ht (fun h => kt h α H locs ls h1 h2) (fun h => kf h α H locs ls h1 h2)
theorem g_ic_ne {x : Cx} {cc : ByteArray} {own : String} {N cs sl : Nat} {lv st : List Value} {S : pv_M} {pc : Nat} (C : BX x cc own) {a b : Int32} {off : Int} (tgt : Nat) (d : decode cc pc = .ok (.if_icmp .ne off, 3)) (ht : (pc : Int) + off = (tgt : Int) := by decide) (kt : ¬ a = b → GG x N cs sl lv st S tgt) (kf : a = b → GG x N cs sl lv st S (pc + 3)) : GG x N cs sl lv (.int b :: .int a :: st) S pc :=
  fun α H locs ls h1 h2 => lv_icmp_ne C.1 C.2.1 d ht (fun h => kt h α H locs ls h1 h2) (fun h => kf h α H locs ls h1 h2)
theorem g_ic_lt {x : Cx} {cc : ByteArray} {own : String} {N cs sl : Nat} {lv st : List Value} {S : pv_M} {pc : Nat} (C : BX x cc own) {a b : Int32} {off : Int} (tgt : Nat) (d : decode cc pc = .ok (.if_icmp .lt off, 3)) (ht : (pc : Int) + off = (tgt : Int) := by decide) (kt : a < b → GG x N cs sl lv st S tgt) (kf : ¬ a < b → GG x N cs sl lv st S (pc + 3)) : GG x N cs sl lv (.int b :: .int a :: st) S pc :=
  fun α H locs ls h1 h2 => lv_icmp_lt C.1 C.2.1 d ht (fun h => kt h α H locs ls h1 h2) (fun h => kf h α H locs ls h1 h2)
theorem g_ic_ge {x : Cx} {cc : ByteArray} {own : String} {N cs sl : Nat} {lv st : List Value} {S : pv_M} {pc : Nat} (C : BX x cc own) {a b : Int32} {off : Int} (tgt : Nat) (d : decode cc pc = .ok (.if_icmp .ge off, 3)) (ht : (pc : Int) + off = (tgt : Int) := by decide) (kt : b ≤ a → GG x N cs sl lv st S tgt) (kf : ¬ b ≤ a → GG x N cs sl lv st S (pc + 3)) : GG x N cs sl lv (.int b :: .int a :: st) S pc :=
  fun α H locs ls h1 h2 => lv_icmp_ge C.1 C.2.1 d ht (fun h => kt h α H locs ls h1 h2) (fun h => kf h α H locs ls h1 h2)
theorem g_ic_gt {x : Cx} {cc : ByteArray} {own : String} {N cs sl : Nat} {lv st : List Value} {S : pv_M} {pc : Nat} (C : BX x cc own) {a b : Int32} {off : Int} (tgt : Nat) (d : decode cc pc = .ok (.if_icmp .gt off, 3)) (ht : (pc : Int) + off = (tgt : Int) := by decide) (kt : b < a → GG x N cs sl lv st S tgt) (kf : ¬ b < a → GG x N cs sl lv st S (pc + 3)) : GG x N cs sl lv (.int b :: .int a :: st) S pc :=
  fun α H locs ls h1 h2 => lv_icmp_gt C.1 C.2.1 d ht (fun h => kt h α H locs ls h1 h2) (fun h => kf h α H locs ls h1 h2)
theorem g_ic_le {x : Cx} {cc : ByteArray} {own : String} {N cs sl : Nat} {lv st : List Value} {S : pv_M} {pc : Nat} (C : BX x cc own) {a b : Int32} {off : Int} (tgt : Nat) (d : decode cc pc = .ok (.if_icmp .le off, 3)) (ht : (pc : Int) + off = (tgt : Int) := by decide) (kt : a ≤ b → GG x N cs sl lv st S tgt) (kf : ¬ a ≤ b → GG x N cs sl lv st S (pc + 3)) : GG x N cs sl lv (.int b :: .int a :: st) S pc :=
  fun α H locs ls h1 h2 => lv_icmp_le C.1 C.2.1 d ht (fun h => kt h α H locs ls h1 h2) (fun h => kf h α H locs ls h1 h2)
theorem g_iload_n {x : Cx} {cc : ByteArray} {own : String} {N cs sl : Nat} {lv st : List Value} {S : pv_M} {pc : Nat} (C : BX x cc own) {q : Fin 4} {a : Int32} (d : decode cc pc = .ok (.iload_n q, 1)) (hl : lv[(q : Nat)]? = some (.int a)) (k : GG x N cs sl lv (.int a :: st) S (pc + 1)) : GG x N cs sl lv st S pc :=
  fun α H locs ls h1 h2 => lv_iload_n C.1 C.2.1 d rfl (h2.2.2 _ _ hl (by intro h; cases h)) (k α H locs ls h1 h2)
theorem g_iload {x : Cx} {cc : ByteArray} {own : String} {N cs sl : Nat} {lv st : List Value} {S : pv_M} {pc : Nat} (C : BX x cc own) {q : Nat} {a : Int32} (d : decode cc pc = .ok (.iload q, 2)) (hl : lv[q]? = some (.int a)) (k : GG x N cs sl lv (.int a :: st) S (pc + 2)) : GG x N cs sl lv st S pc :=
  fun α H locs ls h1 h2 => lv_iload C.1 C.2.1 d (h2.2.2 _ _ hl (by intro h; cases h)) (k α H locs ls h1 h2)
theorem g_lload_n {x : Cx} {cc : ByteArray} {own : String} {N cs sl : Nat} {lv st : List Value} {S : pv_M} {pc : Nat} (C : BX x cc own) {q : Fin 4} {a : Int64} (d : decode cc pc = .ok (.lload_n q, 1)) (hl : lv[(q : Nat)]? = some (.long a)) (k : GG x N cs sl lv (.long a :: st) S (pc + 1)) : GG x N cs sl lv st S pc :=
  fun α H locs ls h1 h2 => lv_lload_n C.1 C.2.1 d rfl (h2.2.2 _ _ hl (by intro h; cases h)) (k α H locs ls h1 h2)
theorem g_lload {x : Cx} {cc : ByteArray} {own : String} {N cs sl : Nat} {lv st : List Value} {S : pv_M} {pc : Nat} (C : BX x cc own) {q : Nat} {a : Int64} (d : decode cc pc = .ok (.lload q, 2)) (hl : lv[q]? = some (.long a)) (k : GG x N cs sl lv (.long a :: st) S (pc + 2)) : GG x N cs sl lv st S pc :=
  fun α H locs ls h1 h2 => lv_lload C.1 C.2.1 d (h2.2.2 _ _ hl (by intro h; cases h)) (k α H locs ls h1 h2)
theorem g_fload_n {x : Cx} {cc : ByteArray} {own : String} {N cs sl : Nat} {lv st : List Value} {S : pv_M} {pc : Nat} (C : BX x cc own) {q : Fin 4} {a : UInt32} (d : decode cc pc = .ok (.fload_n q, 1)) (hl : lv[(q : Nat)]? = some (.float a)) (k : GG x N cs sl lv (.float a :: st) S (pc + 1)) : GG x N cs sl lv st S pc :=
  fun α H locs ls h1 h2 => lv_fload_n C.1 C.2.1 d rfl (h2.2.2 _ _ hl (by intro h; cases h)) (k α H locs ls h1 h2)
theorem g_fload {x : Cx} {cc : ByteArray} {own : String} {N cs sl : Nat} {lv st : List Value} {S : pv_M} {pc : Nat} (C : BX x cc own) {q : Nat} {a : UInt32} (d : decode cc pc = .ok (.fload q, 2)) (hl : lv[q]? = some (.float a)) (k : GG x N cs sl lv (.float a :: st) S (pc + 2)) : GG x N cs sl lv st S pc :=
  fun α H locs ls h1 h2 => lv_fload C.1 C.2.1 d (h2.2.2 _ _ hl (by intro h; cases h)) (k α H locs ls h1 h2)
theorem g_dload_n {x : Cx} {cc : ByteArray} {own : String} {N cs sl : Nat} {lv st : List Value} {S : pv_M} {pc : Nat} (C : BX x cc own) {q : Fin 4} {a : UInt64} (d : decode cc pc = .ok (.dload_n q, 1)) (hl : lv[(q : Nat)]? = some (.double a)) (k : GG x N cs sl lv (.double a :: st) S (pc + 1)) : GG x N cs sl lv st S pc :=
  fun α H locs ls h1 h2 => lv_dload_n C.1 C.2.1 d rfl (h2.2.2 _ _ hl (by intro h; cases h)) (k α H locs ls h1 h2)
theorem g_dload {x : Cx} {cc : ByteArray} {own : String} {N cs sl : Nat} {lv st : List Value} {S : pv_M} {pc : Nat} (C : BX x cc own) {q : Nat} {a : UInt64} (d : decode cc pc = .ok (.dload q, 2)) (hl : lv[q]? = some (.double a)) (k : GG x N cs sl lv (.double a :: st) S (pc + 2)) : GG x N cs sl lv st S pc :=
  fun α H locs ls h1 h2 => lv_dload C.1 C.2.1 d (h2.2.2 _ _ hl (by intro h; cases h)) (k α H locs ls h1 h2)
theorem g_aload_n {x : Cx} {cc : ByteArray} {own : String} {N cs sl : Nat} {lv st : List Value} {S : pv_M} {pc : Nat} (C : BX x cc own) {q : Fin 4} {a : Nat} (d : decode cc pc = .ok (.aload_n q, 1)) (hl : lv[(q : Nat)]? = some (.ref a)) (k : GG x N cs sl lv (.ref a :: st) S (pc + 1)) : GG x N cs sl lv st S pc :=
  fun α H locs ls h1 h2 => lv_aload_n C.1 C.2.1 d rfl (h2.2.2 _ _ hl (by intro h; cases h)) (k α H locs ls h1 h2)
theorem g_aload {x : Cx} {cc : ByteArray} {own : String} {N cs sl : Nat} {lv st : List Value} {S : pv_M} {pc : Nat} (C : BX x cc own) {q : Nat} {a : Nat} (d : decode cc pc = .ok (.aload q, 2)) (hl : lv[q]? = some (.ref a)) (k : GG x N cs sl lv (.ref a :: st) S (pc + 2)) : GG x N cs sl lv st S pc :=
  fun α H locs ls h1 h2 => lv_aload C.1 C.2.1 d (h2.2.2 _ _ hl (by intro h; cases h)) (k α H locs ls h1 h2)
theorem g_sload_n {x : Cx} {cc : ByteArray} {own : String} {N cs sl : Nat} {lv st : List Value} {S : pv_M} {pc : Nat} (C : BX x cc own) {q : Fin 4} (d : decode cc pc = .ok (.aload_n q, 1)) (hl : lv[(q : Nat)]? = some (.retAddr 1)) (k : GG x N cs sl lv (.retAddr 1 :: st) S (pc + 1)) : GG x N cs sl lv st S pc :=
  fun α H locs ls h1 h2 => lv_aload_n (x := xb x) C.1 C.2.1 d rfl (h2.2.2 _ _ hl (by intro h; cases h)) (k α H locs ls h1 h2)
/-- the locals as the kit has them -/
def lp (b : Nat) (α : Nat → Nat) (lv : List Value) : List (Nat × Value) := (lv.zipIdx).filterMap fun q => if q.1 = unk then none else some (q.2, tv b α q.1)
theorem lp_mem {b : Nat} {α : Nat → Nat} {lv : List Value} {q : Nat × Value} : q ∈ lp b α lv ↔ ∃ v, lv[q.1]? = some v ∧ v ≠ unk ∧ q.2 = tv b α v := by
  unfold lp
  rw [List.mem_filterMap]
  constructor
  · rintro ⟨⟨v, i⟩, h1, h2⟩
    have h3 := List.mem_zipIdx_iff_getElem?.mp h1
    by_cases hu : v = unk
    · simp [hu] at h2
    · simp only [hu, if_false] at h2
      cases h2
      exact ⟨v, by simpa using h3, hu, rfl⟩
  · rintro ⟨v, h1, h2, h3⟩
    refine ⟨(v, q.1), List.mem_zipIdx_iff_getElem?.mpr (by simpa using h1), ?_⟩
    simp only [h2, if_false]
    rw [← h3]
theorem LR.has {x : Cx} {α : Nat → Nat} {lv : List Value} {ls : Array Slot} (h : LR x α lv ls) : lv_has ls (xc x).maxLocals (lp (xb x) α lv) := by
  refine ⟨h.1, h.2.1, fun q hq => ?_⟩
  obtain ⟨v, h1, h2, h3⟩ := lp_mem.mp hq
  rw [h3]
  exact h.2.2 _ _ h1 h2
theorem sv_at {lv : List Value} {i j : Nat} {v w : Value} (h : (sv lv i v)[j]? = some w) (hw : w ≠ unk) : (j = i ∧ w = v) ∨ (j ≠ i ∧ lv[j]? = some w ∧ ¬ (j + 1 = i ∧ w.category = 2)) := by
  unfold sv at h
  by_cases hj : j = i
  · subst hj
    rw [List.getElem?_set_self' ] at h
    cases h9 : (List.map (fun q => if q.2 + 1 = j ∧ q.1.category = 2 then unk else q.1) lv.zipIdx)[j]? with
    | none => rw [h9] at h; cases h
    | some z => rw [h9] at h; cases h; exact Or.inl ⟨rfl, rfl⟩
  · rw [List.getElem?_set_ne (fun q => hj q.symm), List.getElem?_map, List.getElem?_zipIdx] at h
    cases h9 : lv[j]? with
    | none => rw [h9] at h; cases h
    | some z =>
      rw [h9] at h
      simp only [Option.map_some, Nat.zero_add] at h
      by_cases hc : j + 1 = i ∧ z.category = 2
      · rw [if_pos hc] at h
        exact absurd (Option.some.inj h).symm hw
      · rw [if_neg hc] at h
        cases h
        exact Or.inr ⟨hj, rfl, hc⟩
theorem LR.st1 {x : Cx} {α : Nat → Nat} {lv : List Value} {ls' : Array Slot} {i : Nat} {v : Value} (h : lv_has ls' (xc x).maxLocals ((i, tv (xb x) α v) :: (lp (xb x) α lv).filter (fun q => !(q.1 == i) && !(q.1 + 1 == i && q.2.category == 2)))) : LR x α (sv lv i v) ls' := by
  refine ⟨h.1, h.2.1, fun j w hj hw => ?_⟩
  rcases sv_at hj hw with ⟨rfl, rfl⟩ | ⟨h1, h2, h3⟩
  · exact h.2.2 _ List.mem_cons_self
  · refine h.2.2 (j, tv (xb x) α w) (List.mem_cons_of_mem _ (List.mem_filter.mpr ⟨lp_mem.mpr ⟨w, h2, hw, rfl⟩, ?_⟩))
    simp only [Bool.and_eq_true, Bool.not_eq_true', beq_eq_false_iff_ne, ne_eq, Bool.and_eq_false_iff]
    refine ⟨h1, ?_⟩
    by_cases q : j + 1 = i
    · exact Or.inr (fun z => h3 ⟨q, (tv_cat (xb x) α w).symm.trans z⟩)
    · exact Or.inl q
theorem LR.st2 {x : Cx} {α : Nat → Nat} {lv : List Value} {ls' : Array Slot} {i : Nat} {v : Value} (h : lv_has ls' (xc x).maxLocals ((i, tv (xb x) α v) :: (lp (xb x) α lv).filter (fun q => !(q.1 == i) && (!(q.1 == i + 1) && !(q.1 + 1 == i && q.2.category == 2))))) : LR x α (sv2 lv i v) ls' := by
  refine ⟨h.1, h.2.1, fun j w hj hw => ?_⟩
  unfold sv2 at hj
  by_cases hj2 : j = i + 1
  · subst hj2
    rw [List.getElem?_set_self'] at hj
    cases h9 : (sv lv i v)[i + 1]? with
    | none => rw [h9] at hj; cases hj
    | some z => rw [h9] at hj; exact absurd (Option.some.inj hj).symm hw
  · rw [List.getElem?_set_ne (fun q => hj2 q.symm)] at hj
    rcases sv_at hj hw with ⟨rfl, rfl⟩ | ⟨h1, h2, h3⟩
    · exact h.2.2 _ List.mem_cons_self
    · refine h.2.2 (j, tv (xb x) α w) (List.mem_cons_of_mem _ (List.mem_filter.mpr ⟨lp_mem.mpr ⟨w, h2, hw, rfl⟩, ?_⟩))
      simp only [Bool.and_eq_true, Bool.not_eq_true', beq_eq_false_iff_ne, ne_eq, Bool.and_eq_false_iff]
      refine ⟨h1, hj2, ?_⟩
      by_cases q : j + 1 = i
      · exact Or.inr (fun z => h3 ⟨q, (tv_cat (xb x) α w).symm.trans z⟩)
      · exact Or.inl q
theorem g_istore_n {x : Cx} {cc : ByteArray} {own : String} {N cs sl : Nat} {lv st : List Value} {S : pv_M} {pc : Nat} (C : BX x cc own) {q : Fin 4} {a : Int32} (hm : (q : Nat) < (xc x).maxLocals) (d : decode cc pc = .ok (.istore_n q, 1)) (lv' : List Value) (hl : sv lv q (.int a) = lv' := by rfl) (k : GG x N cs sl lv' st S (pc + 1)) : GG x N cs sl lv (.int a :: st) S pc := by
  intro α H locs ls h1 h2
  subst hl
  exact lv_istore_n C.1 C.2.1 d rfl h2.has hm rfl fun ls' h9 => k α H locs ls' h1 (LR.st1 (v := .int a) h9)
theorem g_istore {x : Cx} {cc : ByteArray} {own : String} {N cs sl : Nat} {lv st : List Value} {S : pv_M} {pc : Nat} (C : BX x cc own) {q : Nat} {a : Int32} (hm : q < (xc x).maxLocals) (d : decode cc pc = .ok (.istore q, 2)) (lv' : List Value) (hl : sv lv q (.int a) = lv' := by rfl) (k : GG x N cs sl lv' st S (pc + 2)) : GG x N cs sl lv (.int a :: st) S pc := by
  intro α H locs ls h1 h2
  subst hl
  exact lv_istore C.1 C.2.1 d h2.has hm rfl fun ls' h9 => k α H locs ls' h1 (LR.st1 (v := .int a) h9)
theorem g_fstore_n {x : Cx} {cc : ByteArray} {own : String} {N cs sl : Nat} {lv st : List Value} {S : pv_M} {pc : Nat} (C : BX x cc own) {q : Fin 4} {a : UInt32} (hm : (q : Nat) < (xc x).maxLocals) (d : decode cc pc = .ok (.fstore_n q, 1)) (lv' : List Value) (hl : sv lv q (.float a) = lv' := by rfl) (k : GG x N cs sl lv' st S (pc + 1)) : GG x N cs sl lv (.float a :: st) S pc := by
  intro α H locs ls h1 h2
  subst hl
  exact lv_fstore_n C.1 C.2.1 d rfl h2.has hm rfl fun ls' h9 => k α H locs ls' h1 (LR.st1 (v := .float a) h9)
theorem g_fstore {x : Cx} {cc : ByteArray} {own : String} {N cs sl : Nat} {lv st : List Value} {S : pv_M} {pc : Nat} (C : BX x cc own) {q : Nat} {a : UInt32} (hm : q < (xc x).maxLocals) (d : decode cc pc = .ok (.fstore q, 2)) (lv' : List Value) (hl : sv lv q (.float a) = lv' := by rfl) (k : GG x N cs sl lv' st S (pc + 2)) : GG x N cs sl lv (.float a :: st) S pc := by
  intro α H locs ls h1 h2
  subst hl
  exact lv_fstore C.1 C.2.1 d h2.has hm rfl fun ls' h9 => k α H locs ls' h1 (LR.st1 (v := .float a) h9)
theorem g_astore_n {x : Cx} {cc : ByteArray} {own : String} {N cs sl : Nat} {lv st : List Value} {S : pv_M} {pc : Nat} (C : BX x cc own) {q : Fin 4} {a : Nat} (hm : (q : Nat) < (xc x).maxLocals) (d : decode cc pc = .ok (.astore_n q, 1)) (lv' : List Value) (hl : sv lv q (.ref a) = lv' := by rfl) (k : GG x N cs sl lv' st S (pc + 1)) : GG x N cs sl lv (.ref a :: st) S pc := by
  intro α H locs ls h1 h2
  subst hl
  exact lv_astore_n C.1 C.2.1 d rfl h2.has hm rfl fun ls' h9 => k α H locs ls' h1 (LR.st1 (v := .ref a) h9)
theorem g_astore {x : Cx} {cc : ByteArray} {own : String} {N cs sl : Nat} {lv st : List Value} {S : pv_M} {pc : Nat} (C : BX x cc own) {q : Nat} {a : Nat} (hm : q < (xc x).maxLocals) (d : decode cc pc = .ok (.astore q, 2)) (lv' : List Value) (hl : sv lv q (.ref a) = lv' := by rfl) (k : GG x N cs sl lv' st S (pc + 2)) : GG x N cs sl lv (.ref a :: st) S pc := by
  intro α H locs ls h1 h2
  subst hl
  exact lv_astore C.1 C.2.1 d h2.has hm rfl fun ls' h9 => k α H locs ls' h1 (LR.st1 (v := .ref a) h9)
theorem g_lstore_n {x : Cx} {cc : ByteArray} {own : String} {N cs sl : Nat} {lv st : List Value} {S : pv_M} {pc : Nat} (C : BX x cc own) {q : Fin 4} {a : Int64} (hm : (q : Nat) + 1 < (xc x).maxLocals) (d : decode cc pc = .ok (.lstore_n q, 1)) (lv' : List Value) (hl : sv2 lv q (.long a) = lv' := by rfl) (k : GG x N cs sl lv' st S (pc + 1)) : GG x N cs sl lv (.long a :: st) S pc := by
  intro α H locs ls h1 h2
  subst hl
  exact lv_lstore_n C.1 C.2.1 d rfl h2.has hm rfl fun ls' h9 => k α H locs ls' h1 (LR.st2 (v := .long a) h9)
theorem g_lstore {x : Cx} {cc : ByteArray} {own : String} {N cs sl : Nat} {lv st : List Value} {S : pv_M} {pc : Nat} (C : BX x cc own) {q : Nat} {a : Int64} (hm : q + 1 < (xc x).maxLocals) (d : decode cc pc = .ok (.lstore q, 2)) (lv' : List Value) (hl : sv2 lv q (.long a) = lv' := by rfl) (k : GG x N cs sl lv' st S (pc + 2)) : GG x N cs sl lv (.long a :: st) S pc := by
  intro α H locs ls h1 h2
  subst hl
  exact lv_lstore C.1 C.2.1 d h2.has hm rfl fun ls' h9 => k α H locs ls' h1 (LR.st2 (v := .long a) h9)
theorem g_dstore_n {x : Cx} {cc : ByteArray} {own : String} {N cs sl : Nat} {lv st : List Value} {S : pv_M} {pc : Nat} (C : BX x cc own) {q : Fin 4} {a : UInt64} (hm : (q : Nat) + 1 < (xc x).maxLocals) (d : decode cc pc = .ok (.dstore_n q, 1)) (lv' : List Value) (hl : sv2 lv q (.double a) = lv' := by rfl) (k : GG x N cs sl lv' st S (pc + 1)) : GG x N cs sl lv (.double a :: st) S pc := by
  intro α H locs ls h1 h2
  subst hl
  exact lv_dstore_n C.1 C.2.1 d rfl h2.has hm rfl fun ls' h9 => k α H locs ls' h1 (LR.st2 (v := .double a) h9)
theorem g_dstore {x : Cx} {cc : ByteArray} {own : String} {N cs sl : Nat} {lv st : List Value} {S : pv_M} {pc : Nat} (C : BX x cc own) {q : Nat} {a : UInt64} (hm : q + 1 < (xc x).maxLocals) (d : decode cc pc = .ok (.dstore q, 2)) (lv' : List Value) (hl : sv2 lv q (.double a) = lv' := by rfl) (k : GG x N cs sl lv' st S (pc + 2)) : GG x N cs sl lv (.double a :: st) S pc := by
  intro α H locs ls h1 h2
  subst hl
  exact lv_dstore C.1 C.2.1 d h2.has hm rfl fun ls' h9 => k α H locs ls' h1 (LR.st2 (v := .double a) h9)
theorem g_iinc {x : Cx} {cc : ByteArray} {own : String} {N cs sl : Nat} {lv st : List Value} {S : pv_M} {pc : Nat} (C : BX x cc own) {q : Nat} {n : Int} {a : Int32} (hm : q < (xc x).maxLocals) (d : decode cc pc = .ok (.iinc q n, 3)) (h : lv[q]? = some (.int a)) (lv' : List Value) (hl : sv lv q (.int (a + Int32.ofInt n)) = lv' := by rfl) (k : GG x N cs sl lv' st S (pc + 3)) : GG x N cs sl lv st S pc := by
  intro α H locs ls h1 h2
  subst hl
  obtain ⟨z, hz⟩ := List.getElem?_of_mem (lp_mem (b := xb x) (α := α) (q := (q, .int a)) |>.mpr ⟨_, h, (by intro h; cases h), rfl⟩)
  exact lv_iinc C.1 C.2.1 d h2.has hz rfl hm rfl fun ls' h9 => k α H locs ls' h1 (LR.st1 (v := .int (a + Int32.ofInt n)) h9)
/-- fewer locals are known -/
theorem g_less {x : Cx} {N cs sl : Nat} {lv st : List Value} {S : pv_M} {pc : Nat} (lv' : List Value) (h : ∀ (i : Nat) (v : Value), lv'[i]? = some v → v = unk ∨ lv[i]? = some v) (k : GG x N cs sl lv' st S pc) : GG x N cs sl lv st S pc :=
  fun α H locs ls h1 h2 => k α H locs ls h1 ⟨h2.1, h2.2.1, fun i v hi hv => by
    rcases h i v hi with h | h
    · exact absurd h hv
    · exact h2.2.2 i v h hv⟩
def lessB : List Value → List Value → Bool
  | [], _ => true
  | a :: l, [] => decide (a = unk) && lessB l []
  | a :: l, b :: r => (decide (a = unk) || decide (a = b)) && lessB l r
theorem g_widen {x : Cx} {N cs sl : Nat} {lv st : List Value} {S : pv_M} {pc : Nat} {cs' sl' : Nat} (h1 : cs ≤ cs') (h2 : sl ≤ sl') (k : GG x N cs' sl' lv st S pc) : GG x N cs sl lv st S pc :=
  fun α H locs ls q1 q2 => W.widen h1 h2 (k α H locs ls q1 q2)

