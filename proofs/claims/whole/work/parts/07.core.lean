/-! THE PURE STATE: cells are numbered 0 .. in the order of their making; what a cell is never changes (pv_sh); what it holds is four tables of numbers and one of references, each by cell and slot. -/
abbrev pv_M : Type := (Nat → Nat → Int32) × (Nat → Nat → Int64) × (Nat → Nat → UInt32) × (Nat → Nat → UInt64) × (Nat → Nat → Option Nat)
abbrev mI (S : pv_M) : Nat → Nat → Int32 := S.1
abbrev mJ (S : pv_M) : Nat → Nat → Int64 := S.2.1
abbrev mF (S : pv_M) : Nat → Nat → UInt32 := S.2.2.1
abbrev mD (S : pv_M) : Nat → Nat → UInt64 := S.2.2.2.1
abbrev mR (S : pv_M) : Nat → Nat → Option Nat := S.2.2.2.2
def wI (S : pv_M) (i : Nat) (f : Nat → Int32) : pv_M := (va_up S.1 i f, S.2)
def wJ (S : pv_M) (i : Nat) (f : Nat → Int64) : pv_M := (S.1, va_up S.2.1 i f, S.2.2)
def wF (S : pv_M) (i : Nat) (f : Nat → UInt32) : pv_M := (S.1, S.2.1, va_up S.2.2.1 i f, S.2.2.2)
def wD (S : pv_M) (i : Nat) (f : Nat → UInt64) : pv_M := (S.1, S.2.1, S.2.2.1, va_up S.2.2.2.1 i f, S.2.2.2.2)
def wR (S : pv_M) (i : Nat) (f : Nat → Option Nat) : pv_M := (S.1, S.2.1, S.2.2.1, S.2.2.2.1, va_up S.2.2.2.2 i f)
/-- the classes whose objects there are -/
def pv_cl : List vw_C := [(RX0, TX0, 14), (RX1, TX1, 3), (RX2, TX2, 3), (RX3, TX3, 4), (RX5, TX5, 10), (RX6, TX6, 3), (RX7, TX7, 6), (RX8, TX8, 1), (RX9, TX9, 2), (RX10, TX10, 2), (RX11, TX11, 13), (RX12, TX12, 43)]
def pv_nf (ci : Nat) : Nat := match ci with
  | 0 => 14 | 1 => 3 | 2 => 3 | 3 => 4 | 4 => 10 | 5 => 3 | 6 => 6 | 7 => 1 | 8 => 2 | 9 => 2 | 10 => 13 | _ => 43
def pv_ft (ci k : Nat) : FieldType := match ci with
  | 0 => tyX0 k | 1 => tyX1 k | 2 => tyX2 k | 3 => tyX3 k | 4 => tyX5 k | 5 => tyX6 k | 6 => tyX7 k | 7 => tyX8 k | 8 => tyX9 k | 9 => tyX10 k | 10 => tyX11 k | _ => tyX12 k
/-- what each cell is: an object of a class, or an array of a kind (0 int, 1 long, 2 float, 3 double, 4 boolean, 5 Automaton, 6 Row) with its length -/
def pv_shl : List (Nat ⊕ (Nat × Nat)) := [
  .inl 10, .inr (5, 3), .inr (5, 3), .inl 9, .inr (0, 12), .inl 9, .inr (0, 12), .inr (6, 2),
  .inl 5, .inl 1, .inr (0, 18), .inl 2, .inl 1, .inr (0, 18), .inl 7, .inr (0, 192), .inl 8, .inl 7, .inr (0, 192), .inl 1, .inr (0, 18),
  .inl 6, .inr (2, 21), .inr (3, 21), .inr (1, 6), .inr (1, 6),
  .inl 3, .inr (1, 730), .inr (0, 1024),
  .inl 4, .inr (0, 384), .inr (0, 384), .inr (0, 1152), .inr (0, 384), .inr (4, 384), .inr (0, 384), .inr (0, 384),
  .inl 0, .inl 1, .inr (0, 18), .inl 7, .inr (0, 192), .inl 7, .inr (0, 192), .inl 7, .inr (0, 192),
  .inr (0, 64), .inr (0, 64), .inr (0, 64), .inr (1, 64), .inr (1, 64), .inr (0, 730), .inr (0, 64),
  .inl 1, .inr (0, 18), .inl 1, .inr (0, 18), .inl 1, .inr (0, 18), .inl 1, .inr (0, 18), .inl 1, .inr (0, 18), .inl 1, .inr (0, 18),
  .inl 6, .inr (2, 21), .inr (3, 21), .inr (1, 6), .inr (1, 6), .inl 6, .inr (2, 21), .inr (3, 21), .inr (1, 6), .inr (1, 6),
  .inl 11, .inr (0, 3), .inr (0, 54), .inr (4, 18), .inr (0, 12), .inr (0, 2), .inr (0, 2), .inr (2, 42), .inr (3, 42), .inr (0, 3), .inr (0, 54), .inr (4, 18), .inr (0, 12),
  .inr (1, 740), .inr (0, 2220), .inr (4, 740), .inr (0, 740), .inr (0, 740), .inr (0, 740), .inr (0, 740), .inr (0, 6), .inr (0, 64), .inr (4, 64), .inr (1, 192), .inr (0, 6), .inr (4, 4096), .inr (0, 4096), .inr (1, 6), .inr (1, 6),
  .inr (1, 1), .inr (3, 1)]
def pv_sh (i : Nat) : Nat ⊕ (Nat × Nat) := pv_shl.getD i (.inr (99, 0))
def pv_v (α : Nat → Nat) (S : pv_M) (i k : Nat) (ty : FieldType) : Value := match ty with
  | .int => .int (mI S i k)
  | .boolean => .int (mI S i k)
  | .long => .long (mJ S i k)
  | .float => .float (mF S i k)
  | .double => .double (mD S i k)
  | _ => va_rf ((mR S i k).map α)
def pv_arr (α : Nat → Nat) (S : pv_M) (i t : Nat) : (Nat → Int32) ⊕ (Nat → Int64) ⊕ (Nat → UInt32) ⊕ (Nat → UInt64) ⊕ (Nat → Option Nat) := match t with
  | 0 => .inl (mI S i)
  | 1 => .inr (.inl (mJ S i))
  | 2 => .inr (.inr (.inl (mF S i)))
  | 3 => .inr (.inr (.inr (.inl (mD S i))))
  | 4 => .inl (mI S i)
  | _ => .inr (.inr (.inr (.inr (fun k => (mR S i k).map α))))
def pv_cell (ay : Nat → ClassId) (α : Nat → Nat) (S : pv_M) (i : Nat) : va_E := match pv_sh i with
  | .inl ci => .inr (ci, (List.range (pv_nf ci)).map fun k => pv_v α S i k (pv_ft ci k))
  | .inr q => .inl (ay q.1, q.2, pv_arr α S i q.1)
def pv_wd (ay : Nat → ClassId) (α : Nat → Nat) (N : Nat) (S : pv_M) : va_W := (List.range N).map fun i => (α i, pv_cell ay α S i)
def pv_tys (ay : Nat → ClassId) : List (ClassId × FieldType) := [(ay 0, .int), (ay 1, .long), (ay 2, .float), (ay 3, .double), (ay 4, .boolean), (ay 5, .object RX1), (ay 6, .object RX7)]
/-- references are to cells that are there -/
def pv_ok (N : Nat) (S : pv_M) : Prop := ∀ i, i < N → ∀ k r, mR S i k = some r → r < N
/-- an unknown local; the law's own script; else a reference is a cell's number -/
abbrev unk : Value := .retAddr 0
def tv (b : Nat) (α : Nat → Nat) (v : Value) : Value := match v with
  | .ref i => .ref (α i)
  | .retAddr k => if k = 1 then .ref b else .retAddr k
  | v => v
theorem pv_wd_at (ay : Nat → ClassId) (α : Nat → Nat) (S : pv_M) {N i : Nat} (h : i < N) : (pv_wd ay α N S)[i]? = some (α i, pv_cell ay α S i) := by
  simp [pv_wd, h]
theorem pv_wd_set (ay : Nat → ClassId) (α : Nat → Nat) {S S' : pv_M} {N i : Nat} (h : i < N) (hs : ∀ j, j ≠ i → pv_cell ay α S' j = pv_cell ay α S j) {c : va_E} (hc : pv_cell ay α S' i = c) : (pv_wd ay α N S).set i (α i, c) = pv_wd ay α N S' := by
  apply List.ext_getElem?
  intro j
  by_cases hj : j = i
  · subst hj
    rw [List.getElem?_set_self (by simp [pv_wd, h]), pv_wd_at ay α S' h, hc]
  · rw [List.getElem?_set_ne (fun q => hj q.symm)]
    by_cases hN : j < N
    · rw [pv_wd_at ay α S hN, pv_wd_at ay α S' hN, hs j hj]
    · simp [pv_wd, hN]
theorem pv_cell_wI (ay : Nat → ClassId) (α : Nat → Nat) (S : pv_M) (i : Nat) (f : Nat → Int32) : ∀ j, j ≠ i → pv_cell ay α (wI S i f) j = pv_cell ay α S j := by
  intro j hj
  simp only [pv_cell, pv_v, pv_arr, mI, mJ, mF, mD, mR, wI, va_up_ne _ _ hj]
theorem pv_cell_wJ (ay : Nat → ClassId) (α : Nat → Nat) (S : pv_M) (i : Nat) (f : Nat → Int64) : ∀ j, j ≠ i → pv_cell ay α (wJ S i f) j = pv_cell ay α S j := by
  intro j hj
  simp only [pv_cell, pv_v, pv_arr, mI, mJ, mF, mD, mR, wJ, va_up_ne _ _ hj]
theorem pv_cell_wF (ay : Nat → ClassId) (α : Nat → Nat) (S : pv_M) (i : Nat) (f : Nat → UInt32) : ∀ j, j ≠ i → pv_cell ay α (wF S i f) j = pv_cell ay α S j := by
  intro j hj
  simp only [pv_cell, pv_v, pv_arr, mI, mJ, mF, mD, mR, wF, va_up_ne _ _ hj]
theorem pv_cell_wD (ay : Nat → ClassId) (α : Nat → Nat) (S : pv_M) (i : Nat) (f : Nat → UInt64) : ∀ j, j ≠ i → pv_cell ay α (wD S i f) j = pv_cell ay α S j := by
  intro j hj
  simp only [pv_cell, pv_v, pv_arr, mI, mJ, mF, mD, mR, wD, va_up_ne _ _ hj]
theorem pv_cell_wR (ay : Nat → ClassId) (α : Nat → Nat) (S : pv_M) (i : Nat) (f : Nat → Option Nat) : ∀ j, j ≠ i → pv_cell ay α (wR S i f) j = pv_cell ay α S j := by
  intro j hj
  simp only [pv_cell, pv_v, pv_arr, mI, mJ, mF, mD, mR, wR, va_up_ne _ _ hj]
/-! the words: one list for all methods -/
def TB : List Cond := lw_tbl.filter goodWord
theorem tb_in {w : Cond} (i : Nat) (h : lw_tbl[i]? = some w) (hg : goodWord w = true) : w ∈ TB := List.mem_filter.mpr ⟨List.mem_of_getElem? h, hg⟩
theorem tb_good {w : Cond} (h : w ∈ TB) : (w.onTables && w.keeps) = true ∨ ∃ ty, w = .arrayClass ty := good_of_word (List.mem_filter.mp h).2
theorem tb_goodIn {y : MethodName} {cc : ByteArray} {n : Nat} {r : Option FieldType} {ws : List Cond} (h : ∀ w ∈ ws, w ∈ TB) : GoodIn (.code y cc n r :: TB) ws := fun w hw => ⟨List.mem_cons_of_mem _ (h w hw), tb_good (h w hw)⟩
