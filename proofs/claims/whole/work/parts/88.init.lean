/-! ROWS THAT MAKE CELLS: the cell made next has the number N; no cell from N on was written -/
def ZF (N : Nat) (S : pv_M) : Prop := ∀ i, N ≤ i → mI S i = (fun _ => 0) ∧ mJ S i = (fun _ => 0) ∧ mF S i = (fun _ => 0) ∧ mD S i = (fun _ => 0) ∧ mR S i = fun _ => none
theorem ZF.up {N : Nat} {S : pv_M} (h : ZF N S) : ZF (N + 1) S := fun i hi => h i (Nat.le_of_succ_le hi)
theorem zf_wI {N r : Nat} {S : pv_M} {f : Nat → Int32} (hr : r < N) (h : ZF N S) : ZF N (wI S r f) := by
  intro i hi
  obtain ⟨a, b⟩ := h i hi
  exact ⟨by simp only [mI, wI]; rw [va_up_ne _ _ (by omega)]; exact a, b⟩
theorem zf_wJ {N r : Nat} {S : pv_M} {f : Nat → Int64} (hr : r < N) (h : ZF N S) : ZF N (wJ S r f) := by
  intro i hi
  obtain ⟨a, b, c⟩ := h i hi
  exact ⟨a, by simp only [mJ, wJ]; rw [va_up_ne _ _ (by omega)]; exact b, c⟩
theorem zf_wR {N r : Nat} {S : pv_M} {f : Nat → Option Nat} (hr : r < N) (h : ZF N S) : ZF N (wR S r f) := by
  intro i hi
  obtain ⟨a, b, c, d, e⟩ := h i hi
  exact ⟨a, b, c, d, by simp only [mR, wR]; rw [va_up_ne _ _ (by omega)]; exact e⟩
/-- a value's reference is to a cell that is there -/
def rlt (N : Nat) (v : Value) : Prop := match v with
  | .ref i => i < N
  | _ => True
def rls (N : Nat) : List Value → Prop
  | [] => True
  | v :: r => rlt N v ∧ rls N r
theorem rls.at {N : Nat} : ∀ {L : List Value}, rls N L → ∀ v ∈ L, rlt N v
  | [], _, _, hv => (List.not_mem_nil hv).elim
  | w :: r, h, v, hv => (List.mem_cons.mp hv).elim (fun e => by rw [e]; exact h.1) (fun e => rls.at h.2 v e)
theorem tv_agree {b N : Nat} {α β : Nat → Nat} (h : ∀ i, i < N → β i = α i) {v : Value} (hv : rlt N v) : tv b β v = tv b α v := by
  cases v with
  | ref i => simp only [tv, h i hv]
  | _ => rfl
theorem st_agree {b N : Nat} {α β : Nat → Nat} (h : ∀ i, i < N → β i = α i) {st : List Value} (hv : rls N st) : st.map (tv b β) = st.map (tv b α) := List.map_congr_left fun v hm => tv_agree h (hv.at v hm)
section NW
variable {x : Cx} {cc : ByteArray} {own : String} {N cs sl : Nat} {lv st : List Value} {S : pv_M} {pc : Nat}
theorem LR.agree {α β : Nat → Nat} {ls : Array Slot} (h : ∀ i, i < N → β i = α i) (hv : rls N lv) (h2 : LR x α lv ls) : LR x β lv ls := ⟨h2.1, h2.2.1, fun i v hi hu => by rw [tv_agree h (hv.at v (List.mem_of_getElem? hi))]; exact h2.2.2 i v hi hu⟩
theorem pv_wd_new {ay : Nat → ClassId} {α : Nat → Nat} {q : Nat} (hok : pv_ok N S) : pv_wd ay (va_up α N q) (N + 1) S = pv_wd ay α N S ++ [(q, pv_cell ay (va_up α N q) S N)] := by
  have h0 := pv_wd_congr (ay := ay) (α := va_up α N q) (β := α) (N := N) (S := S) (fun i hi => va_up_ne _ _ (Nat.ne_of_lt hi)) hok
  rw [← h0]
  unfold pv_wd
  rw [List.range_succ, List.map_append]
  simp [up_same]
theorem RW.new {α : Nat → Nat} {H H1 : Heap} {locs : List Loc} {q : Nat} {c : va_E} (h1 : RW x N α S H locs) (hN : xN x ≤ N) (hz : ZF N S) (hc : pv_cell (xy x) (va_up α N q) S N = c) (hP : va_P (xD x) pv_cl (pv_wd (xy x) α N S ++ [(q, c)]) H1) (hD : va_D (xA x) (pv_wd (xy x) α N S ++ [(q, c)])) (hS : va_S (xA x) (xs x).heap H1 locs) : RW x (N + 1) (va_up α N q) S H1 locs := by
  subst hc
  rw [← pv_wd_new h1.2.2.2.1] at hP hD
  refine ⟨hP, hD, hS, fun i hi k r hr => ?_, fun i hi => ?_⟩
  · by_cases h : i = N
    · subst h
      rw [(hz i (Nat.le_refl i)).2.2.2.2] at hr
      cases hr
    · exact Nat.lt_succ_of_lt (h1.2.2.2.1 i (by omega) k r hr)
  · rw [va_up_ne _ _ (by omega)]
    exact h1.2.2.2.2 i hi
def okT : FieldType → Bool
  | .byte => false
  | .char => false
  | .short => false
  | _ => true
theorem pv_v_z {α : Nat → Nat} {k : Nat} {ty : FieldType} (hz : ZF N S) (ht : okT ty = true) : pv_v α S N k ty = defaultValue ty := by
  obtain ⟨a, b, c, d, e⟩ := hz N (Nat.le_refl N)
  cases ty <;> first | exact (Bool.false_ne_true ht).elim | (simp only [pv_v, a, b, c, d, e, defaultValue, Option.map_none, va_rf])
/-- a class of which an object is made -/
def CNO (own : String) (idx ci : Nat) : Prop := ∃ q : vw_C, KO ci q ∧ Cond.classLink own idx q.1 ∈ TB ∧ Cond.instantiable q.1 q.2.2 ∈ TB ∧ Cond.initialized q.1 ∈ TB ∧ ∀ k, k < pv_nf ci → okT (pv_ft ci k) = true
theorem g_new (C : BX x cc own) {idx ci : Nat} (F : CNO own idx ci) (d : decode cc pc = .ok (.new idx, 3)) (hs : pv_sh N = .inl ci) (hN : xN x ≤ N) (hz : ZF N S) (r1 : rls N lv) (r2 : rls N st) (hc : cs + 1 ≤ (xR x).cells) (hsl : sl + pv_nf ci ≤ (xR x).slots) (k : GG x (N + 1) (cs + 1) (sl + pv_nf ci) lv (.ref N :: st) S (pc + 3)) : GG x N cs sl lv st S pc := by
  intro α H locs ls h1 h2
  obtain ⟨⟨Cn, T, n⟩, ⟨k1, k2, k3, k4, k5⟩, w1, w2, w3, hok⟩ := F
  simp only at k2
  subst k2
  refine va_new (ci := ci) C.1 C.2.1 C.2.2.2.1 k3 (pv_ft ci) k4 C.2.2.1 (C.2.2.2.1 _ w1) (C.2.2.2.1 _ w2) (C.2.2.2.1 _ w3) C.2.2.2.2.1 h1.1 h1.2.1 h1.2.2.1 C.2.2.2.2.2.1 k1 (fs := (List.range (pv_nf ci)).map fun j => defaultValue (pv_ft ci j)) (fun j hj => by simp [vp_V, hj]) hc hsl d (fun q H1 hP hD hS => ?_)
  have hcell : pv_cell (xy x) (va_up α N q) S N = .inr (ci, (List.range (pv_nf ci)).map fun j => defaultValue (pv_ft ci j)) := by
    rw [pv_cell_o hs]
    congr 2
    exact List.map_congr_left fun j hj => pv_v_z hz (hok j (List.mem_range.mp hj))
  have hag : ∀ i, i < N → va_up α N q i = α i := fun i hi => va_up_ne _ _ (Nat.ne_of_lt hi)
  have := k (va_up α N q) H1 locs ls (h1.new hN hz hcell hP hD hS) (h2.agree hag r1)
  rw [List.map_cons, st_agree hag r2] at this
  simp only [tv, up_same] at this
  exact this
theorem RA_inj {U : State} {c1 c2 : ClassId} {ty : FieldType} (h1 : va_RA U c1 ty) (h2 : va_RA U c2 ty) : c1 = c2 := by
  cases ty with
  | object C =>
    obtain ⟨_, _, _, _, _, a⟩ := h1
    obtain ⟨_, _, _, _, _, b⟩ := h2
    exact Option.some.inj (a.symm.trans b)
  | _ => exact Option.some.inj (h1.symm.trans h2)
theorem K_cls {D : va_G} {cl : List vw_C} {ay : Nat → ClassId} {U : State} {cA : ClassId} {ty : FieldType} {t : Nat} (h : va_K D cl (pv_tys ay ++ [(cA, ty)]) U) (ht : (pv_tys ay)[t]? = some (ay t, ty)) : cA = ay t := by
  have h1 := (h.2 7 (cA, ty) rfl).2
  have h2 := (h.2 t (ay t, ty) (by
    rw [List.getElem?_append_left (List.getElem?_eq_some_iff.mp ht).1]
    exact ht)).2
  exact RA_inj h1 h2
theorem g_newa (C : BX x cc own) {atype : ArrayType} {t n : Nat} {ty : FieldType} {i : Int32} {z : (Nat → Int32) ⊕ (Nat → Int64) ⊕ (Nat → UInt32) ⊕ (Nat → UInt64) ⊕ (Nat → Option Nat)} (d : decode cc pc = .ok (.newarray atype, 2)) (hty : newarray.typeOf atype = ty) (ht : (pv_tys (xy x))[t]? = some (xy x t, ty)) (hw : Cond.arrayClass ty ∈ TB) (ha : ∀ cA : ClassId, vp_cell cA (n, z) = arrV cA n (fun _ => defaultValue ty)) (hz1 : ∀ α, pv_arr α S N t = z) (hb : n * componentBytes ty ≤ 536870912) (hi : i = nI n) (hs : pv_sh N = .inr (t, n)) (hN : xN x ≤ N) (hz : ZF N S) (r1 : rls N lv) (r2 : rls N st) (hc : cs + 1 ≤ (xR x).cells) (hsl : sl + n ≤ (xR x).slots) (k : GG x (N + 1) (cs + 1) (sl + n) lv (.ref N :: st) S (pc + 2)) : GG x N cs sl lv (.int i :: st) S pc := by
  intro α H locs ls h1 h2
  subst hi
  have hlt := pv_small hs
  have hneg : ¬ nI n < 0 := nI_pos hlt
  subst hty
  refine va_newa (a0 := (n, z)) C.1 C.2.1 (C.2.2.2.1 _ hw) rfl C.2.2.2.2.1 h1.1 h1.2.1 h1.2.2.1 C.2.2.2.2.2.1 ha hneg (nI_clamp hlt) hb hc hsl d (fun q cA H1 hK hP hD hS => ?_)
  have hcl := K_cls hK ht
  subst hcl
  have hcell : pv_cell (xy x) (va_up α N q) S N = .inl (xy x t, n, z) := by rw [pv_cell_a hs, hz1]
  have hag : ∀ i, i < N → va_up α N q i = α i := fun i hi => va_up_ne _ _ (Nat.ne_of_lt hi)
  have := k (va_up α N q) H1 locs ls (h1.new hN hz hcell hP hD hS) (h2.agree hag r1)
  rw [List.map_cons, st_agree hag r2] at this
  simp only [tv, up_same] at this
  exact this
theorem g_newI (C : BX x cc own) (hw : Cond.arrayClass .int ∈ TB) {n : Nat} (d : decode cc pc = .ok (.newarray .int, 2)) (hb : n * componentBytes .int ≤ 536870912) (hs : pv_sh N = .inr (0, n)) (hN : xN x ≤ N) (hz : ZF N S) (r1 : rls N lv) (r2 : rls N st) (hc : cs + 1 ≤ (xR x).cells) (hsl : sl + n ≤ (xR x).slots) (k : GG x (N + 1) (cs + 1) (sl + n) lv (.ref N :: st) S (pc + 2)) : GG x N cs sl lv (.int (nI n) :: st) S pc :=
  g_newa (z := .inl fun _ => 0) C d rfl rfl hw (fun _ => rfl) (fun α => by simp only [pv_arr, (hz N (Nat.le_refl N)).1]) hb rfl hs hN hz r1 r2 hc hsl k
theorem g_newZ (C : BX x cc own) (hw : Cond.arrayClass .boolean ∈ TB) {n : Nat} (d : decode cc pc = .ok (.newarray .boolean, 2)) (hb : n * componentBytes .boolean ≤ 536870912) (hs : pv_sh N = .inr (4, n)) (hN : xN x ≤ N) (hz : ZF N S) (r1 : rls N lv) (r2 : rls N st) (hc : cs + 1 ≤ (xR x).cells) (hsl : sl + n ≤ (xR x).slots) (k : GG x (N + 1) (cs + 1) (sl + n) lv (.ref N :: st) S (pc + 2)) : GG x N cs sl lv (.int (nI n) :: st) S pc :=
  g_newa (z := .inl fun _ => 0) C d rfl rfl hw (fun _ => rfl) (fun α => by simp only [pv_arr, (hz N (Nat.le_refl N)).1]) hb rfl hs hN hz r1 r2 hc hsl k
theorem g_newJ (C : BX x cc own) (hw : Cond.arrayClass .long ∈ TB) {n : Nat} (d : decode cc pc = .ok (.newarray .long, 2)) (hb : n * componentBytes .long ≤ 536870912) (hs : pv_sh N = .inr (1, n)) (hN : xN x ≤ N) (hz : ZF N S) (r1 : rls N lv) (r2 : rls N st) (hc : cs + 1 ≤ (xR x).cells) (hsl : sl + n ≤ (xR x).slots) (k : GG x (N + 1) (cs + 1) (sl + n) lv (.ref N :: st) S (pc + 2)) : GG x N cs sl lv (.int (nI n) :: st) S pc :=
  g_newa (z := .inr (.inl fun _ => 0)) C d rfl rfl hw (fun _ => rfl) (fun α => by simp only [pv_arr, (hz N (Nat.le_refl N)).2.1]) hb rfl hs hN hz r1 r2 hc hsl k
theorem g_newF (C : BX x cc own) (hw : Cond.arrayClass .float ∈ TB) {n : Nat} (d : decode cc pc = .ok (.newarray .float, 2)) (hb : n * componentBytes .float ≤ 536870912) (hs : pv_sh N = .inr (2, n)) (hN : xN x ≤ N) (hz : ZF N S) (r1 : rls N lv) (r2 : rls N st) (hc : cs + 1 ≤ (xR x).cells) (hsl : sl + n ≤ (xR x).slots) (k : GG x (N + 1) (cs + 1) (sl + n) lv (.ref N :: st) S (pc + 2)) : GG x N cs sl lv (.int (nI n) :: st) S pc :=
  g_newa (z := .inr (.inr (.inl fun _ => 0))) C d rfl rfl hw (fun _ => rfl) (fun α => by simp only [pv_arr, (hz N (Nat.le_refl N)).2.2.1]) hb rfl hs hN hz r1 r2 hc hsl k
theorem g_newD (C : BX x cc own) (hw : Cond.arrayClass .double ∈ TB) {n : Nat} (d : decode cc pc = .ok (.newarray .double, 2)) (hb : n * componentBytes .double ≤ 536870912) (hs : pv_sh N = .inr (3, n)) (hN : xN x ≤ N) (hz : ZF N S) (r1 : rls N lv) (r2 : rls N st) (hc : cs + 1 ≤ (xR x).cells) (hsl : sl + n ≤ (xR x).slots) (k : GG x (N + 1) (cs + 1) (sl + n) lv (.ref N :: st) S (pc + 2)) : GG x N cs sl lv (.int (nI n) :: st) S pc :=
  g_newa (z := .inr (.inr (.inr (.inl fun _ => 0)))) C d rfl rfl hw (fun _ => rfl) (fun α => by simp only [pv_arr, (hz N (Nat.le_refl N)).2.2.2.1]) hb rfl hs hN hz r1 r2 hc hsl k
theorem g_anewa (C : BX x cc own) {t n idx : Nat} {Cn : String} (hw : Cond.classLink own idx Cn ∈ TB) (hover : va_AO Cn (xs x)) (ht5 : t = 5 ∨ t = 6) (ht : (pv_tys (xy x))[t]? = some (xy x t, .object Cn)) (d : decode cc pc = .ok (.anewarray idx, 3)) (hb : n * 4 ≤ 536870912) (hs : pv_sh N = .inr (t, n)) (hN : xN x ≤ N) (hz : ZF N S) (r1 : rls N lv) (r2 : rls N st) (hc : cs + 1 ≤ (xR x).cells) (hsl : sl + n ≤ (xR x).slots) (k : GG x (N + 1) (cs + 1) (sl + n) lv (.ref N :: st) S (pc + 3)) : GG x N cs sl lv (.int (nI n) :: st) S pc := by
  intro α H locs ls h1 h2
  have hlt := pv_small hs
  have hneg : ¬ nI n < 0 := nI_pos hlt
  refine va_newq C.1 C.2.1 C.2.2.1 (C.2.2.2.1 _ hw) hover C.2.2.2.2.1 h1.1 h1.2.1 h1.2.2.1 C.2.2.2.2.2.1 hneg (nI_clamp hlt) hb hc hsl d (fun q cA H1 hK hP hD hS => ?_)
  have hcl := K_cls hK ht
  subst hcl
  have hcell : pv_cell (xy x) (va_up α N q) S N = .inl (xy x t, n, .inr (.inr (.inr (.inr fun _ => none)))) := by
    rw [pv_cell_a hs]
    rcases ht5 with rfl | rfl <;> simp only [pv_arr, (hz N (Nat.le_refl N)).2.2.2.2, Option.map_none]
  have hag : ∀ i, i < N → va_up α N q i = α i := fun i hi => va_up_ne _ _ (Nat.ne_of_lt hi)
  have := k (va_up α N q) H1 locs ls (h1.new hN hz hcell hP hD hS) (h2.agree hag r1)
  rw [List.map_cons, st_agree hag r2] at this
  simp only [tv, up_same] at this
  exact this
theorem g_aast (C : BX x cc own) {r n j t ci v : Nat} {q : vw_C} (d : decode cc pc = .ok (.aastore, 1)) (hq : pv_cl[ci]? = some q) (ht : (pv_tys (xy x))[t]? = some (xy x t, .object q.1)) (ht5 : t = 5 ∨ t = 6) (hs : pv_sh r = .inr (t, n)) (hr : r < N) (hv : v < N) (hsv : pv_sh v = .inl ci) (hj : j < n) (k : GG x N cs sl lv st (wR S r (va_up (mR S r) j (some v))) (pc + 1)) : GG x N cs sl lv (.ref v :: .int (nI j) :: .ref r :: st) S pc := by
  intro α H locs ls h1 h2
  have hcell : ∀ (S : pv_M), pv_cell (xy x) α S r = .inl (xy x t, n, .inr (.inr (.inr (.inr fun k => (mR S r k).map α)))) := by
    intro S
    rw [pv_cell_a hs]
    rcases ht5 with rfl | rfl <;> rfl
  have ha : (pv_wd (xy x) α N S)[r]? = some (α r, .inl (xy x t, n, .inr (.inr (.inr (.inr fun k => (mR S r k).map α))))) := by rw [pv_wd_at _ _ _ hr, hcell]
  refine va_astq C.1 C.2.1 C.2.2.2.2.1 h1.1 h1.2.1 h1.2.2.1 r t v ci (v := α v) ha ht (pv_wd_o hv hsv) hq (vp_in_nI hj (pv_small hs)) d (fun H1 locs1 hP hD hS => ?_)
  rw [nI_clamp (Nat.lt_trans hj (pv_small hs))] at hP hD
  refine k α H1 locs1 ls (h1.set hr (pv_cell_wR _ _ _ _ _) ?_ (pv_ok_wR hv h1.2.2.2.1) hP hD hS) h2
  rw [hcell]
  congr 7
  funext m
  simp only [mR, wR, up_same]
  by_cases hm : m = j
  · subst hm
    simp [va_up]
  · simp [va_up, hm]
/-- a final field of the very class -/
def FF (own : String) (idx ci k : Nat) : Prop := ∃ q : vw_C, KO ci q ∧ k < q.2.2 ∧ Cond.fieldLink own idx (q.2.1 k).1 (q.2.1 k).2.1 (q.2.1 k).2.2.1 ∈ TB ∧ (q.2.1 k).2.2.2 = true ∧ (q.2.1 k).1 = own
theorem g_putRF (C : BX x cc own) (hin : x.2.2.1.1.name = "<init>") {idx ci kk r q : Nat} (F : FF own idx ci kk) (d : decode cc pc = .ok (.putfield idx, 3)) (hs : pv_sh r = .inl ci) (hr : r < N) (hq : q < N) (ht : (∃ cn, pv_ft ci kk = .object cn) ∨ ∃ ty, pv_ft ci kk = .array ty) (k : GG x N cs sl lv st (wR S r (va_up (mR S r) kk (some q))) (pc + 3)) : GG x N cs sl lv (.ref q :: .ref r :: st) S pc := by
  intro α H locs ls h1 h2
  obtain ⟨⟨Cn, T, n⟩, ⟨k1, k2, k3, k4, k5⟩, hk, hl, hfin, hown⟩ := F
  have hlen : kk < ((List.range (pv_nf ci)).map fun j => pv_v α S r j (pv_ft ci j)).length := by
    simp only [List.length_map, List.length_range]
    rw [← k2]; exact hk
  have hc : pv_cell (xy x) α (wR S r (va_up (mR S r) kk (some q))) r = .inr (ci, ((List.range (pv_nf ci)).map fun j => pv_v α S r j (pv_ft ci j)).set kk (.ref (α q))) := by
    rw [pv_cell_o hs, pv_fs (S' := wR S r (va_up (mR S r) kk (some q))) (v := .ref (α q)) (fun j hj => pv_v_wR hj) (by rcases ht with ⟨cn, ht⟩ | ⟨ty, ht⟩ <;> rw [ht] <;> simp [pv_v, mR, wR, va_up, va_rf])]
  exact va_putF C.1 C.2.1 C.2.2.2.1 k3 (pv_ft ci) k4 k5 C.2.2.1 C.2.2.2.2.1 h1.1 h1.2.1 h1.2.2.1 r (pv_wd_o hr hs) k1 kk hk (C.2.2.2.1 _ hl) (fun _ h9 => h9) hfin hin hown (k4 kk hk) (by rcases ht with ⟨cn, ht⟩ | ⟨ty, ht⟩ <;> rw [ht] <;> rfl) (by rcases ht with ⟨cn, ht⟩ | ⟨ty, ht⟩ <;> rw [ht] <;> rfl) hlen d (fun H1 locs1 hP hD hS => k α H1 locs1 ls (h1.set hr (pv_cell_wR _ _ _ _ _) hc (pv_ok_wR hq h1.2.2.2.1) hP hD hS) h2)
theorem g_oi (C : BX x cc own) {idx r : Nat} (w1 : Cond.methodLink own idx Lib.objectInit ∈ TB) (w2 : Cond.instanceMethod Lib.objectInit ∈ TB) (w3 : Cond.code Lib.objectInit ⟨#[0xb1]⟩ 1 none ∈ TB) (d : decode cc pc = .ok (.invokespecial idx, 3)) (hf : 1 ≤ (xR x).frames) (hl : 12 ≤ (xR x).locals) (k : GG x N cs sl lv [] S (pc + 3)) : GG x N cs sl lv [.ref r] S pc := by
  intro α H locs ls h1 h2
  exact W.objInit C.1 C.2.1 C.2.2.1 (C.2.2.2.1 _ w1) (C.2.2.2.1 _ w2) (C.2.2.2.1 _ w3) rfl h2.1 rfl d hf hl (k α H locs ls h1 h2)
end NW
/-! constructors: contracts under which cells come -/
def QcN (D : va_G) (ay : Nat → ClassId) (α : Nat → Nat) (N N' : Nat) (A : Nat → Prop) (post : pv_M → Prop) : Array Value → State → Outcome → State → Prop := fun _ st o t =>
  (∃ (β : Nat → Nat) (S' : pv_M), o = .returned none ∧ (∀ i, i < N → β i = α i) ∧ post S' ∧ va_P D pv_cl (pv_wd ay β N' S') t.heap ∧ va_D A (pv_wd ay β N' S') ∧ pv_ok N' S') ∧ va_F A st t
def mtI (l : Launch) (M : Me) (N N' : Nat) (As : List Value) (S : pv_M) (post : pv_M → Prop) : Prop :=
  ∀ (D : va_G) (ay : Nat → ClassId) (b : Nat) (α : Nat → Nat) (sz : Nat), Met l M.y M.ws M.rm (va_Pc (As.map (tv b α)) (fun U => U.heap.size = sz ∧ PU D ay α N S U)) (QcN D ay α N N' (va_A (pv_wd ay α N S) sz) post) M.rm.cells M.rm.slots (va_A (pv_wd ay α N S) sz)
def EXN (x : Cx) (N' : Nat) (post : pv_M → Prop) : Prop :=
  x.2.2.1.1.sig.returnType = none ∧ x.2.2.1.1.locks = false ∧ xQ x = MQ x.2.1.2.2.2 (QcN (xD x) (xy x) (xal x) (xN x) N' (xA x) post) (xa x) (xs x) (xR x).cells (xR x).slots (xA x)
def IO (own : String) (idx : Nat) (M : Me) (n : Nat) : Prop := (Cond.methodLink own idx M.y ∈ TB ∨ ∃ host, Cond.methodLinkNest own idx M.y host ∈ NB) ∧ (∀ w ∈ ([.instanceMethod M.y, .initialized M.y.cls, .code M.y M.cc M.nL M.ret] : List Cond), w ∈ TB) ∧ M.ret = none ∧ M.y.name = "<init>" ∧ (M.y.cls ≠ "java/lang/invoke/MethodHandle" ∧ M.y.cls ≠ "java/lang/invoke/VarHandle" ∧ (parseMethodDescriptor M.y.desc).map (fun d => d.parameters.length) = some n)
section CN
variable {x : Cx} {cc : ByteArray} {own : String} {N cs sl : Nat} {lv st : List Value} {S : pv_M} {pc : Nat}
theorem run_goN {p : Program} {l : Launch} {e : Env} {R : Room} {s : State} {m : MethodId} {args : Array Value} {below : List Frame} {meth : Method} {c : Code} {H : Heap} {locs : List Loc} {cells slots : Nat} {Q : State → Prop} {mc ms : Nat} {ls : Array Slot} {st0 rest : List Value} {a : Array Value} {A0 A1 : Nat → Prop} {H0 : Heap} {free : Addr → Prop} {D : va_G} {ay : Nat → ClassId} {α : Nat → Nat} {N' : Nat} {post : pv_M → Prop}
    (hr : va_Run p l e R s m args below meth c H locs cells slots mc ms (F0 m pc ls st0) rest (QcN D ay α N N' A1 post a) free) (hS : va_S A0 H0 H locs) (hA : ∀ q, A1 q → A0 q) (hf : ∀ q, free q → A0 q)
    (kk : ∀ (β : Nat → Nat) (S' : pv_M) (H1 : Heap) (locs1 : List Loc), (∀ i, i < N → β i = α i) → post S' → va_P D pv_cl (pv_wd ay β N' S') H1 → va_D A1 (pv_wd ay β N' S') → pv_ok N' S' → va_S A0 H0 H1 locs1 → W p l e R s m args below meth c H1 locs1 (cells + mc) (slots + ms) Q (F0 m (pc + 3) ls rest)) : W p l e R s m args below meth c H locs cells slots Q (F0 m pc ls st0) := by
  intro T hT X
  obtain ⟨v, st₀, t, T', L, h0, X', hL, e1, e2, ⟨⟨β, S', hv, hag, hp, hP, hD, hok⟩, hz, hk⟩, st⟩ := hr T hT X
  cases hv
  rw [h0] at hz hk
  obtain ⟨t2, a1, b1⟩ := kk β S' T'.heap (locs ++ L) hag hp (by rw [e1]; exact hP) hD hok
    ⟨Nat.le_trans hS.1 (by rw [e1]; exact hz), fun q h1 h2 => by rw [e1, hk q (Nat.lt_of_lt_of_le h1 hS.1) (fun z => h2 (hA q z))]; exact hS.2.1 q h1 h2, fun q hq => by
      rcases List.mem_append.mp hq with h | h
      · exact hS.2.2 q h
      · exact hf _ (hL q h)⟩ T' rfl X'
  exact ⟨t2, st t2 a1, b1⟩
theorem g_callI (C : BX x cc own) {M : Me} {idx r n N' : Nat} {As stk : List Value} {post : pv_M → Prop} (hM : mtI x.1.2.1 M N N' (.ref r :: As) S post) (L : IO own idx M n) (d : decode cc pc = .ok (.invokespecial idx, 3)) (hstk : stk = As.reverse ++ .ref r :: st) (hN : xN x ≤ N) (r1 : rls N lv) (r2 : rls N st) (hn : As.length = n) (hrm : rmOk M x cs sl) (hst : (st.map fun v => v.category).sum ≤ 8)
    (k : ∀ (S' : pv_M), post S' → GG x N' (cs + M.rm.cells) (sl + M.rm.slots) lv st S' (pc + 3)) : GG x N cs sl lv stk S pc := by
  intro α H locs ls h1 h2
  obtain ⟨hl, hw, hret, hnm, hd⟩ := L
  have w1 := hw (.instanceMethod M.y) (by simp)
  have w2 := hw (.initialized M.y.cls) (by simp)
  have w3 := hw (.code M.y M.cc M.nL M.ret) (by simp)
  have hG : GoodIn TB M.ws := tb_gi (Me.gi w3)
  have e0 : stk.map (tv (xb x) α) = (As.map (tv (xb x) α)).reverse ++ .ref (α r) :: st.map (tv (xb x) α) := by
    rw [hstk, List.map_append, List.map_reverse]
    rfl
  have hws : M.ws = Cond.code M.y M.cc M.nL none :: TB := by
    show Cond.code M.y M.cc M.nL M.ret :: TB = _
    rw [hret]
  have fin : ∀ (β : Nat → Nat) (S' : pv_M) (H1 : Heap) (locs1 : List Loc), (∀ i, i < N → β i = α i) → post S' → va_P (xD x) pv_cl (pv_wd (xy x) β N' S') H1 → va_D (va_A (pv_wd (xy x) α N S) H.size) (pv_wd (xy x) β N' S') → pv_ok N' S' → va_S (xA x) (xs x).heap H1 locs1 → WW x H1 locs1 (cs + M.rm.cells) (sl + M.rm.slots) (F0 (xm x) (pc + 3) ls (st.map (tv (xb x) α))) := by
    intro β S' H1 locs1 hag hp hP hD hok hS
    rw [← st_agree hag r2]
    exact k S' hp β H1 locs1 ls ⟨hP, hD.weaken (fun _ _ _ h => h1.A C _ h), hS, hok, fun i hi => (hag i (Nat.lt_of_lt_of_le hi hN)).trans (h1.2.2.2.2 i hi)⟩ (h2.agree hag r1)
  rcases hl with hl | ⟨host, hl⟩
  · exact run_goN (N := N) (va_runI (b := α r) (As := As.map (tv (xb x) α)) (rest := st.map (tv (xb x) α)) ⟨C.1, C.2.1, h2.1.symm, C.2.2.1, C.2.2.2.1⟩ (hM (xD x) (xy x) (xb x) α H.size) (cwI n C.2.2.2.1 hG hws rfl rfl (C.2.2.2.1 _ w2) (C.2.2.2.1 _ hl) (C.2.2.2.1 _ w1) hnm hd hrm.1) ⟨PU.blind _ _ _ _ _ _ _, fun U hU hW => ⟨rfl, h1.PU C hU hW⟩⟩ rfl (by rw [List.length_map]; exact hn) rfl e0 (lv_room (by rw [tv_cats]; exact hst)) d hrm.2) h1.2.2.1 (h1.A C) (h1.A C) fin
  · exact run_goN (N := N) (va_runIN (b := α r) (As := As.map (tv (xb x) α)) (rest := st.map (tv (xb x) α)) ⟨C.1, C.2.1, h2.1.symm, C.2.2.1, C.2.2.2.1⟩ (hM (xD x) (xy x) (xb x) α H.size) ⟨va_cnB n C.2.2.2.1 hG hws rfl rfl (C.2.2.2.2.2.2.2.2.2.1 _ hl) (C.2.2.2.1 _ w2) hd hrm.1, hnm, C.2.2.2.1 _ w1⟩ ⟨PU.blind _ _ _ _ _ _ _, fun U hU hW => ⟨rfl, h1.PU C hU hW⟩⟩ rfl (by rw [List.length_map]; exact hn) rfl e0 (lv_room (by rw [tv_cats]; exact hst)) d hrm.2) h1.2.2.1 (h1.A C) (h1.A C) fin
theorem g_vretN {post : pv_M → Prop} (C : BX x cc own) (E : EXN x N post) (d : decode cc pc = .ok (.return_, 1)) (hc : cs ≤ (xR x).cells) (hs : sl ≤ (xR x).slots) (h : post S) : GG x N cs sl lv [] S pc := by
  intro α H locs ls h1 h2
  obtain ⟨e1, e2, e3⟩ := E
  show W _ _ _ _ _ _ _ _ _ _ _ _ _ _ (xQ x) _
  rw [e3]
  refine W.widen hc hs ?_
  exact W.vret (hlocks := e2) C.1 C.2.1 e1 (fun t ht hW => ⟨⟨α, S, rfl, h1.2.2.2.2, h, by rw [ht]; exact h1.1, h1.2.1, h1.2.2.2.1⟩, h1.2.2.1.F ht⟩) h1.2.2.1.2.2 d
end CN
theorem mtI_of {l : Launch} {M : Me} {N N' : Nat} {As : List Value} {S : pv_M} {post : pv_M → Prop} (hy : plainName M.y.cls = true) (hlen : (lg_sl As).length ≤ M.nL) (hret : M.ret = none)
    (body : ∀ x : Cx, x.1.2.1 = l → xR x = M.rm → (xc x).maxLocals = M.nL → xN x = N → x.2.2.1.1.name = M.y.name → BX x M.cc M.y.cls → EXN x N' post → GG x N 0 0 (lvN M.nL As) [] S 0) : mtI l M N N' As S post := by
  intro D ay b α sz
  refine Met.ofW (cc := M.cc) (maxL := M.nL) (ret := M.ret) hy rfl ?_
  intro p e s m args below meth c s₁ B hml hv
  obtain ⟨rfl, hsz, hP, hK, hD, hok, hBU⟩ := hv
  subst hsz
  have hts := atoms_spec (ws := M.ws) B.pre
  have hown : s.vm.findClass M.y.cls = some m.cls := findClass_of_methodNamed B.named
  have hl := lv_entry (As.map (tv b α)) (n := M.nL) (by rw [lg_sl_tv]; exact hlen)
  rw [lg_entry_eq]
  generalize (lg_sl (As.map (tv b α)) ++ List.replicate (M.nL - (lg_sl (As.map (tv b α))).length) Slot.unset).toArray = ls at hl ⊢
  have key := body ((p, l, e, (headSpec M.ws M.rm).room), (s, m, (As.map (tv b α)).toArray, below), (meth, c), (D, ay, va_A (pv_wd ay α N S) s.heap.size, α, N), (b, 0, fun _ => 0), MQ below (QcN D ay α N N' (va_A (pv_wd ay α N S) s.heap.size) post) (As.map (tv b α)).toArray s M.rm.cells M.rm.slots (va_A (pv_wd ay α N S) s.heap.size)) rfl rfl hml rfl (name_of_methodNamed B.named B.method).1
    ⟨B.exec, B.bytes, hown, fun w hw => hts w (List.mem_cons_of_mem _ hw), hK, fun q hq => Or.inr hq, hBU⟩ ⟨B.returns.trans hret, B.notSynchronized, rfl⟩
  refine key α s.heap [] ls ⟨hP, hD.self, va_S.rf, hok, fun _ _ => rfl⟩ ⟨hl.1.trans hml.symm, hl.2.1, fun i v hi hv => ?_⟩
  refine hl.2.2 (i, tv b α v) ?_
  have h9 : (lv0 As)[i]? = some v := by
    unfold lvN at hi
    by_cases hlt : i < (lv0 As).length
    · rw [List.getElem?_append_left hlt] at hi
      exact hi
    · rw [List.getElem?_append_right (Nat.not_lt.mp hlt)] at hi
      have := List.mem_of_getElem? hi
      rw [List.mem_replicate] at this
      exact absurd this.2 hv
  have := lv0_at b α As 0 i v h9 hv
  rwa [Nat.zero_add] at this
