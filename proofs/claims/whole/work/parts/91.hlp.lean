/-! THE LAW'S HELPERS: static methods with a table of their own, that call one method of the class and catch what it throws -/
abbrev MeW : Type := Me × List (Nat × Nat × Nat × Nat)
abbrev MeW.ws (M : MeW) : List Cond := .codeWith M.1.y M.1.cc M.1.nL M.1.ret M.2 :: TB
abbrev nIB : String := "java/lang/IndexOutOfBoundsException"
abbrev nIA : String := "java/lang/IllegalArgumentException"
abbrev nIS : String := "java/lang/IllegalStateException"
abbrev nNS : String := "java/util/NoSuchElementException"
abbrev nAR : String := "java/lang/ArithmeticException"
/-- what is thrown isn't of these other classes -/
def ncl : List (String × String) := [(nIA, nIB), (nIS, nIB), (nIB, nIA), (nIS, nIA), (nNS, nIB), (nIS, nNS), (nIB, nIS), (nAR, nIA), (nAR, nIS), (nAR, nIB)]
def NCs (U : State) : Prop := ∀ q ∈ ncl, va_Nc q.1 q.2 U
def mtW (l : Launch) (M : MeW) (N : Nat) (As : List Value) (S : pv_M) (post : Option Value → pv_M → Prop) : Prop :=
  ∀ (D : va_G) (ay : Nat → ClassId) (b : Nat) (α : Nat → Nat) (sz : Nat), Met l M.1.y M.ws M.1.rm (va_Pc (As.map (tv b α)) (fun U => U.heap.size = sz ∧ PU D ay α N S U ∧ NCs U)) (QcX D ay b α N (va_A (pv_wd ay α N S) sz) post) M.1.rm.cells M.1.rm.slots (va_A (pv_wd ay α N S) sz)
theorem PUW.blind (D : va_G) (ay : Nat → ClassId) (α : Nat → Nat) (N : Nat) (S : pv_M) (av : List Value) (sz : Nat) : FrameBlind (va_Pc av (fun U => U.heap.size = sz ∧ PU D ay α N S U ∧ NCs U)) := by
  intro a U g mk q
  obtain ⟨q0, q1, q2, q3⟩ := q
  obtain ⟨z0, z1, z2⟩ := PU.blind D ay α N S av sz a U g mk ⟨q0, q1, q2⟩
  exact ⟨z0, z1, z2, fun p hp => va_Nc.moved (u := U) (U := U.calling g mk a) (Vm.Alike.refl U.vm) (q3 p hp)⟩
def SOW (own : String) (idx : Nat) (M : MeW) (n : Nat) : Prop := (∀ w ∈ ([.methodLink own idx M.1.y, .static M.1.y, .initialized M.1.y.cls, .codeWith M.1.y M.1.cc M.1.nL M.1.ret M.2] : List Cond), w ∈ TB) ∧ (M.1.y.cls ≠ "java/lang/invoke/MethodHandle" ∧ M.1.y.cls ≠ "java/lang/invoke/VarHandle" ∧ (parseMethodDescriptor M.1.y.desc).map (fun d => d.parameters.length) = some n)
section HW
variable {x : Cx} {cc : ByteArray} {own : String} {N cs sl : Nat} {lv st : List Value} {S : pv_M} {pc : Nat}
theorem g_callSW (C : BX x cc own) (hnc : NCs (xs x)) {M : MeW} {idx n : Nat} {As stk : List Value} {post : Option Value → pv_M → Prop} (hM : mtW x.1.2.1 M N As S post) (L : SOW own idx M n) (d : decode cc pc = .ok (.invokestatic idx, 3)) (hstk : stk = As.reverse ++ st) (hn : As.length = n) (hrm : rmOk M.1 x cs sl) (hst : (st.map fun v => v.category).sum ≤ 8)
    (k : ∀ (v : Option Value) (S' : pv_M), post v S' → GG x N (cs + M.1.rm.cells) (sl + M.1.rm.slots) lv (v.toList ++ st) S' (pc + 3)) : GG x N cs sl lv stk S pc := by
  intro α H locs ls h1 h2
  obtain ⟨hw, hd⟩ := L
  have w4 := hw (.codeWith M.1.y M.1.cc M.1.nL M.1.ret M.2) (by simp)
  have hG : GoodIn TB (va_wsS own idx M.1.y M.ws) := tb_gi fun w h => by
    rcases List.mem_append.mp h with h | h
    · exact hw w (by simp only [List.mem_cons, List.not_mem_nil, or_false] at h ⊢; rcases h with h | h | h <;> simp [h])
    · exact (List.mem_cons.mp h).elim (fun e => by rw [e]; exact w4) id
  have e0 : stk.map (tv (xb x) α) = (As.map (tv (xb x) α)).reverse ++ st.map (tv (xb x) α) := by
    rw [hstk, List.map_append, List.map_reverse]
  refine run_go (N := N) (D := xD x) (ay := xy x) (b := xb x) (α := α) (post := post) (vx_runSW (hh := M.2) (As := As.map (tv (xb x) α)) (rest := st.map (tv (xb x) α)) ⟨C.1, C.2.1, h2.1.symm, C.2.2.1, C.2.2.2.1⟩ (hM (xD x) (xy x) (xb x) α H.size) (vx_cwSW n C.2.2.2.1 hG rfl rfl rfl hd hrm.1) ⟨PUW.blind _ _ _ _ _ _ _, fun U hU hW => ⟨rfl, (h1.PU C hU hW).1, (h1.PU C hU hW).2, fun p hp => va_Nc.moved hW.alike (hnc p hp)⟩⟩ rfl (by rw [List.length_map]; exact hn) rfl e0 (lv_room (by rw [tv_cats]; exact hst)) d hrm.2) h1.2.2.1 (h1.A C) (h1.A C) (fun v S' H1 locs1 hp hP hD hok hS => ?_)
  have e1 : (v.map (tv (xb x) α)).toList ++ st.map (tv (xb x) α) = (v.toList ++ st).map (tv (xb x) α) := by cases v <;> simp
  rw [e1]
  exact k v S' hp α H1 locs1 ls ⟨hP, hD.weaken (fun _ _ _ h => h1.A C _ h), hS, hok, h1.2.2.2.2⟩ h2
theorem LR.st1u {α : Nat → Nat} {ls' : Array Slot} {i q : Nat} (h : lv_has ls' (xc x).maxLocals ((i, .ref q) :: (lp (xb x) α lv).filter (fun q => !(q.1 == i) && !(q.1 + 1 == i && q.2.category == 2)))) : LR x α (sv lv i unk) ls' := by
  refine ⟨h.1, h.2.1, fun j w hj hw => ?_⟩
  rcases sv_at hj hw with ⟨rfl, rfl⟩ | ⟨h1, h2, h3⟩
  · exact absurd rfl hw
  · refine h.2.2 (j, tv (xb x) α w) (List.mem_cons_of_mem _ (List.mem_filter.mpr ⟨lp_mem.mpr ⟨w, h2, hw, rfl⟩, ?_⟩))
    simp only [Bool.and_eq_true, Bool.not_eq_true', beq_eq_false_iff_ne, ne_eq, Bool.and_eq_false_iff]
    refine ⟨h1, ?_⟩
    by_cases q : j + 1 = i
    · exact Or.inr (fun z => h3 ⟨q, (tv_cat (xb x) α w).symm.trans z⟩)
    · exact Or.inl q
/-- a call that throws E, caught by the row z of this method's table -/
theorem g_catch0 (C : BX x cc own) (hnc : NCs (xs x)) {M : Me} {E : String} {px : pv_M → Prop} {idx ci r n : Nat} {As stk : List Value} {hh : List (Nat × Nat × Nat × Nat)} (hT : (xc x).exceptionTable.toList = tableOf hh) (hM : mth x.1.2.1 M N (.ref r :: As) S E px) (L : VO own idx ci M n) (d : decode cc pc = .ok (.invokevirtual idx, 3)) (hstk : stk = As.reverse ++ .ref r :: st) (hs : pv_sh r = .inl ci) (hr : r < N) (hn : As.length = n) (hrm : rmOk M x cs sl) (hst : (st.map fun v => v.category).sum ≤ 8)
    (pre suf : List ExceptionTableEntry) (z : ExceptionTableEntry) {name : String} (hsplit : tableOf hh = pre ++ z :: suf) (hpass : ∀ y ∈ pre, y.catchType ≠ 0 ∧ ∃ nm : String, Cond.classLink own y.catchType nm ∈ TB ∧ (E, nm) ∈ ncl) (hx : covers z pc = true) (h0 : z.catchType ≠ 0) (hlink : Cond.classLink own z.catchType name ∈ TB) (hcast : Cond.castable E name ∈ NB)
    (k : ∀ (S' : pv_M), px S' → ∀ (α : Nat → Nat) (H : Heap) (locs : List Loc) (ls : Array Slot) (q : Nat), RW x N α S' H locs → LR x α lv ls → WW x H locs (cs + M.rm.cells) (sl + M.rm.slots) (F0 (xm x) z.handlerPc ls [.ref q])) : GG x N cs sl lv stk S pc := by
  intro α H locs ls h1 h2
  obtain ⟨⟨Cn, T, nn⟩, hcl, hw, hd⟩ := L
  have hG : GoodIn TB (wsV own idx Cn M.y M.ws) := tb_gi fun w h => by
    rcases List.mem_append.mp h with h | h
    · exact hw w (by simp only [List.mem_cons, List.not_mem_nil, or_false] at h ⊢; rcases h with h | h | h | h <;> simp [h])
    · exact Me.gi (hw _ (by simp)) w h
  have e0 : stk.map (tv (xb x) α) = (As.map (tv (xb x) α)).reverse ++ .ref (α r) :: st.map (tv (xb x) α) := by
    rw [hstk, List.map_append, List.map_reverse]
    rfl
  have hr := vx_runV (R := xR x) (H := H) (locs := locs) (cells := cs) (slots := sl) (p := x.1.1) (e := x.1.2.2.1) (below := x.2.1.2.2.2) (meth := x.2.2.1.1) (C := Cn) (b := α r) (As := As.map (tv (xb x) α)) (rest := st.map (tv (xb x) α)) (g := F0 (xm x) pc ls (stk.map (tv (xb x) α))) ⟨C.1, C.2.1, h2.1.symm, C.2.2.1, C.2.2.2.1⟩ (hM (xD x) (xy x) (xb x) α H.size) (cwV n C.2.2.2.1 hG rfl rfl rfl hd hrm.1) ⟨PU.blind _ _ _ _ _ _ _, va_recv C.2.2.2.2.1 h1.1 hcl (pv_wd_o hr hs), fun U hU hW => ⟨rfl, h1.PU C hU hW⟩⟩ rfl (by rw [List.length_map]; exact hn) rfl e0 (lv_room (by rw [tv_cats]; exact hst)) d hrm.2
  intro T0 hT0 XX
  rcases hr T0 hT0 XX with ⟨v, st₀, t, T', L, h0', X', hL, g1, g2, hF, st⟩ | ⟨q, st₀, t, T', L, E', ce, h0', X', hL, g1, g2, hx', hce, hcv, hcl', st⟩
  · exact hF.elim
  · obtain ⟨rfl, ⟨S', p1, p2, p3, p4⟩, hF⟩ := hx'
    obtain ⟨k1, k2, k3'⟩ := vx_keep (A0 := xA x) (H0 := (xs x).heap) h0' g1 h1.2.2.1 (fun q _ h => h1.A C q h) (fun q h => h1.A C q h) hL hF
    have h3 : RW x N α S' T'.heap (locs ++ L) := ⟨by rw [g1]; exact p2, p3.weaken (fun _ _ _ h => h1.A C _ h), k3', p4, h1.2.2.2.2⟩
    obtain ⟨t2, a1, b1⟩ := vx_catch (pc := pc) (rest := _) (hown := C.2.2.1) pre z suf (by rw [hT]; exact hsplit) (fun y hy => by
        obtain ⟨y1, nm, y2, y3⟩ := hpass y hy
        exact Or.inr ⟨y1, nm, C.2.2.2.1 _ y2, hnc _ y3⟩) hx h0 (C.2.2.2.1 _ hlink) (va_Nw.use (nb_on hcast) (C.2.2.2.2.2.2.2.2.2.1 _ hcast)) (by rw [g1]; exact hce) hcv hcl' (k S' p1 α T'.heap (locs ++ L) ls q h3 h2) T' rfl X'
    exact ⟨t2, st.trans a1, b1⟩
theorem g_catchN (C : BX x cc own) (hnc : NCs (xs x)) {M : Me} {E : String} {px : pv_M → Prop} {idx ci r n : Nat} {As stk : List Value} {hh : List (Nat × Nat × Nat × Nat)} (hT : (xc x).exceptionTable.toList = tableOf hh) (hM : mth x.1.2.1 M N (.ref r :: As) S E px) (L : VO own idx ci M n) (d : decode cc pc = .ok (.invokevirtual idx, 3)) (hstk : stk = As.reverse ++ .ref r :: st) (hs : pv_sh r = .inl ci) (hr : r < N) (hn : As.length = n) (hrm : rmOk M x cs sl) (hst : (st.map fun v => v.category).sum ≤ 8)
    (pre suf : List ExceptionTableEntry) (z : ExceptionTableEntry) {name : String} (hsplit : tableOf hh = pre ++ z :: suf) (hpass : ∀ y ∈ pre, y.catchType ≠ 0 ∧ ∃ nm : String, Cond.classLink own y.catchType nm ∈ TB ∧ (E, nm) ∈ ncl) (hx : covers z pc = true) (h0 : z.catchType ≠ 0) (hlink : Cond.classLink own z.catchType name ∈ TB) (hcast : Cond.castable E name ∈ NB)
    {q : Fin 4} (hm : (q : Nat) < (xc x).maxLocals) (d2 : decode cc z.handlerPc = .ok (.astore_n q, 1)) (lv' : List Value) (hl : sv lv q unk = lv') (k : ∀ (S' : pv_M), px S' → GG x N (cs + M.rm.cells) (sl + M.rm.slots) lv' [] S' (z.handlerPc + 1)) : GG x N cs sl lv stk S pc :=
  g_catch0 C hnc hT hM L d hstk hs hr hn hrm hst pre suf z hsplit hpass hx h0 hlink hcast (fun S' hp α H locs ls a h1 h2 => by
    subst hl
    exact lv_astore_n C.1 C.2.1 d2 rfl h2.has hm rfl fun ls' h9 => k S' hp α H locs ls' h1 (LR.st1u h9))
theorem g_catchA (C : BX x cc own) (hnc : NCs (xs x)) {M : Me} {E : String} {px : pv_M → Prop} {idx ci r n : Nat} {As stk : List Value} {hh : List (Nat × Nat × Nat × Nat)} (hT : (xc x).exceptionTable.toList = tableOf hh) (hM : mth x.1.2.1 M N (.ref r :: As) S E px) (L : VO own idx ci M n) (d : decode cc pc = .ok (.invokevirtual idx, 3)) (hstk : stk = As.reverse ++ .ref r :: st) (hs : pv_sh r = .inl ci) (hr : r < N) (hn : As.length = n) (hrm : rmOk M x cs sl) (hst : (st.map fun v => v.category).sum ≤ 8)
    (pre suf : List ExceptionTableEntry) (z : ExceptionTableEntry) {name : String} (hsplit : tableOf hh = pre ++ z :: suf) (hpass : ∀ y ∈ pre, y.catchType ≠ 0 ∧ ∃ nm : String, Cond.classLink own y.catchType nm ∈ TB ∧ (E, nm) ∈ ncl) (hx : covers z pc = true) (h0 : z.catchType ≠ 0) (hlink : Cond.classLink own z.catchType name ∈ TB) (hcast : Cond.castable E name ∈ NB)
    {q : Nat} (hm : q < (xc x).maxLocals) (d2 : decode cc z.handlerPc = .ok (.astore q, 2)) (lv' : List Value) (hl : sv lv q unk = lv') (k : ∀ (S' : pv_M), px S' → GG x N (cs + M.rm.cells) (sl + M.rm.slots) lv' [] S' (z.handlerPc + 2)) : GG x N cs sl lv stk S pc :=
  g_catch0 C hnc hT hM L d hstk hs hr hn hrm hst pre suf z hsplit hpass hx h0 hlink hcast (fun S' hp α H locs ls a h1 h2 => by
    subst hl
    exact lv_astore C.1 C.2.1 d2 h2.has hm rfl fun ls' h9 => k S' hp α H locs ls' h1 (LR.st1u h9))
end HW
theorem mtW_of {l : Launch} {M : MeW} {N : Nat} {As : List Value} {S : pv_M} {post : Option Value → pv_M → Prop} (hy : plainName M.1.y.cls = true) (hlen : (lg_sl As).length ≤ M.1.nL)
    (body : ∀ x : Cx, x.1.2.1 = l → xR x = M.1.rm → (xc x).maxLocals = M.1.nL → BX x M.1.cc M.1.y.cls → EX x N M.1.ret post → (xc x).exceptionTable.toList = tableOf M.2 → NCs (xs x) → GG x N 0 0 (lvN M.1.nL As) [] S 0) : mtW l M N As S post := by
  intro D ay b α sz
  refine va_MetW (hh := M.2) (cc := M.1.cc) (maxL := M.1.nL) (ret := M.1.ret) hy rfl ?_
  intro p e s m args below meth c s₁ B hml hv
  obtain ⟨rfl, hsz, ⟨hP, hK, hD, hok, hBU⟩, hnc⟩ := hv
  subst hsz
  have hts := atoms_spec (ws := M.ws) B.pre
  have hown : s.vm.findClass M.1.y.cls = some m.cls := findClass_of_methodNamed B.named
  have htab := vx_table (x := M.1.y) B (hts _ List.mem_cons_self)
  have hl := lv_entry (As.map (tv b α)) (n := M.1.nL) (by rw [lg_sl_tv]; exact hlen)
  rw [lg_entry_eq]
  generalize (lg_sl (As.map (tv b α)) ++ List.replicate (M.1.nL - (lg_sl (As.map (tv b α))).length) Slot.unset).toArray = ls at hl ⊢
  have key := body ((p, l, e, (headSpec M.ws M.1.rm).room), (s, m, (As.map (tv b α)).toArray, below), (meth, c), (D, ay, va_A (pv_wd ay α N S) s.heap.size, α, N), (b, 0, fun _ => 0), MQ below (QcX D ay b α N (va_A (pv_wd ay α N S) s.heap.size) post) (As.map (tv b α)).toArray s M.1.rm.cells M.1.rm.slots (va_A (pv_wd ay α N S) s.heap.size)) rfl rfl hml
    ⟨B.exec, B.bytes, hown, fun w hw => hts w (List.mem_cons_of_mem _ hw), hK, fun q hq => Or.inr hq, hBU⟩ ⟨B.returns, B.notSynchronized, rfl, rfl⟩ htab hnc
  refine key α s.heap [] ls ⟨hP, hD.self, va_S.rf, hok, fun _ _ => rfl⟩ ⟨hl.1.trans hml.symm, hl.2.1, fun i v hi hv => ?_⟩
  refine hl.2.2 (i, tv b α v) ?_
  have h9 : (lv0 As)[i]? = some v := by
    unfold lvN at hi
    by_cases hlt : i < (lv0 As).length
    · rw [List.getElem?_append_left hlt] at hi
      exact hi
    · rw [List.getElem?_append_right (Nat.not_lt.mp hlt)] at hi
      have := List.mem_of_getElem? hi
      rw [List.mem_replicate] at this
      exact absurd this.2 hv
  have := lv0_at b α As 0 i v h9 hv
  rwa [Nat.zero_add] at this
