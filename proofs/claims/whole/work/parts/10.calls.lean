/-! contracts over the pure state, and calls -/
abbrev Me : Type := MethodName × ByteArray × Nat × Option FieldType × Room
abbrev Me.y (M : Me) : MethodName := M.1
abbrev Me.cc (M : Me) : ByteArray := M.2.1
abbrev Me.nL (M : Me) : Nat := M.2.2.1
abbrev Me.ret (M : Me) : Option FieldType := M.2.2.2.1
abbrev Me.rm (M : Me) : Room := M.2.2.2.2
abbrev Me.ws (M : Me) : List Cond := .code M.y M.cc M.nL M.ret :: TB
def PU (D : va_G) (ay : Nat → ClassId) (α : Nat → Nat) (N : Nat) (S : pv_M) (U : State) : Prop := va_P D pv_cl (pv_wd ay α N S) U.heap ∧ va_K D pv_cl (pv_tys ay) U ∧ va_D (fun _ => True) (pv_wd ay α N S) ∧ pv_ok N S ∧ BU (va_A (pv_wd ay α N S) U.heap.size) U U.heap
def QcX (D : va_G) (ay : Nat → ClassId) (b : Nat) (α : Nat → Nat) (N : Nat) (A : Nat → Prop) (post : Option Value → pv_M → Prop) : Array Value → State → Outcome → State → Prop := fun _ st o t =>
  (∃ (r : Option Value) (S' : pv_M), o = .returned (r.map (tv b α)) ∧ post r S' ∧ va_P D pv_cl (pv_wd ay α N S') t.heap ∧ va_D A (pv_wd ay α N S') ∧ pv_ok N S') ∧ va_F A st t
/-- a method's contract: called with As at the state S it returns, with an answer and a state that post allows; no cell comes -/
def mt (l : Launch) (M : Me) (N : Nat) (As : List Value) (S : pv_M) (post : Option Value → pv_M → Prop) : Prop :=
  ∀ (D : va_G) (ay : Nat → ClassId) (b : Nat) (α : Nat → Nat) (sz : Nat), Met l M.y M.ws M.rm (va_Pc (As.map (tv b α)) (fun U => U.heap.size = sz ∧ PU D ay α N S U)) (QcX D ay b α N (va_A (pv_wd ay α N S) sz) post) M.rm.cells M.rm.slots (va_A (pv_wd ay α N S) sz)
/-- the end that a body owes -/
def EX (x : Cx) (N : Nat) (ret : Option FieldType) (post : Option Value → pv_M → Prop) : Prop :=
  x.2.2.1.1.sig.returnType = ret ∧ x.2.2.1.1.locks = false ∧ xQ x = MQ x.2.1.2.2.2 (QcX (xD x) (xy x) (xb x) (xal x) N (xA x) post) (xa x) (xs x) (xR x).cells (xR x).slots (xA x) ∧ xN x = N
def lv0 : List Value → List Value
  | [] => []
  | v :: r => if v.category = 2 then v :: unk :: lv0 r else v :: lv0 r
def lvN (n : Nat) (As : List Value) : List Value := lv0 As ++ List.replicate (n - (lv0 As).length) unk
theorem lv0_at (b : Nat) (α : Nat → Nat) : ∀ (As : List Value) (o i : Nat) (v : Value), (lv0 As)[i]? = some v → v ≠ unk → (o + i, tv b α v) ∈ lv_args o (As.map (tv b α))
  | [], o, i, v, h, _ => by simp [lv0] at h
  | w :: r, o, i, v, h, hu => by
    unfold lv0 at h
    by_cases hc : w.category = 2
    · rw [if_pos hc] at h
      cases i with
      | zero =>
        simp at h
        subst h
        exact List.mem_cons_self
      | succ i =>
        cases i with
        | zero => simp at h; exact absurd h.symm hu
        | succ i =>
          simp only [List.getElem?_cons_succ] at h
          have := lv0_at b α r (o + 2) i v h hu
          simp only [List.map_cons, lv_args, tv_cat, hc, if_true]
          rw [show o + (i + 1 + 1) = o + 2 + i by omega]
          exact List.mem_cons_of_mem _ this
    · rw [if_neg hc] at h
      cases i with
      | zero =>
        simp at h
        subst h
        exact List.mem_cons_self
      | succ i =>
        simp only [List.getElem?_cons_succ] at h
        have := lv0_at b α r (o + 1) i v h hu
        simp only [List.map_cons, lv_args, tv_cat, hc, if_false]
        rw [show o + (i + 1) = o + 1 + i by omega]
        exact List.mem_cons_of_mem _ this
theorem lg_sl_tv (b : Nat) (α : Nat → Nat) : ∀ As : List Value, (lg_sl (As.map (tv b α))).length = (lg_sl As).length
  | [] => rfl
  | v :: r => by
    have := lg_sl_tv b α r
    simp only [lg_sl, List.map_cons, List.flatMap_cons, List.length_append, tv_cat] at this ⊢
    rw [this]
    by_cases hc : v.category = 2 <;> simp [hc]
theorem pv_wd_congr {ay : Nat → ClassId} {α β : Nat → Nat} {N : Nat} {S : pv_M} (h : ∀ i, i < N → α i = β i) (hok : pv_ok N S) : pv_wd ay α N S = pv_wd ay β N S := by
  have hr : ∀ i, i < N → ∀ k, (mR S i k).map α = (mR S i k).map β := by
    intro i hi k
    cases h9 : mR S i k with
    | none => rfl
    | some r => simp only [Option.map_some, h r (hok i hi k r h9)]
  unfold pv_wd
  apply List.map_congr_left
  intro i hi
  have hi := List.mem_range.mp hi
  rw [h i hi]
  congr 1
  unfold pv_cell
  cases pv_sh i with
  | inl ci =>
    simp only
    congr 2
    apply List.map_congr_left
    intro k _
    cases pv_ft ci k <;> simp only [pv_v, hr i hi k]
  | inr q =>
    simp only
    congr 2
    unfold pv_arr
    split <;> try rfl
    simp only [hr i hi]
theorem BU.go {A B : Nat → Prop} {s U : State} {H0 H : Heap} {locs : List Loc} (h : BU A s H0) (hS : va_S A H0 H locs) (hW : s.WarmedH U.vm) (hAB : ∀ q, B q → A q) : BU B U H := by
  obtain ⟨h1, h2, h3, h4, h5, h6⟩ := h
  refine ⟨((h1.kept (fun q q1 q2 => hS.2.1 q q1 q2)).moved hW.alike).narrow hAB, ((h2.kept (fun q q1 q2 => hS.2.1 q q1 q2)).moved hW.alike).narrow hAB, fun q hq => ?_, fun w hw => nb_warm hw hW (h4 w hw), h5.moved hW.alike, h6.moved hW.alike⟩
  obtain ⟨a, ha⟩ := h3 q hq
  exact ⟨a, vk_R.warm hW ha⟩
theorem PU.blind (D : va_G) (ay : Nat → ClassId) (α : Nat → Nat) (N : Nat) (S : pv_M) (av : List Value) (sz : Nat) : FrameBlind (va_Pc av (fun U => U.heap.size = sz ∧ PU D ay α N S U)) := by
  intro a U g mk q
  obtain ⟨q0, q1, qP, qK, qD, qo, z1, z2, z3, z4, z5, z6⟩ := q
  refine ⟨q0, q1, qP, va_K.moved (u := U) (U := U.calling g mk a) (Vm.Alike.refl U.vm) qK, qD, qo, z1.moved (u := U) (U := U.calling g mk a) (Vm.Alike.refl U.vm), z2.moved (u := U) (U := U.calling g mk a) (Vm.Alike.refl U.vm), fun q hq => ?_, fun w hw => va_Nw.same (nb_on hw) (u := U) rfl (z4 w hw), z5.moved (u := U) (U := U.calling g mk a) (Vm.Alike.refl U.vm), z6.moved (u := U) (U := U.calling g mk a) (Vm.Alike.refl U.vm)⟩
  obtain ⟨a, ha⟩ := z3 q hq
  exact ⟨a, vk_R.same (u := U) rfl ha⟩
section CO
variable {x : Cx} {cc : ByteArray} {own : String} {N cs sl : Nat} {lv st : List Value} {S : pv_M} {pc : Nat}
theorem RW.A {α : Nat → Nat} {H : Heap} {locs : List Loc} (C : BX x cc own) (h1 : RW x N α S H locs) : ∀ q, va_A (pv_wd (xy x) α N S) H.size q → xA x q := by
  intro q h
  rcases h with ⟨k, e, h⟩ | h
  · exact h1.2.1.2 k _ h
  · exact C.2.2.2.2.2.1 q (Nat.le_trans h1.2.2.1.1 h)
theorem RW.PU {α : Nat → Nat} {H : Heap} {locs : List Loc} (C : BX x cc own) (h1 : RW x N α S H locs) {U : State} (hU : U.heap = H) (hW : (xs x).WarmedH U.vm) : U.heap.size = H.size ∧ PU (xD x) (xy x) α N S U := by
  refine ⟨by rw [hU], by rw [hU]; exact h1.1, va_K.moved hW.alike C.2.2.2.2.1, ⟨h1.2.1.1, fun _ _ _ => trivial⟩, h1.2.2.2.1, ?_⟩
  rw [hU]
  exact C.2.2.2.2.2.2.go h1.2.2.1 hW (h1.A C)
theorem run_go {p : Program} {l : Launch} {e : Env} {R : Room} {s : State} {m : MethodId} {args : Array Value} {below : List Frame} {meth : Method} {c : Code} {H : Heap} {locs : List Loc} {cells slots : Nat} {Q : State → Prop} {mc ms : Nat} {ls : Array Slot} {st0 rest : List Value} {a : Array Value} {A0 A1 : Nat → Prop} {H0 : Heap} {free : Addr → Prop} {D : va_G} {ay : Nat → ClassId} {b : Nat} {α : Nat → Nat} {post : Option Value → pv_M → Prop}
    (hr : va_Run p l e R s m args below meth c H locs cells slots mc ms (F0 m pc ls st0) rest (QcX D ay b α N A1 post a) free) (hS : va_S A0 H0 H locs) (hA : ∀ q, A1 q → A0 q) (hf : ∀ q, free q → A0 q)
    (kk : ∀ (r : Option Value) (S' : pv_M) (H1 : Heap) (locs1 : List Loc), post r S' → va_P D pv_cl (pv_wd ay α N S') H1 → va_D A1 (pv_wd ay α N S') → pv_ok N S' → va_S A0 H0 H1 locs1 → W p l e R s m args below meth c H1 locs1 (cells + mc) (slots + ms) Q (F0 m (pc + 3) ls ((r.map (tv b α)).toList ++ rest))) : W p l e R s m args below meth c H locs cells slots Q (F0 m pc ls st0) := by
  intro T hT X
  obtain ⟨v, st₀, t, T', L, h0, X', hL, e1, e2, ⟨⟨r, S', hv, hp, hP, hD, hok⟩, hz, hk⟩, st⟩ := hr T hT X
  cases hv
  rw [h0] at hz hk
  obtain ⟨t2, a1, b1⟩ := kk r S' T'.heap (locs ++ L) hp (by rw [e1]; exact hP) hD hok
    ⟨Nat.le_trans hS.1 (by rw [e1]; exact hz), fun q h1 h2 => by rw [e1, hk q (Nat.lt_of_lt_of_le h1 hS.1) (fun z => h2 (hA q z))]; exact hS.2.1 q h1 h2, fun q hq => by
      rcases List.mem_append.mp hq with h | h
      · exact hS.2.2 q h
      · exact hf _ (hL q h)⟩ T' rfl X'
  exact ⟨t2, st t2 a1, b1⟩
/-- a virtual call of a method of the very class of the receiver -/
def VO (own : String) (idx ci : Nat) (M : Me) (n : Nat) : Prop := ∃ q : vw_C, pv_cl[ci]? = some q ∧ (∀ w ∈ ([.methodLink own idx M.y, .instanceMethod M.y, .selects q.1 M.y M.y, .initialized q.1, .code M.y M.cc M.nL M.ret] : List Cond), w ∈ TB) ∧ (M.y.cls = q.1 ∧ M.y.cls ≠ "java/lang/invoke/MethodHandle" ∧ M.y.cls ≠ "java/lang/invoke/VarHandle" ∧ (parseMethodDescriptor M.y.desc).map (fun d => d.parameters.length) = some n)
def SO (own : String) (idx : Nat) (M : Me) (n : Nat) : Prop := (∀ w ∈ ([.methodLink own idx M.y, .static M.y, .initialized M.y.cls, .code M.y M.cc M.nL M.ret] : List Cond), w ∈ TB) ∧ (M.y.cls ≠ "java/lang/invoke/MethodHandle" ∧ M.y.cls ≠ "java/lang/invoke/VarHandle" ∧ (parseMethodDescriptor M.y.desc).map (fun d => d.parameters.length) = some n)
/-- a call through the abstract class: z is the method as it is named there -/
def UO (own : String) (idx ci : Nat) (z : MethodName) (M : Me) (n : Nat) : Prop := ∃ q : vw_C, pv_cl[ci]? = some q ∧ (∀ w ∈ ([.methodLink own idx z, .sameMethod z.cls z.cls z.name z.desc, .selects q.1 z M.y, .instanceMethod M.y, .initialized M.y.cls, .code M.y M.cc M.nL M.ret] : List Cond), w ∈ TB) ∧ Cond.declares ⟨z.cls, z.name, z.desc⟩ ∈ NB ∧ (z.cls ≠ "java/lang/invoke/MethodHandle" ∧ z.cls ≠ "java/lang/invoke/VarHandle" ∧ (parseMethodDescriptor z.desc).map (fun d => d.parameters.length) = some n)
def rmOk (M : Me) (x : Cx) (cs sl : Nat) : Prop := (M.rm.frames + 1 ≤ (xR x).frames ∧ 8 + (M.nL + 11) + M.rm.locals ≤ (xR x).locals) ∧ cs + M.rm.cells ≤ (xR x).cells ∧ sl + M.rm.slots ≤ (xR x).slots
theorem tb_code {w : Cond} {Ts : List Cond} {args : Array Value} {s : State} (h : ∀ w ∈ TB, w.before args s = true) (hw : w ∈ TB) : w.before args s = true := h w hw
theorem tb_gi {ws : List Cond} (h : ∀ w ∈ ws, w ∈ TB) : GoodIn TB ws := fun w hw => ⟨h w hw, tb_good (h w hw)⟩
theorem Me.gi {M : Me} (h : Cond.code M.y M.cc M.nL M.ret ∈ TB) : ∀ w ∈ M.ws, w ∈ TB := fun w hw => (List.mem_cons.mp hw).elim (fun e => by rw [e]; exact h) id
theorem tv_cats (b : Nat) (α : Nat → Nat) (st : List Value) : ((st.map (tv b α)).map fun v => v.category) = st.map fun v => v.category := by
  rw [List.map_map]
  exact List.map_congr_left fun v _ => tv_cat b α v
theorem g_callV (C : BX x cc own) {M : Me} {idx ci r n : Nat} {As stk : List Value} {post : Option Value → pv_M → Prop} (hM : mt x.1.2.1 M N (.ref r :: As) S post) (L : VO own idx ci M n) (d : decode cc pc = .ok (.invokevirtual idx, 3)) (hstk : stk = As.reverse ++ .ref r :: st) (hs : pv_sh r = .inl ci) (hr : r < N) (hn : As.length = n) (hrm : rmOk M x cs sl) (hst : (st.map fun v => v.category).sum ≤ 8)
    (k : ∀ (v : Option Value) (S' : pv_M), post v S' → GG x N (cs + M.rm.cells) (sl + M.rm.slots) lv (v.toList ++ st) S' (pc + 3)) : GG x N cs sl lv stk S pc := by
  intro α H locs ls h1 h2
  obtain ⟨⟨Cn, T, nn⟩, hcl, hw, hd⟩ := L
  have hG : GoodIn TB (wsV own idx Cn M.y M.ws) := tb_gi fun w h => by
    rcases List.mem_append.mp h with h | h
    · exact hw w (by simp only [List.mem_cons, List.not_mem_nil, or_false] at h ⊢; rcases h with h | h | h | h <;> simp [h])
    · exact Me.gi (hw _ (by simp)) w h
  have e0 : stk.map (tv (xb x) α) = (As.map (tv (xb x) α)).reverse ++ .ref (α r) :: st.map (tv (xb x) α) := by
    rw [hstk, List.map_append, List.map_reverse]
    rfl
  refine run_go (N := N) (D := xD x) (ay := xy x) (b := xb x) (α := α) (post := post) (va_runV (C := Cn) (b := α r) (As := As.map (tv (xb x) α)) (rest := st.map (tv (xb x) α)) ⟨C.1, C.2.1, h2.1.symm, C.2.2.1, C.2.2.2.1⟩ (hM (xD x) (xy x) (xb x) α H.size) (cwV n C.2.2.2.1 hG rfl rfl rfl hd hrm.1) ⟨PU.blind _ _ _ _ _ _ _, va_recv C.2.2.2.2.1 h1.1 hcl (pv_wd_o hr hs), fun U hU hW => ⟨rfl, h1.PU C hU hW⟩⟩ rfl (by rw [List.length_map]; exact hn) rfl e0 (lv_room (by rw [tv_cats]; exact hst)) d hrm.2) h1.2.2.1 (h1.A C) (h1.A C) (fun v S' H1 locs1 hp hP hD hok hS => ?_)
  have e1 : (v.map (tv (xb x) α)).toList ++ st.map (tv (xb x) α) = (v.toList ++ st).map (tv (xb x) α) := by cases v <;> simp
  rw [e1]
  exact k v S' hp α H1 locs1 ls ⟨hP, hD.weaken (fun _ _ _ h => h1.A C _ h), hS, hok, h1.2.2.2.2⟩ h2
theorem g_callS (C : BX x cc own) {M : Me} {idx n : Nat} {As stk : List Value} {post : Option Value → pv_M → Prop} (hM : mt x.1.2.1 M N As S post) (L : SO own idx M n) (d : decode cc pc = .ok (.invokestatic idx, 3)) (hstk : stk = As.reverse ++ st) (hn : As.length = n) (hrm : rmOk M x cs sl) (hst : (st.map fun v => v.category).sum ≤ 8)
    (k : ∀ (v : Option Value) (S' : pv_M), post v S' → GG x N (cs + M.rm.cells) (sl + M.rm.slots) lv (v.toList ++ st) S' (pc + 3)) : GG x N cs sl lv stk S pc := by
  intro α H locs ls h1 h2
  obtain ⟨hw, hd⟩ := L
  have hG : GoodIn TB (va_wsS own idx M.y M.ws) := tb_gi fun w h => by
    rcases List.mem_append.mp h with h | h
    · exact hw w (by simp only [List.mem_cons, List.not_mem_nil, or_false] at h ⊢; rcases h with h | h | h <;> simp [h])
    · exact Me.gi (hw _ (by simp)) w h
  have e0 : stk.map (tv (xb x) α) = (As.map (tv (xb x) α)).reverse ++ st.map (tv (xb x) α) := by
    rw [hstk, List.map_append, List.map_reverse]
  refine run_go (N := N) (D := xD x) (ay := xy x) (b := xb x) (α := α) (post := post) (va_runS (As := As.map (tv (xb x) α)) (rest := st.map (tv (xb x) α)) ⟨C.1, C.2.1, h2.1.symm, C.2.2.1, C.2.2.2.1⟩ (hM (xD x) (xy x) (xb x) α H.size) (va_cwS n C.2.2.2.1 hG rfl rfl rfl hd hrm.1) ⟨PU.blind _ _ _ _ _ _ _, fun U hU hW => ⟨rfl, h1.PU C hU hW⟩⟩ rfl (by rw [List.length_map]; exact hn) rfl e0 (lv_room (by rw [tv_cats]; exact hst)) d hrm.2) h1.2.2.1 (h1.A C) (h1.A C) (fun v S' H1 locs1 hp hP hD hok hS => ?_)
  have e1 : (v.map (tv (xb x) α)).toList ++ st.map (tv (xb x) α) = (v.toList ++ st).map (tv (xb x) α) := by cases v <;> simp
  rw [e1]
  exact k v S' hp α H1 locs1 ls ⟨hP, hD.weaken (fun _ _ _ h => h1.A C _ h), hS, hok, h1.2.2.2.2⟩ h2
theorem g_callU (C : BX x cc own) {M : Me} {z : MethodName} {idx ci r n : Nat} {As stk : List Value} {post : Option Value → pv_M → Prop} (hM : mt x.1.2.1 M N (.ref r :: As) S post) (L : UO own idx ci z M n) (d : decode cc pc = .ok (.invokevirtual idx, 3)) (hstk : stk = As.reverse ++ .ref r :: st) (hs : pv_sh r = .inl ci) (hr : r < N) (hn : As.length = n) (hrm : rmOk M x cs sl) (hst : (st.map fun v => v.category).sum ≤ 8)
    (k : ∀ (v : Option Value) (S' : pv_M), post v S' → GG x N (cs + M.rm.cells) (sl + M.rm.slots) lv (v.toList ++ st) S' (pc + 3)) : GG x N cs sl lv stk S pc := by
  intro α H locs ls h1 h2
  obtain ⟨⟨Cn, T, nn⟩, hcl, hw, hdc, hd⟩ := L
  have hG : GoodIn TB (va_wsU own idx Cn z.cls z M.y M.ws) := tb_gi fun w h => by
    rcases List.mem_append.mp h with h | h
    · exact hw w (by simp only [List.mem_cons, List.not_mem_nil, or_false] at h ⊢; rcases h with h | h | h | h | h <;> simp [h])
    · exact Me.gi (hw _ (by simp)) w h
  have e0 : stk.map (tv (xb x) α) = (As.map (tv (xb x) α)).reverse ++ .ref (α r) :: st.map (tv (xb x) α) := by
    rw [hstk, List.map_append, List.map_reverse]
    rfl
  refine run_go (N := N) (D := xD x) (ay := xy x) (b := xb x) (α := α) (post := post) (va_runU (C := Cn) (b := α r) (As := As.map (tv (xb x) α)) (rest := st.map (tv (xb x) α)) ⟨C.1, C.2.1, h2.1.symm, C.2.2.1, C.2.2.2.1⟩ (hM (xD x) (xy x) (xb x) α H.size) (va_cwA n C.2.2.2.1 hG rfl rfl rfl (C.2.2.2.2.2.2.2.2.2.1 _ hdc) hd hrm.1) ⟨PU.blind _ _ _ _ _ _ _, va_recv C.2.2.2.2.1 h1.1 hcl (pv_wd_o hr hs), fun U hU hW => ⟨rfl, h1.PU C hU hW⟩⟩ rfl (by rw [List.length_map]; exact hn) rfl e0 (lv_room (by rw [tv_cats]; exact hst)) d hrm.2) h1.2.2.1 (h1.A C) (h1.A C) (fun v S' H1 locs1 hp hP hD hok hS => ?_)
  have e1 : (v.map (tv (xb x) α)).toList ++ st.map (tv (xb x) α) = (v.toList ++ st).map (tv (xb x) α) := by cases v <;> simp
  rw [e1]
  exact k v S' hp α H1 locs1 ls ⟨hP, hD.weaken (fun _ _ _ h => h1.A C _ h), hS, hok, h1.2.2.2.2⟩ h2
theorem RW.end {α : Nat → Nat} {H : Heap} {locs : List Loc} (h1 : RW x N α S H locs) (hN : xN x = N) : va_P (xD x) pv_cl (pv_wd (xy x) (xal x) N S) H ∧ va_D (xA x) (pv_wd (xy x) (xal x) N S) := by
  rw [← pv_wd_congr (fun i hi => h1.2.2.2.2 i (by rw [hN]; exact hi)) h1.2.2.2.1]
  exact ⟨h1.1, h1.2.1⟩
theorem g_iret {post : Option Value → pv_M → Prop} (C : BX x cc own) (E : EX x N (some .int) post) {v : Int32} (d : decode cc pc = .ok (.ireturn, 1)) (hc : cs ≤ (xR x).cells) (hs : sl ≤ (xR x).slots) (h : post (some (.int v)) S) : GG x N cs sl lv [.int v] S pc := by
  intro α H locs ls h1 h2
  obtain ⟨e1, e2, e3, e4⟩ := E
  have z := h1.end e4
  show W _ _ _ _ _ _ _ _ _ _ _ _ _ _ (xQ x) _
  rw [e3]
  refine W.widen hc hs ?_
  exact W.iret (hlocks := e2) C.1 C.2.1 e1 (fun t ht hW => ⟨⟨some (.int v), S, rfl, h, by rw [ht]; exact z.1, z.2, h1.2.2.2.1⟩, h1.2.2.1.F ht⟩) h1.2.2.1.2.2 d
theorem g_zret {post : Option Value → pv_M → Prop} (C : BX x cc own) (E : EX x N (some .boolean) post) {v : Int32} (d : decode cc pc = .ok (.ireturn, 1)) (hv : v = 0 ∨ v = 1) (hc : cs ≤ (xR x).cells) (hs : sl ≤ (xR x).slots) (h : post (some (.int v)) S) : GG x N cs sl lv [.int v] S pc := by
  intro α H locs ls h1 h2
  obtain ⟨e1, e2, e3, e4⟩ := E
  have z := h1.end e4
  show W _ _ _ _ _ _ _ _ _ _ _ _ _ _ (xQ x) _
  rw [e3]
  refine W.widen hc hs ?_
  exact W.zret (hlocks := e2) C.1 C.2.1 e1 (by rcases hv with rfl | rfl <;> rfl) (fun t ht hW => ⟨⟨some (.int v), S, rfl, h, by rw [ht]; exact z.1, z.2, h1.2.2.2.1⟩, h1.2.2.1.F ht⟩) h1.2.2.1.2.2 d
theorem g_lret {post : Option Value → pv_M → Prop} (C : BX x cc own) (E : EX x N (some .long) post) {v : Int64} (d : decode cc pc = .ok (.lreturn, 1)) (hc : cs ≤ (xR x).cells) (hs : sl ≤ (xR x).slots) (h : post (some (.long v)) S) : GG x N cs sl lv [.long v] S pc := by
  intro α H locs ls h1 h2
  obtain ⟨e1, e2, e3, e4⟩ := E
  have z := h1.end e4
  show W _ _ _ _ _ _ _ _ _ _ _ _ _ _ (xQ x) _
  rw [e3]
  refine W.widen hc hs ?_
  exact W.lret (hlocks := e2) C.1 C.2.1 e1 (fun t ht hW => ⟨⟨some (.long v), S, rfl, h, by rw [ht]; exact z.1, z.2, h1.2.2.2.1⟩, h1.2.2.1.F ht⟩) h1.2.2.1.2.2 d
theorem g_dret {post : Option Value → pv_M → Prop} (C : BX x cc own) (E : EX x N (some .double) post) {v : UInt64} (d : decode cc pc = .ok (.dreturn, 1)) (hc : cs ≤ (xR x).cells) (hs : sl ≤ (xR x).slots) (h : post (some (.double v)) S) : GG x N cs sl lv [.double v] S pc := by
  intro α H locs ls h1 h2
  obtain ⟨e1, e2, e3, e4⟩ := E
  have z := h1.end e4
  show W _ _ _ _ _ _ _ _ _ _ _ _ _ _ (xQ x) _
  rw [e3]
  refine W.widen hc hs ?_
  exact W.dret (hlocks := e2) C.1 C.2.1 e1 (fun t ht hW => ⟨⟨some (.double v), S, rfl, h, by rw [ht]; exact z.1, z.2, h1.2.2.2.1⟩, h1.2.2.1.F ht⟩) h1.2.2.1.2.2 d
theorem g_fret {post : Option Value → pv_M → Prop} (C : BX x cc own) (E : EX x N (some .float) post) {v : UInt32} (d : decode cc pc = .ok (.freturn, 1)) (hc : cs ≤ (xR x).cells) (hs : sl ≤ (xR x).slots) (h : post (some (.float v)) S) : GG x N cs sl lv [.float v] S pc := by
  intro α H locs ls h1 h2
  obtain ⟨e1, e2, e3, e4⟩ := E
  have z := h1.end e4
  show W _ _ _ _ _ _ _ _ _ _ _ _ _ _ (xQ x) _
  rw [e3]
  refine W.widen hc hs ?_
  exact W.fret (hlocks := e2) C.1 C.2.1 e1 (fun t ht hW => ⟨⟨some (.float v), S, rfl, h, by rw [ht]; exact z.1, z.2, h1.2.2.2.1⟩, h1.2.2.1.F ht⟩) h1.2.2.1.2.2 d
theorem g_vret {post : Option Value → pv_M → Prop} (C : BX x cc own) (E : EX x N none post) (d : decode cc pc = .ok (.return_, 1)) (hc : cs ≤ (xR x).cells) (hs : sl ≤ (xR x).slots) (h : post none S) : GG x N cs sl lv [] S pc := by
  intro α H locs ls h1 h2
  obtain ⟨e1, e2, e3, e4⟩ := E
  have z := h1.end e4
  show W _ _ _ _ _ _ _ _ _ _ _ _ _ _ (xQ x) _
  rw [e3]
  refine W.widen hc hs ?_
  exact W.vret (hlocks := e2) C.1 C.2.1 e1 (fun t ht hW => ⟨⟨none, S, rfl, h, by rw [ht]; exact z.1, z.2, h1.2.2.2.1⟩, h1.2.2.1.F ht⟩) h1.2.2.1.2.2 d
end CO
/-- a contract out of a walk of the body -/
theorem mt_of {l : Launch} {M : Me} {N : Nat} {As : List Value} {S : pv_M} {post : Option Value → pv_M → Prop} (hy : plainName M.y.cls = true) (hlen : (lg_sl As).length ≤ M.nL)
    (body : ∀ x : Cx, x.1.2.1 = l → xR x = M.rm → (xc x).maxLocals = M.nL → BX x M.cc M.y.cls → EX x N M.ret post → GG x N 0 0 (lvN M.nL As) [] S 0) : mt l M N As S post := by
  intro D ay b α sz
  refine Met.ofW (cc := M.cc) (maxL := M.nL) (ret := M.ret) hy rfl ?_
  intro p e s m args below meth c s₁ B hml hv
  obtain ⟨rfl, hsz, hP, hK, hD, hok, hBU⟩ := hv
  subst hsz
  have hts := atoms_spec (ws := M.ws) B.pre
  have hown : s.vm.findClass M.y.cls = some m.cls := findClass_of_methodNamed B.named
  have hl := lv_entry (As.map (tv b α)) (n := M.nL) (by rw [lg_sl_tv]; exact hlen)
  rw [lg_entry_eq]
  generalize (lg_sl (As.map (tv b α)) ++ List.replicate (M.nL - (lg_sl (As.map (tv b α))).length) Slot.unset).toArray = ls at hl ⊢
  have key := body ((p, l, e, (headSpec M.ws M.rm).room), (s, m, (As.map (tv b α)).toArray, below), (meth, c), (D, ay, va_A (pv_wd ay α N S) s.heap.size, α, N), (b, 0, fun _ => 0), MQ below (QcX D ay b α N (va_A (pv_wd ay α N S) s.heap.size) post) (As.map (tv b α)).toArray s M.rm.cells M.rm.slots (va_A (pv_wd ay α N S) s.heap.size)) rfl rfl hml
    ⟨B.exec, B.bytes, hown, fun w hw => hts w (List.mem_cons_of_mem _ hw), hK, fun q hq => Or.inr hq, hBU⟩ ⟨B.returns, B.notSynchronized, rfl, rfl⟩
  refine key α s.heap [] ls ⟨hP, hD.self, va_S.rf, hok, fun _ _ => rfl⟩ ⟨hl.1.trans hml.symm, hl.2.1, fun i v hi hv => ?_⟩
  refine hl.2.2 (i, tv b α v) ?_
  have h9 : (lv0 As)[i]? = some v := by
    unfold lvN at hi
    by_cases hlt : i < (lv0 As).length
    · rw [List.getElem?_append_left hlt] at hi
      exact hi
    · rw [List.getElem?_append_right (Nat.not_lt.mp hlt)] at hi
      have := List.mem_of_getElem? hi
      rw [List.mem_replicate] at this
      exact absurd this.2 hv
  have := lv0_at b α As 0 i v h9 hv
  rwa [Nat.zero_add] at this
