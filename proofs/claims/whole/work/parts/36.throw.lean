/-! methods that throw -/
def XcX (D : va_G) (ay : Nat → ClassId) (α : Nat → Nat) (N : Nat) (A : Nat → Prop) (E : String) (px : pv_M → Prop) : String → State → State → Prop := fun E' st t =>
  E' = E ∧ (∃ S' : pv_M, px S' ∧ va_P D pv_cl (pv_wd ay α N S') t.heap ∧ va_D A (pv_wd ay α N S') ∧ pv_ok N S') ∧ va_F A st t
/-- a method's contract: it throws E, the state is one that px allows -/
def mth (l : Launch) (M : Me) (N : Nat) (As : List Value) (S : pv_M) (E : String) (px : pv_M → Prop) : Prop :=
  ∀ (D : va_G) (ay : Nat → ClassId) (b : Nat) (α : Nat → Nat) (sz : Nat), vx_Met l M.y M.ws M.rm (va_Pc (As.map (tv b α)) (fun U => U.heap.size = sz ∧ PU D ay α N S U)) (fun _ _ _ _ => False) (XcX D ay α N (va_A (pv_wd ay α N S) sz) E px) M.rm.cells M.rm.slots (va_A (pv_wd ay α N S) sz)
/-- the same method, with the room for one exception -/
abbrev Me.th (M : Me) : Me := (M.1, M.2.1, M.2.2.1, M.2.2.2.1, { frames := M.2.2.2.2.frames, cells := 1, slots := 6, locals := M.2.2.2.2.locals })
def EXT (x : Cx) (N : Nat) (E : String) (px : pv_M → Prop) : Prop :=
  x.2.2.1.1.locks = false ∧ xQ x = vx_MQ x.2.1.2.2.2 (fun _ _ _ _ => False) (XcX (xD x) (xy x) (xal x) N (xA x) E px) (xa x) (xs x) (xR x).cells (xR x).slots (xA x) ∧ xN x = N ∧ (∀ z ∈ (xc x).exceptionTable.toList, False) ∧ x.1.2.1.stackTraces = false
theorem mth_of {l : Launch} (hst : l.stackTraces = false) {M : Me} {N : Nat} {As : List Value} {S : pv_M} {E : String} {px : pv_M → Prop} (hy : plainName M.y.cls = true) (hlen : (lg_sl As).length ≤ M.nL)
    (body : ∀ x : Cx, x.1.2.1 = l → xR x = M.rm → (xc x).maxLocals = M.nL → BX x M.cc M.y.cls → EXT x N E px → GG x N 0 0 (lvN M.nL As) [] S 0) : mth l M N As S E px := by
  intro D ay b α sz
  refine vx_ofW (cc := M.cc) (maxL := M.nL) (ret := M.ret) hy rfl ?_
  intro p e s m args below meth c s₁ B hml hno hv
  obtain ⟨rfl, hsz, hP, hK, hD, hok, hBU⟩ := hv
  subst hsz
  have hts := atoms_spec (ws := M.ws) B.pre
  have hown : s.vm.findClass M.y.cls = some m.cls := findClass_of_methodNamed B.named
  have hl := lv_entry (As.map (tv b α)) (n := M.nL) (by rw [lg_sl_tv]; exact hlen)
  rw [lg_entry_eq]
  generalize (lg_sl (As.map (tv b α)) ++ List.replicate (M.nL - (lg_sl (As.map (tv b α))).length) Slot.unset).toArray = ls at hl ⊢
  have key := body ((p, l, e, (headSpec M.ws M.rm).room), (s, m, (As.map (tv b α)).toArray, below), (meth, c), (D, ay, va_A (pv_wd ay α N S) s.heap.size, α, N), (b, 0, fun _ => 0), vx_MQ below (fun _ _ _ _ => False) (XcX D ay α N (va_A (pv_wd ay α N S) s.heap.size) E px) (As.map (tv b α)).toArray s M.rm.cells M.rm.slots (va_A (pv_wd ay α N S) s.heap.size)) rfl rfl hml
    ⟨B.exec, B.bytes, hown, fun w hw => hts w (List.mem_cons_of_mem _ hw), hK, fun q hq => Or.inr hq, hBU⟩ ⟨B.notSynchronized, rfl, rfl, hno, hst⟩
  refine key α s.heap [] ls ⟨hP, hD.self, va_S.rf, hok, fun _ _ => rfl⟩ ⟨hl.1.trans hml.symm, hl.2.1, fun i v hi hv => ?_⟩
  refine hl.2.2 (i, tv b α v) ?_
  have h9 : (lv0 As)[i]? = some v := by
    unfold lvN at hi
    by_cases hlt : i < (lv0 As).length
    · rw [List.getElem?_append_left hlt] at hi
      exact hi
    · rw [List.getElem?_append_right (Nat.not_lt.mp hlt)] at hi
      have := List.mem_of_getElem? hi
      rw [List.mem_replicate] at this
      exact absurd this.2 hv
  have := lv0_at b α As 0 i v h9 hv
  rwa [Nat.zero_add] at this
abbrev xnames : List String := ["java/lang/RuntimeException", "java/lang/Exception"]
/-- a place where LanguageAtoms throws -/
def TO (ik is ic : Nat) (cls text : String) : Prop := Bundle.fit cls = true ∧ (∀ n ∈ xnames, Bundle.fit n = true) ∧ Cond.classLink RX11 ik cls ∈ TB ∧ Cond.initialized cls ∈ TB ∧ (is, text) ∈ pv_strs ∧ (∀ w ∈ vx_atS RX11 ic cls xnames, w ∈ TB ∨ w ∈ NB) ∧ ∀ w ∈ Cond.classLink RX11 ik cls :: Cond.initialized cls :: vx_atS RX11 ic cls xnames, vx_ot w = true
section TH
variable {x : Cx} {cc : ByteArray} {own : String} {N cs sl : Nat} {lv st : List Value} {S : pv_M} {pc : Nat}
theorem RW.thrown {α : Nat → Nat} {H : Heap} {locs : List Loc} (h1 : RW x N α S H locs) (hN : xN x = N) {E : String} {px : pv_M → Prop} (hp : px S) {t : State} (hz : H.size ≤ t.heap.size) (hk : ∀ q : Nat, q < H.size → t.heap[q]? = H[q]?) : XcX (xD x) (xy x) (xal x) N (xA x) E px E (xs x) t := by
  have z := h1.end hN
  refine ⟨rfl, ⟨S, hp, z.1.kept (fun k q hq => hk q.1 ((z.1 k q hq).lt)), z.2, h1.2.2.2.1⟩, Nat.le_trans h1.2.2.1.1 hz, fun q q1 q2 => ?_⟩
  rw [hk q (Nat.lt_of_lt_of_le q1 h1.2.2.1.1)]
  exact h1.2.2.1.2.1 q q1 q2
theorem TO.hat {ik is ic : Nat} {cls text : String} (T : TO ik is ic cls text) (C : BX x cc own) : ∀ w ∈ vx_atS RX11 ic cls xnames, w.before (xa x) (xs x) = true := fun w hw => (T.2.2.2.2.2.1 w hw).elim (fun h => C.2.2.2.1 w h) (fun h => va_Nw.use (nb_on h) (C.2.2.2.2.2.2.2.2.2.1 w h))
theorem g_throwW (C : BX x cc RX11) {E : String} {px : pv_M → Prop} (X : EXT x N E px) {ik is ic : Nat} {text : String} (T : TO ik is ic E text) (d0 : decode cc pc = .ok (.new ik, 3)) (d3 : decode cc (pc + 3) = .ok (.dup, 1)) (d4 : decode cc (pc + 4) = .ok (.ldc_w is, 3)) (d7 : decode cc (pc + 7) = .ok (.invokespecial ic, 3)) (d10 : decode cc (pc + 10) = .ok (.athrow, 1)) (hR : 5 < (xR x).frames ∧ (st.map fun v => v.category).sum + 82 ≤ (xR x).locals ∧ cs + 1 ≤ (xR x).cells ∧ sl + 6 ≤ (xR x).slots) (hp : px S) : GG x N cs sl lv st S pc := by
  intro α H locs ls h1 h2
  obtain ⟨e1, e2, e3, e4, e5⟩ := X
  obtain ⟨sa, hsa⟩ := C.2.2.2.2.2.2.2.2.1 _ T.2.2.2.2.1
  show W _ _ _ _ _ _ _ _ _ _ _ _ _ _ (xQ x) _
  rw [e2]
  exact vx_throwSW (names := xnames) (A := xA x) C.1 C.2.1 e5 C.2.2.1 T.1 T.2.1 (C.2.2.2.1 _ T.2.2.1) (C.2.2.2.1 _ T.2.2.2.1) hsa (T.hat C) T.2.2.2.2.2.2 C.2.2.2.2.2.2.1 C.2.2.2.2.2.2.2.1 h1.2.2.1 h2.1 d0 d3 d4 d7 d10 (fun z hz => (e4 z hz).elim) hR.1 (by rw [tv_cats]; exact hR.2.1) hR.2.2.1 hR.2.2.2 e1 (fun t _ hz hk => h1.thrown e3 hp hz hk) h1.2.2.1.2.2 hR.2.2.1 hR.2.2.2
theorem g_throwS (C : BX x cc RX11) {E : String} {px : pv_M → Prop} (X : EXT x N E px) {ik is ic : Nat} {text : String} (T : TO ik is ic E text) (d0 : decode cc pc = .ok (.new ik, 3)) (d3 : decode cc (pc + 3) = .ok (.dup, 1)) (d4 : decode cc (pc + 4) = .ok (.ldc is, 2)) (d6 : decode cc (pc + 6) = .ok (.invokespecial ic, 3)) (d9 : decode cc (pc + 9) = .ok (.athrow, 1)) (hR : 5 < (xR x).frames ∧ (st.map fun v => v.category).sum + 82 ≤ (xR x).locals ∧ cs + 1 ≤ (xR x).cells ∧ sl + 6 ≤ (xR x).slots) (hp : px S) : GG x N cs sl lv st S pc := by
  intro α H locs ls h1 h2
  obtain ⟨e1, e2, e3, e4, e5⟩ := X
  obtain ⟨sa, hsa⟩ := C.2.2.2.2.2.2.2.2.1 _ T.2.2.2.2.1
  show W _ _ _ _ _ _ _ _ _ _ _ _ _ _ (xQ x) _
  rw [e2]
  exact vx_throwS (names := xnames) (A := xA x) C.1 C.2.1 e5 C.2.2.1 T.1 T.2.1 (C.2.2.2.1 _ T.2.2.1) (C.2.2.2.1 _ T.2.2.2.1) hsa (T.hat C) T.2.2.2.2.2.2 C.2.2.2.2.2.2.1 C.2.2.2.2.2.2.2.1 h1.2.2.1 h2.1 d0 d3 d4 d6 d9 (fun z hz => (e4 z hz).elim) hR.1 (by rw [tv_cats]; exact hR.2.1) hR.2.2.1 hR.2.2.2 e1 (fun t _ hz hk => h1.thrown e3 hp hz hk) h1.2.2.1.2.2 hR.2.2.1 hR.2.2.2
/-- behind a call that threw: the exception goes on to the caller -/
theorem run_out {α : Nat → Nat} {H : Heap} {locs : List Loc} {ls : Array Slot} {st0 rest : List Value} {E : String} {px px' : pv_M → Prop} {mc ms : Nat} (C : BX x cc own) (X : EXT x N E px) (h1 : RW x N α S H locs)
    (hr : vx_Run x.1.1 x.1.2.1 x.1.2.2.1 (xR x) (xs x) (xm x) (xa x) x.2.1.2.2.2 x.2.2.1.1 (xc x) H locs cs sl mc ms (F0 (xm x) pc ls st0) rest (fun _ _ _ => False) (XcX (xD x) (xy x) α N (va_A (pv_wd (xy x) α N S) H.size) E px') (va_A (pv_wd (xy x) α N S) H.size)) (hp : ∀ S', px' S' → px S') (hc : cs + mc ≤ (xR x).cells) (hs : sl + ms ≤ (xR x).slots) : WW x H locs cs sl (F0 (xm x) pc ls st0) := by
  obtain ⟨e1, e2, e3, e4, e5⟩ := X
  show W _ _ _ _ _ _ _ _ _ _ _ _ _ _ (xQ x) _
  rw [e2]
  intro T hT XX
  rcases hr T hT XX with ⟨v, st₀, t, T', L, h0, X', hL, g1, g2, hF, st⟩ | ⟨q, st₀, t, T', L, E', ce, h0, X', hL, g1, g2, hx, hce, hcv, hcl, st⟩
  · exact hF.elim
  · obtain ⟨rfl, ⟨S', p1, p2, p3, p4⟩, hF⟩ := hx
    obtain ⟨k1, k2, k3'⟩ := vx_keep (A0 := xA x) (H0 := (xs x).heap) h0 g1 h1.2.2.1 (fun q _ h => h1.A C q h) (fun q h => h1.A C q h) hL hF
    have h2 : RW x N α S' T'.heap (locs ++ L) := ⟨by rw [g1]; exact p2, p3.weaken (fun _ _ _ h => h1.A C _ h), k3', p4, h1.2.2.2.2⟩
    obtain ⟨t2, a1, b1⟩ := vx_out (Qc := fun _ _ _ _ => False) (XC := XcX (xD x) (xy x) (xal x) N (xA x) E' px) (pc := pc) (ls := ls) (rest := rest) (mc := (xR x).cells) (ms := (xR x).slots) (free := xA x) (fun z hz => (e4 z hz).elim) e1 (by rw [g1]; exact hce) hcv hcl (fun t' ht' hvm => h2.thrown e3 (hp S' p1) (by rw [ht']; exact Nat.le_refl _) (fun q _ => by rw [ht'])) k3'.2.2 hc hs T' rfl X'
    exact ⟨t2, st.trans a1, b1⟩
theorem g_thrS (C : BX x cc own) {M : Me} {E : String} {px px' : pv_M → Prop} (X : EXT x N E px) {idx n : Nat} {As stk : List Value} (hM : mth x.1.2.1 M N As S E px') (L : SO own idx M n) (d : decode cc pc = .ok (.invokestatic idx, 3)) (hstk : stk = As.reverse ++ st) (hn : As.length = n) (hrm : rmOk M x cs sl) (hst : (st.map fun v => v.category).sum ≤ 8) (hp : ∀ S', px' S' → px S') : GG x N cs sl lv stk S pc := by
  intro α H locs ls h1 h2
  obtain ⟨hw, hd⟩ := L
  have hG : GoodIn TB (va_wsS own idx M.y M.ws) := tb_gi fun w h => by
    rcases List.mem_append.mp h with h | h
    · exact hw w (by simp only [List.mem_cons, List.not_mem_nil, or_false] at h ⊢; rcases h with h | h | h <;> simp [h])
    · exact Me.gi (hw _ (by simp)) w h
  have e0 : stk.map (tv (xb x) α) = (As.map (tv (xb x) α)).reverse ++ st.map (tv (xb x) α) := by
    rw [hstk, List.map_append, List.map_reverse]
  exact run_out C X h1 (vx_runS (As := As.map (tv (xb x) α)) (rest := st.map (tv (xb x) α)) ⟨C.1, C.2.1, h2.1.symm, C.2.2.1, C.2.2.2.1⟩ (hM (xD x) (xy x) (xb x) α H.size) (va_cwS n C.2.2.2.1 hG rfl rfl rfl hd hrm.1) ⟨PU.blind _ _ _ _ _ _ _, fun U hU hW => ⟨rfl, h1.PU C hU hW⟩⟩ rfl (by rw [List.length_map]; exact hn) rfl e0 (lv_room (by rw [tv_cats]; exact hst)) d hrm.2) hp hrm.2.1 hrm.2.2
theorem g_thrV (C : BX x cc own) {M : Me} {E : String} {px px' : pv_M → Prop} (X : EXT x N E px) {idx ci r n : Nat} {As stk : List Value} (hM : mth x.1.2.1 M N (.ref r :: As) S E px') (L : VO own idx ci M n) (d : decode cc pc = .ok (.invokevirtual idx, 3)) (hstk : stk = As.reverse ++ .ref r :: st) (hs : pv_sh r = .inl ci) (hr : r < N) (hn : As.length = n) (hrm : rmOk M x cs sl) (hst : (st.map fun v => v.category).sum ≤ 8) (hp : ∀ S', px' S' → px S') : GG x N cs sl lv stk S pc := by
  intro α H locs ls h1 h2
  obtain ⟨⟨Cn, T, nn⟩, hcl, hw, hd⟩ := L
  have hG : GoodIn TB (wsV own idx Cn M.y M.ws) := tb_gi fun w h => by
    rcases List.mem_append.mp h with h | h
    · exact hw w (by simp only [List.mem_cons, List.not_mem_nil, or_false] at h ⊢; rcases h with h | h | h | h <;> simp [h])
    · exact Me.gi (hw _ (by simp)) w h
  have e0 : stk.map (tv (xb x) α) = (As.map (tv (xb x) α)).reverse ++ .ref (α r) :: st.map (tv (xb x) α) := by
    rw [hstk, List.map_append, List.map_reverse]
    rfl
  exact run_out C X h1 (vx_runV (C := Cn) (b := α r) (As := As.map (tv (xb x) α)) (rest := st.map (tv (xb x) α)) ⟨C.1, C.2.1, h2.1.symm, C.2.2.1, C.2.2.2.1⟩ (hM (xD x) (xy x) (xb x) α H.size) (cwV n C.2.2.2.1 hG rfl rfl rfl hd hrm.1) ⟨PU.blind _ _ _ _ _ _ _, va_recv C.2.2.2.2.1 h1.1 hcl (pv_wd_o hr hs), fun U hU hW => ⟨rfl, h1.PU C hU hW⟩⟩ rfl (by rw [List.length_map]; exact hn) rfl e0 (lv_room (by rw [tv_cats]; exact hst)) d hrm.2) hp hrm.2.1 hrm.2.2
end TH
