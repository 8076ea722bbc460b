theorem td_first {δ δ' : Nat → Nat → Nat} {acc acc' : Nat → Bool} {R R' : List Nat} (t : Tied δ δ' acc acc' R R') {s : Nat} (hs : s < R'.length) (hs1 : acc' (R'.getD s 0) = true) (hs2 : ∀ j, j < s → acc' (R'.getD j 0) = false) {v : Option Value} (h : (∃ i, i < R.length ∧ acc (R.getD i 0) = true ∧ (∀ j, j < i → acc (R.getD j 0) = false) ∧ v = some (.int (nI i))) ∨ ((∀ j, j < R.length → acc (R.getD j 0) = false) ∧ v = some (.int (-1)))) : v = some (.int (nI s)) := by
  have hsR : s < R.length := by rw [← t.1]; exact hs
  rcases h with ⟨i, i1, i2, i3, e⟩ | ⟨i3, _⟩
  · rcases Nat.lt_trichotomy i s with z | z | z
    · have a := hs2 i z
      rw [t.2.2.2.1 i i1, i2] at a
      exact absurd a (by decide)
    · rw [e, z]
    · have a := i3 s z
      rw [← t.2.2.2.1 s hsR, hs1] at a
      exact absurd a (by decide)
  · have a := i3 s hsR
    rw [← t.2.2.2.1 s hsR, hs1] at a
    exact absurd a (by decide)
theorem td_none {δ δ' : Nat → Nat → Nat} {acc acc' : Nat → Bool} {R R' : List Nat} (t : Tied δ δ' acc acc' R R') (hno : ∀ j, j < R'.length → acc' (R'.getD j 0) = false) {v : Option Value} (h : (∃ i, i < R.length ∧ acc (R.getD i 0) = true ∧ (∀ j, j < i → acc (R.getD j 0) = false) ∧ v = some (.int (nI i))) ∨ ((∀ j, j < R.length → acc (R.getD j 0) = false) ∧ v = some (.int (-1)))) : v = some (.int (-1)) := by
  rcases h with ⟨i, i1, i2, i3, e⟩ | ⟨i3, e⟩
  · have a := hno i (by rw [t.1]; exact i1)
    rw [t.2.2.2.1 i i1, i2] at a
    exact absurd a (by decide)
  · exact e
theorem or_tied {δ δ' : Nat → Nat → Nat} {acc acc' : Nat → Bool} {R R' : List Nat} (t : Tied δ δ' acc acc' R R') {O : Nat → Nat} (h : Or_ R'.length (nxt δ' R') O) : Or_ R.length (nxt δ R) O := by
  refine ⟨h.1, fun j h0 hj => ?_⟩
  obtain ⟨a, b, c, d⟩ := h.2 j h0 (by rw [t.1]; exact hj)
  rw [t.1] at a
  exact ⟨a, b, by rw [← t.2.2.1 _ a]; exact c, fun p hp => by rw [← t.2.2.1 _ (by omega)]; exact d p hp⟩

set_option maxRecDepth 100000 in
theorem c_takeDifference (l : Launch) {S : pv_M} {A : Ab} (hC : CSt S A) {a : Nat} (ha : a < 3) (ga : gdR (A.1.1 a)) {b : Nat} (hb : b < 3) (gb : gdR (A.1.1 b)) {s : Nat} (hs : s < (bf (dP' A a b) 0).length) (hs1 : aP' A 3 a b ((bf (dP' A a b) 0).getD s 0) = true) (hs2 : ∀ j, j < s → aP' A 3 a b ((bf (dP' A a b) 0).getD j 0) = false) {O : Nat → Nat} (hOr : Or_ (bf (dP' A a b) 0).length (nxt (dP' A a b) (bf (dP' A a b) 0)) O) (hW : wl O (bf (dP' A a b) 0).length s ≤ 12) : mt l MX11_takeDifference 106 [.ref 0, .int (nI (a)), .int (nI (b))] S (fun v S' => v = some (.int (nI (wl O (bf (dP' A a b) 0).length s))) ∧ CSt S' (setW A (wl O (bf (dP' A a b) 0).length s, fw O (bf (dP' A a b) 0).length s (wL A))) ∧ FR cC S S') := by
  refine mt_of (by decide) (Nat.le_of_ble_eq_true rfl) ?_
  intro x hl hR hmL C E
  show GG x 106 0 0 [.ref 0, .int (nI (a)), .int (nI (b)), unk] [] S 0
  have hS := hC.1
  refine g_iload_n C dX11_takeDifference_0 rfl ?_
  refine g_callS C (k_checkRegister _ ha) so_X11_88 dX11_takeDifference_1 rfl rfl (rm_ok (M' := MX11_takeDifference) hR (by decide)) (Nat.le_of_ble_eq_true rfl) (fun v9 S9 h9 => ?_)
  obtain ⟨rfl, h9⟩ := h9
  refine g_S S h9 ?_
  refine g_n0 [] rfl rfl rfl ?_
  refine g_iload_n C dX11_takeDifference_4 rfl ?_
  refine g_callS C (k_checkRegister _ hb) so_X11_88 dX11_takeDifference_5 rfl rfl (rm_ok (M' := MX11_takeDifference) hR (by decide)) (Nat.le_of_ble_eq_true rfl) (fun v9 S9 h9 => ?_)
  obtain ⟨rfl, h9⟩ := h9
  refine g_S S h9 ?_
  refine g_n0 [] rfl rfl rfl ?_
  refine g_aload_n C dX11_takeDifference_8 rfl ?_
  refine g_getR C fo_X11_41 dX11_takeDifference_9 rfl (by decide) (fun _ => rfl) (gs_0_7 hS) ?_
  refine n_iconst C 3 dX11_takeDifference_12 ?_
  refine g_aload_n C dX11_takeDifference_13 rfl ?_
  refine g_getR C fo_X11_11 dX11_takeDifference_14 rfl (by decide) (fun _ => rfl) (gs_0_0 hS) ?_
  refine g_iload_n C dX11_takeDifference_17 rfl ?_
  refine g_aald C dX11_takeDifference_18 rfl (Or.inl rfl) (by decide) (by omega) rfl (hS.reg ha) ?_
  refine g_aload_n C dX11_takeDifference_19 rfl ?_
  refine g_getR C fo_X11_11 dX11_takeDifference_20 rfl (by decide) (fun _ => rfl) (gs_0_0 hS) ?_
  refine g_iload_n C dX11_takeDifference_23 rfl ?_
  refine g_aald C dX11_takeDifference_24 rfl (Or.inl rfl) (by decide) (by omega) rfl (hS.reg hb) ?_
  refine g_callV C (As := [.int (nI (3)), .ref (53 + 4 * a), .ref (53 + 4 * b)]) (c_X6_prepare _ (by omega) (by omega)) vo_X11_225 dX11_takeDifference_25 rfl rfl (by decide) rfl (rm_ok (M' := MX11_takeDifference) hR (by decide)) (Nat.le_of_ble_eq_true rfl) (fun v9 S7 h9 => ?_)
  obtain ⟨rfl, hz⟩ := h9
  have p2 : FR (fun r => r = 8) S S7 := by rw [hz]; exact ((FN.wI (P := fun r => r = 8) rfl).fr.tr (FR.wR rfl)).tr (FR.wR rfl)
  have p3 : GS S7 := by rw [hz]; exact ((hS.fn (FN.wI (P := fun r => r = 8) rfl)).wR (by decide)).wR (by decide)
  have p4 : mR S7 29 = mR S 29 := (p2 29 (by decide)).1
  have p5 : mR S7 21 = mR S 21 := (p2 21 (by decide)).1
  have p1 : PPr 3 (53 + 4 * a) (54 + 4 * a) (rN A a) (rF A a) (53 + 4 * b) (54 + 4 * b) (rN A b) (rF A b) (rT A a) (rT A b) S7 := ⟨by rw [hz]; rfl, by rw [hz]; rfl, by rw [hz]; rfl, (hC.2.2.2.1 a ha).keepR p2 (by omega) (by omega), (hC.2.2.2.1 b hb).keepR p2 (by omega) (by omega)⟩
  have hC7 : CSt S7 A := hC.frP p2 (fun r z => Or.inl (by omega)) p3 (hC.2.1.of p4) (hC.2.2.1.of p5)
  have hF7 : FR cC S S7 := p2.mono (fun r z => by show r ≤ 74; omega)
  refine g_n0 [] rfl rfl rfl ?_
  refine g_aload_n C dX11_takeDifference_28 rfl ?_
  refine g_getR C fo_X11_77 dX11_takeDifference_29 rfl (by decide) (fun _ => rfl) (gs_0_6 p3) ?_
  refine g_aload_n C dX11_takeDifference_32 rfl ?_
  refine g_getR C fo_X11_41 dX11_takeDifference_33 rfl (by decide) (fun _ => rfl) (gs_0_7 p3) ?_
  refine g_callV C (As := [.ref 8]) (c_X5_explore _ (mach_pr _ (fun z => absurd z.2 (by omega)) (fun z => absurd z.2 (by omega)) (fun z => absurd z.2 (by omega)) (fun z => absurd z.2 (by omega)) (by decide) ga.1 ga.2.1 ga.2.2.1 ga.2.2.2 gb.1 gb.2.1 gb.2.2.1 gb.2.2.2) p1 p3.mrf) vo_X11_228 dX11_takeDifference_36 rfl rfl (by decide) rfl (rm_ok (M' := MX11_takeDifference) hR (by decide)) (Nat.le_of_ble_eq_true rfl) (fun v9 S9 h9 => ?_)
  obtain ⟨rfl, e1, e2⟩ := h9
  have g3 := p3.fn e1
  have hT := tie_p (p := 3) (by decide) ga gb e2.2.2.2.1
  obtain ⟨hC9, hF9⟩ := hC7.run e1.fr g3 (hC7.2.1.of (congrFun e1.1 29))
  refine g_n0 [] rfl rfl rfl ?_
  refine g_aload_n C dX11_takeDifference_39 rfl ?_
  refine g_getR C fo_X11_77 dX11_takeDifference_40 rfl (by decide) (fun _ => rfl) (gs_0_6 g3) ?_
  refine g_callV C (As := []) (c_X5_firstAccepting _ e2.1) vo_X11_232 dX11_takeDifference_43 rfl rfl (by decide) rfl (rm_ok (M' := MX11_takeDifference) hR (by decide)) (Nat.le_of_ble_eq_true rfl) (fun v9 S5 h9 => ?_)
  obtain ⟨h9, hz⟩ := h9
  have hv : v9 = some (.int (nI (s))) := td_first hT hs hs1 hs2 hz
  subst hv
  refine g_S S9 h9 ?_
  have hsR : s < (bfsF (dP A a b) 36 0 [0]).length := by rw [← hT.1]; exact hs
  have hO1 := or_tied hT hOr
  obtain ⟨O9, hO9, h339⟩ := e2.2.2.2.2
  have h33 : ∀ i, i < (bfsF (dP A a b) 36 0 [0]).length → mI S9 33 i = nI (O i) := fun i hi => by rw [Or_uniq hO1 hO9 i hi]; exact h339 i hi
  have hk4 : (bfsF (dP A a b) 36 0 [0]).length ≤ 384 := e2.1.2.2.2.1
  have hOa : ∀ j, 0 < j → j < (bfsF (dP A a b) 36 0 [0]).length → O j / 3 < j := fun j h1 h2 => (hO1.2 j h1 h2).2.1
  have hOb : ∀ j, j < (bfsF (dP A a b) 36 0 [0]).length → O j < 3000 := fun j hj => by
    rcases Nat.eq_zero_or_pos j with z | z
    · rw [z, hO1.1]; decide
    · have := (hO1.2 j z hj).1; omega
  have t5 := gs_29_5 g3
  have hwk := wl_le hOa (bfsF (dP A a b) 36 0 [0]).length s hsR
  have hW9 : wl O (bfsF (dP A a b) 36 0 [0]).length s ≤ 12 := by rw [← hT.1]; exact hW
  refine g_n0 [.int (nI (s))] rfl rfl rfl ?_
  refine g_istore_n C (by rw [hmL]; decide) dX11_takeDifference_46 [.ref 0, .int (nI (a)), .int (nI (b)), .int (nI (s))] rfl ?_
  refine g_iload_n C dX11_takeDifference_47 rfl ?_
  refine g_if_ge C 61 dX11_takeDifference_48 (by decide) (fun h48 => ?_) (fun h48 => absurd (show nI 0 ≤ nI (s) from (nI_leI (by decide) (by omega)).mpr (Nat.zero_le _)) h48)
  refine g_aload_n C dX11_takeDifference_61 rfl ?_
  refine g_getR C fo_X11_77 dX11_takeDifference_62 rfl (by decide) (fun _ => rfl) (gs_0_6 g3) ?_
  refine g_iload_n C dX11_takeDifference_65 rfl ?_
  refine g_callV C (As := [.int (nI (s))]) (c_X5_firstWordLength _ t5 h33 hOa hOb hk4 hsR) vo_X11_242 dX11_takeDifference_66 rfl rfl (by decide) rfl (rm_ok (M' := MX11_takeDifference) hR (by decide)) (Nat.le_of_ble_eq_true rfl) (fun v9 S5 h9 => ?_)
  obtain ⟨rfl, h9⟩ := h9
  refine g_S S9 h9 ?_
  refine g_n0 [.int (nI (wl O (bfsF (dP A a b) 36 0 [0]).length s))] rfl rfl rfl ?_
  refine g_callS C (k_checkWordLength _ hW9) so_X11_134 dX11_takeDifference_69 rfl rfl (rm_ok (M' := MX11_takeDifference) hR (by decide)) (Nat.le_of_ble_eq_true rfl) (fun v9 S5 h9 => ?_)
  obtain ⟨rfl, h9⟩ := h9
  refine g_S S9 h9 ?_
  refine g_n0 [] rfl rfl rfl ?_
  refine g_aload_n C dX11_takeDifference_72 rfl ?_
  refine g_getR C fo_X11_77 dX11_takeDifference_73 rfl (by decide) (fun _ => rfl) (gs_0_6 g3) ?_
  refine g_iload_n C dX11_takeDifference_76 rfl ?_
  refine g_aload_n C dX11_takeDifference_77 rfl ?_
  refine g_getR C fo_X11_21 dX11_takeDifference_78 rfl (by decide) (fun _ => rfl) (gs_0_2 g3) ?_
  refine g_callV C (As := [.int (nI (s)), .ref 3]) (c_X5_writeFirstWord _ hC9.2.2.2.2.1 t5 hOa hOb hk4 h33 hsR hW9 (by decide) (by decide)) vo_X11_243 dX11_takeDifference_81 rfl rfl (by decide) rfl (rm_ok (M' := MX11_takeDifference) hR (by decide)) (Nat.le_of_ble_eq_true rfl) (fun v9 S8 h9 => ?_)
  obtain ⟨rfl, w1, w2⟩ := h9
  have hS8 := g3.fn w2
  refine g_n0 [] rfl rfl rfl ?_
  refine g_aload_n C dX11_takeDifference_84 rfl ?_
  refine g_getR C fo_X11_21 dX11_takeDifference_85 rfl (by decide) (fun _ => rfl) (gs_0_2 hS8) ?_
  refine g_getI C fo_X11_131 dX11_takeDifference_88 rfl (by decide) (fun _ => rfl) w1.2.2.2.2.2.1 ?_
  exact g_iret C E dX11_takeDifference_91 (by rw [hR]; decide) (by rw [hR]; decide) ⟨by rw [hT.1], by rw [hT.1]; exact hC9.setW w2.fr (fun r z => Or.inr z) hS8 (hC9.2.1.of (congrFun w2.1 29)) (hC9.2.2.1.of (congrFun w2.1 21)) w1, (hF7.tr hF9).tr (w2.fr.mono (fun r z => by rcases z with z | z <;> (show r ≤ 74; omega)))⟩

set_option maxRecDepth 100000 in
theorem t_takeDifference_long {l : Launch} (hst : l.stackTraces = false) {S : pv_M} {A : Ab} (hC : CSt S A) {a : Nat} (ha : a < 3) (ga : gdR (A.1.1 a)) {b : Nat} (hb : b < 3) (gb : gdR (A.1.1 b)) {s : Nat} (hs : s < (bf (dP' A a b) 0).length) (hs1 : aP' A 3 a b ((bf (dP' A a b) 0).getD s 0) = true) (hs2 : ∀ j, j < s → aP' A 3 a b ((bf (dP' A a b) 0).getD j 0) = false) {O : Nat → Nat} (hOr : Or_ (bf (dP' A a b) 0).length (nxt (dP' A a b) (bf (dP' A a b) 0)) O) (hW : 12 < wl O (bf (dP' A a b) 0).length s) : mth l MX11_takeDifference.th 106 [.ref 0, .int (nI (a)), .int (nI (b))] S "java/lang/IllegalStateException" (fun S' => CSt S' A ∧ FR cC S S') := by
  refine mth_of hst (by decide) (Nat.le_of_ble_eq_true rfl) ?_
  intro x hl hR hmL C X
  have hst' : x.1.2.1.stackTraces = false := by rw [hl]; exact hst
  show GG x 106 0 0 [.ref 0, .int (nI (a)), .int (nI (b)), unk] [] S 0
  have hS := hC.1
  refine g_iload_n C dX11_takeDifference_0 rfl ?_
  refine g_callS C (k_checkRegister _ ha) so_X11_88 dX11_takeDifference_1 rfl rfl (rm_ok (M' := MX11_takeDifference.th) hR (by decide)) (Nat.le_of_ble_eq_true rfl) (fun v9 S9 h9 => ?_)
  obtain ⟨rfl, h9⟩ := h9
  refine g_S S h9 ?_
  refine g_n0 [] rfl rfl rfl ?_
  refine g_iload_n C dX11_takeDifference_4 rfl ?_
  refine g_callS C (k_checkRegister _ hb) so_X11_88 dX11_takeDifference_5 rfl rfl (rm_ok (M' := MX11_takeDifference.th) hR (by decide)) (Nat.le_of_ble_eq_true rfl) (fun v9 S9 h9 => ?_)
  obtain ⟨rfl, h9⟩ := h9
  refine g_S S h9 ?_
  refine g_n0 [] rfl rfl rfl ?_
  refine g_aload_n C dX11_takeDifference_8 rfl ?_
  refine g_getR C fo_X11_41 dX11_takeDifference_9 rfl (by decide) (fun _ => rfl) (gs_0_7 hS) ?_
  refine n_iconst C 3 dX11_takeDifference_12 ?_
  refine g_aload_n C dX11_takeDifference_13 rfl ?_
  refine g_getR C fo_X11_11 dX11_takeDifference_14 rfl (by decide) (fun _ => rfl) (gs_0_0 hS) ?_
  refine g_iload_n C dX11_takeDifference_17 rfl ?_
  refine g_aald C dX11_takeDifference_18 rfl (Or.inl rfl) (by decide) (by omega) rfl (hS.reg ha) ?_
  refine g_aload_n C dX11_takeDifference_19 rfl ?_
  refine g_getR C fo_X11_11 dX11_takeDifference_20 rfl (by decide) (fun _ => rfl) (gs_0_0 hS) ?_
  refine g_iload_n C dX11_takeDifference_23 rfl ?_
  refine g_aald C dX11_takeDifference_24 rfl (Or.inl rfl) (by decide) (by omega) rfl (hS.reg hb) ?_
  refine g_callV C (As := [.int (nI (3)), .ref (53 + 4 * a), .ref (53 + 4 * b)]) (c_X6_prepare _ (by omega) (by omega)) vo_X11_225 dX11_takeDifference_25 rfl rfl (by decide) rfl (rm_ok (M' := MX11_takeDifference.th) hR (by decide)) (Nat.le_of_ble_eq_true rfl) (fun v9 S7 h9 => ?_)
  obtain ⟨rfl, hz⟩ := h9
  have p2 : FR (fun r => r = 8) S S7 := by rw [hz]; exact ((FN.wI (P := fun r => r = 8) rfl).fr.tr (FR.wR rfl)).tr (FR.wR rfl)
  have p3 : GS S7 := by rw [hz]; exact ((hS.fn (FN.wI (P := fun r => r = 8) rfl)).wR (by decide)).wR (by decide)
  have p4 : mR S7 29 = mR S 29 := (p2 29 (by decide)).1
  have p5 : mR S7 21 = mR S 21 := (p2 21 (by decide)).1
  have p1 : PPr 3 (53 + 4 * a) (54 + 4 * a) (rN A a) (rF A a) (53 + 4 * b) (54 + 4 * b) (rN A b) (rF A b) (rT A a) (rT A b) S7 := ⟨by rw [hz]; rfl, by rw [hz]; rfl, by rw [hz]; rfl, (hC.2.2.2.1 a ha).keepR p2 (by omega) (by omega), (hC.2.2.2.1 b hb).keepR p2 (by omega) (by omega)⟩
  have hC7 : CSt S7 A := hC.frP p2 (fun r z => Or.inl (by omega)) p3 (hC.2.1.of p4) (hC.2.2.1.of p5)
  have hF7 : FR cC S S7 := p2.mono (fun r z => by show r ≤ 74; omega)
  refine g_n0 [] rfl rfl rfl ?_
  refine g_aload_n C dX11_takeDifference_28 rfl ?_
  refine g_getR C fo_X11_77 dX11_takeDifference_29 rfl (by decide) (fun _ => rfl) (gs_0_6 p3) ?_
  refine g_aload_n C dX11_takeDifference_32 rfl ?_
  refine g_getR C fo_X11_41 dX11_takeDifference_33 rfl (by decide) (fun _ => rfl) (gs_0_7 p3) ?_
  refine g_callV C (As := [.ref 8]) (c_X5_explore _ (mach_pr _ (fun z => absurd z.2 (by omega)) (fun z => absurd z.2 (by omega)) (fun z => absurd z.2 (by omega)) (fun z => absurd z.2 (by omega)) (by decide) ga.1 ga.2.1 ga.2.2.1 ga.2.2.2 gb.1 gb.2.1 gb.2.2.1 gb.2.2.2) p1 p3.mrf) vo_X11_228 dX11_takeDifference_36 rfl rfl (by decide) rfl (rm_ok (M' := MX11_takeDifference.th) hR (by decide)) (Nat.le_of_ble_eq_true rfl) (fun v9 S9 h9 => ?_)
  obtain ⟨rfl, e1, e2⟩ := h9
  have g3 := p3.fn e1
  have hT := tie_p (p := 3) (by decide) ga gb e2.2.2.2.1
  obtain ⟨hC9, hF9⟩ := hC7.run e1.fr g3 (hC7.2.1.of (congrFun e1.1 29))
  refine g_n0 [] rfl rfl rfl ?_
  refine g_aload_n C dX11_takeDifference_39 rfl ?_
  refine g_getR C fo_X11_77 dX11_takeDifference_40 rfl (by decide) (fun _ => rfl) (gs_0_6 g3) ?_
  refine g_callV C (As := []) (c_X5_firstAccepting _ e2.1) vo_X11_232 dX11_takeDifference_43 rfl rfl (by decide) rfl (rm_ok (M' := MX11_takeDifference.th) hR (by decide)) (Nat.le_of_ble_eq_true rfl) (fun v9 S5 h9 => ?_)
  obtain ⟨h9, hz⟩ := h9
  have hv : v9 = some (.int (nI (s))) := td_first hT hs hs1 hs2 hz
  subst hv
  refine g_S S9 h9 ?_
  have hsR : s < (bfsF (dP A a b) 36 0 [0]).length := by rw [← hT.1]; exact hs
  have hO1 := or_tied hT hOr
  obtain ⟨O9, hO9, h339⟩ := e2.2.2.2.2
  have h33 : ∀ i, i < (bfsF (dP A a b) 36 0 [0]).length → mI S9 33 i = nI (O i) := fun i hi => by rw [Or_uniq hO1 hO9 i hi]; exact h339 i hi
  have hk4 : (bfsF (dP A a b) 36 0 [0]).length ≤ 384 := e2.1.2.2.2.1
  have hOa : ∀ j, 0 < j → j < (bfsF (dP A a b) 36 0 [0]).length → O j / 3 < j := fun j h1 h2 => (hO1.2 j h1 h2).2.1
  have hOb : ∀ j, j < (bfsF (dP A a b) 36 0 [0]).length → O j < 3000 := fun j hj => by
    rcases Nat.eq_zero_or_pos j with z | z
    · rw [z, hO1.1]; decide
    · have := (hO1.2 j z hj).1; omega
  have t5 := gs_29_5 g3
  have hwk := wl_le hOa (bfsF (dP A a b) 36 0 [0]).length s hsR
  have hW9 : 12 < wl O (bfsF (dP A a b) 36 0 [0]).length s := by rw [← hT.1]; exact hW
  refine g_n0 [.int (nI (s))] rfl rfl rfl ?_
  refine g_istore_n C (by rw [hmL]; decide) dX11_takeDifference_46 [.ref 0, .int (nI (a)), .int (nI (b)), .int (nI (s))] rfl ?_
  refine g_iload_n C dX11_takeDifference_47 rfl ?_
  refine g_if_ge C 61 dX11_takeDifference_48 (by decide) (fun h48 => ?_) (fun h48 => absurd (show nI 0 ≤ nI (s) from (nI_leI (by decide) (by omega)).mpr (Nat.zero_le _)) h48)
  refine g_aload_n C dX11_takeDifference_61 rfl ?_
  refine g_getR C fo_X11_77 dX11_takeDifference_62 rfl (by decide) (fun _ => rfl) (gs_0_6 g3) ?_
  refine g_iload_n C dX11_takeDifference_65 rfl ?_
  refine g_callV C (As := [.int (nI (s))]) (c_X5_firstWordLength _ t5 h33 hOa hOb hk4 hsR) vo_X11_242 dX11_takeDifference_66 rfl rfl (by decide) rfl (rm_ok (M' := MX11_takeDifference.th) hR (by decide)) (Nat.le_of_ble_eq_true rfl) (fun v9 S5 h9 => ?_)
  obtain ⟨rfl, h9⟩ := h9
  refine g_S S9 h9 ?_
  refine g_n0 [.int (nI (wl O (bfsF (dP A a b) 36 0 [0]).length s))] rfl rfl rfl ?_
  exact g_thrS C X (t_checkWordLength hst' hW9 (by omega)) so_X11_134 dX11_takeDifference_69 rfl rfl (rm_ok (M' := MX11_takeDifference.th) hR (by decide)) (Nat.le_of_ble_eq_true rfl) (fun S2 h2 => by rw [h2]; exact ⟨hC9, hF7.tr hF9⟩)
