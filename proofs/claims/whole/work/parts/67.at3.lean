set_option maxRecDepth 100000 in
theorem m_atomCount (l : Launch) {S : pv_M} {A : Ab} (hS : GS S) (hM : MSt S A) {a : Nat} (ha : a < 3) (hg : gdR (A.1.1 a)) : mt l MX12_atomCount 106 [.ref 75, .int (nI (a))] S (fun v S' => v = some (.int (nI (AL A a).length)) ∧ mI S' 75 0 = nI 0 ∧ MSt S' A ∧ FN mC S S') := by
  refine mt_of (by decide) (Nat.le_of_ble_eq_true rfl) ?_
  intro x hl hR hmL C E
  show GG x 106 0 0 [.ref 75, .int (nI (a))] [] S 0
  subst hl
  refine g_iload_n C dX12_atomCount_0 rfl ?_
  refine g_callS C (k_isRegister _ ha) so_X12_106 dX12_atomCount_1 rfl rfl (rm_ok (M' := MX12_atomCount) hR (by decide)) (Nat.le_of_ble_eq_true rfl) (fun v9 S9 h9 => ?_)
  obtain ⟨rfl, h9⟩ := h9
  refine g_S S h9 ?_
  refine g_n0 [.int (bI (true))] rfl rfl rfl ?_
  refine b_if_ne C 13 dX12_atomCount_4 (fun h4 => ?_) (fun h4 => absurd h4 (by decide))
  refine g_aload_n C dX12_atomCount_13 rfl ?_
  refine g_iload_n C dX12_atomCount_14 rfl ?_
  refine g_callV C (As := [.int (nI (a))]) (k_tellAtoms _ hS hM ha hg) vo_X12_244 dX12_atomCount_15 rfl rfl (by decide) rfl (rm_ok (M' := MX12_atomCount) hR (by decide)) (Nat.le_of_ble_eq_true rfl) (fun v9 S1 h9 => ?_)
  obtain ⟨rfl, q1, a1, t1⟩ := h9
  have hS1 : GS S1 := hS.fn t1.1.1
  have hM1 : MSt S1 A := hM.fs t1.1
  have h64 := a1.2.2.1
  refine g_n0 [] rfl rfl rfl ?_
  refine g_aload_n C dX12_atomCount_18 rfl ?_
  refine g_aload_n C dX12_atomCount_19 rfl ?_
  refine g_getI C (a := (nI ((AL A a).length))) fo_X12_195 dX12_atomCount_20 rfl (by decide) (fun _ => rfl) a1.1 ?_
  refine g_callV C (As := [.int (nI ((AL A a).length))]) (k_done _ hS1) vo_X12_132 dX12_atomCount_23 rfl rfl (by decide) rfl (rm_ok (M' := MX12_atomCount) hR (by decide)) (Nat.le_of_ble_eq_true rfl) (fun v9 S9 h9 => ?_)
  obtain ⟨rfl, h9⟩ := h9
  refine g_S (wI S1 75 (va_up (mI S1 75) 0 (nI 0))) h9 ?_
  refine g_n0 [.int (nI ((AL A a).length))] rfl rfl rfl ?_
  exact g_iret C E dX12_atomCount_26 (by rw [hR]; decide) (by rw [hR]; decide) ⟨rfl, th_0, hM1.fs th_fs, t1.1.mC.tr th_fs.mC⟩

set_option maxRecDepth 100000 in
theorem m_atomSet (l : Launch) {S : pv_M} {A : Ab} (hS : GS S) (hM : MSt S A) {a : Nat} (ha : a < 3) (hg : gdR (A.1.1 a)) {p : Nat} (hp : p < (AL A a).length) : mt l MX12_atomSet 106 [.ref 75, .int (nI (a)), .int (nI (p))] S (fun v S' => v = some (.int (nI ((AL A a).getD p 0))) ∧ mI S' 75 0 = nI 0 ∧ MSt S' A ∧ FN mC S S') := by
  refine mt_of (by decide) (Nat.le_of_ble_eq_true rfl) ?_
  intro x hl hR hmL C E
  show GG x 106 0 0 [.ref 75, .int (nI (a)), .int (nI (p))] [] S 0
  subst hl
  refine g_iload_n C dX12_atomSet_0 rfl ?_
  refine g_callS C (k_isRegister _ ha) so_X12_106 dX12_atomSet_1 rfl rfl (rm_ok (M' := MX12_atomSet) hR (by decide)) (Nat.le_of_ble_eq_true rfl) (fun v9 S9 h9 => ?_)
  obtain ⟨rfl, h9⟩ := h9
  refine g_S S h9 ?_
  refine g_n0 [.int (bI (true))] rfl rfl rfl ?_
  refine b_if_ne C 13 dX12_atomSet_4 (fun h4 => ?_) (fun h4 => absurd h4 (by decide))
  refine g_aload_n C dX12_atomSet_13 rfl ?_
  refine g_iload_n C dX12_atomSet_14 rfl ?_
  refine g_callV C (As := [.int (nI (a))]) (k_tellAtoms _ hS hM ha hg) vo_X12_244 dX12_atomSet_15 rfl rfl (by decide) rfl (rm_ok (M' := MX12_atomSet) hR (by decide)) (Nat.le_of_ble_eq_true rfl) (fun v9 S1 h9 => ?_)
  obtain ⟨rfl, q1, a1, t1⟩ := h9
  have hS1 : GS S1 := hS.fn t1.1.1
  have hM1 : MSt S1 A := hM.fs t1.1
  have h64 := a1.2.2.1
  refine g_n0 [] rfl rfl rfl ?_
  refine g_aload_n C dX12_atomSet_18 rfl ?_
  refine g_iload_n C dX12_atomSet_19 rfl ?_
  refine g_callV C (As := [.int (nI (p))]) (k_isAtom _ hS1 a1 hp) vo_X12_248 dX12_atomSet_20 rfl rfl (by decide) rfl (rm_ok (M' := MX12_atomSet) hR (by decide)) (Nat.le_of_ble_eq_true rfl) (fun v9 S9 h9 => ?_)
  obtain ⟨rfl, h9⟩ := h9
  refine g_S S1 h9 ?_
  refine g_n0 [.int (bI (true))] rfl rfl rfl ?_
  refine b_if_eq C 39 dX12_atomSet_23 (fun h23 => absurd h23 (by decide)) (fun h23 => ?_)
  refine g_aload_n C dX12_atomSet_26 rfl ?_
  refine g_aload_n C dX12_atomSet_27 rfl ?_
  refine g_getR C fo_X12_74 dX12_atomSet_28 rfl (by decide) (fun _ => rfl) (gs_75_32 hS1) ?_
  refine g_iload_n C dX12_atomSet_31 rfl ?_
  refine n_iald C (v := (nI ((AL A a).getD p 0))) dX12_atomSet_32 rfl (by decide) (a1.2.1 _ (by omega)) ?_ (by omega)
  refine g_callV C (As := [.int (nI ((AL A a).getD p 0))]) (k_done _ hS1) vo_X12_132 dX12_atomSet_33 rfl rfl (by decide) rfl (rm_ok (M' := MX12_atomSet) hR (by decide)) (Nat.le_of_ble_eq_true rfl) (fun v9 S9 h9 => ?_)
  obtain ⟨rfl, h9⟩ := h9
  refine g_S (wI S1 75 (va_up (mI S1 75) 0 (nI 0))) h9 ?_
  refine g_n0 [.int (nI ((AL A a).getD p 0))] rfl rfl rfl ?_
  refine g_goto C 44 dX12_atomSet_36 (by decide) ?_
  exact g_iret C E dX12_atomSet_44 (by rw [hR]; decide) (by rw [hR]; decide) ⟨rfl, th_0, hM1.fs th_fs, t1.1.mC.tr th_fs.mC⟩

set_option maxRecDepth 100000 in
theorem m_atomSet_a (l : Launch) {S : pv_M} {A : Ab} (hS : GS S) (hM : MSt S A) {a : Nat} (ha : a < 3) (hg : gdR (A.1.1 a)) {p : Int32} (hp : badI p (AL A a).length) : mt l MX12_atomSet 106 [.ref 75, .int (nI (a)), .int (p)] S (fun v S' => v = some (.int (nI 0)) ∧ mI S' 75 0 = nI 1 ∧ MSt S' A ∧ FN mC S S') := by
  refine mt_of (by decide) (Nat.le_of_ble_eq_true rfl) ?_
  intro x hl hR hmL C E
  show GG x 106 0 0 [.ref 75, .int (nI (a)), .int (p)] [] S 0
  subst hl
  refine g_iload_n C dX12_atomSet_0 rfl ?_
  refine g_callS C (k_isRegister _ ha) so_X12_106 dX12_atomSet_1 rfl rfl (rm_ok (M' := MX12_atomSet) hR (by decide)) (Nat.le_of_ble_eq_true rfl) (fun v9 S9 h9 => ?_)
  obtain ⟨rfl, h9⟩ := h9
  refine g_S S h9 ?_
  refine g_n0 [.int (bI (true))] rfl rfl rfl ?_
  refine b_if_ne C 13 dX12_atomSet_4 (fun h4 => ?_) (fun h4 => absurd h4 (by decide))
  refine g_aload_n C dX12_atomSet_13 rfl ?_
  refine g_iload_n C dX12_atomSet_14 rfl ?_
  refine g_callV C (As := [.int (nI (a))]) (k_tellAtoms _ hS hM ha hg) vo_X12_244 dX12_atomSet_15 rfl rfl (by decide) rfl (rm_ok (M' := MX12_atomSet) hR (by decide)) (Nat.le_of_ble_eq_true rfl) (fun v9 S1 h9 => ?_)
  obtain ⟨rfl, q1, a1, t1⟩ := h9
  have hS1 : GS S1 := hS.fn t1.1.1
  have hM1 : MSt S1 A := hM.fs t1.1
  have h64 := a1.2.2.1
  refine g_n0 [] rfl rfl rfl ?_
  refine g_aload_n C dX12_atomSet_18 rfl ?_
  refine g_iload_n C dX12_atomSet_19 rfl ?_
  refine g_callV C (As := [.int (p)]) (k_isAtomF _ hS1 a1 hp) vo_X12_248 dX12_atomSet_20 rfl rfl (by decide) rfl (rm_ok (M' := MX12_atomSet) hR (by decide)) (Nat.le_of_ble_eq_true rfl) (fun v9 S9 h9 => ?_)
  obtain ⟨rfl, h9⟩ := h9
  refine g_S S1 h9 ?_
  refine g_n0 [.int (bI (false))] rfl rfl rfl ?_
  refine b_if_eq C 39 dX12_atomSet_23 (fun h23 => ?_) (fun h23 => absurd h23 (by decide))
  refine g_aload_n C dX12_atomSet_39 rfl ?_
  refine n_iconst C 1 dX12_atomSet_40 ?_
  refine g_callV C (As := [.int (nI (1))]) (k_fails _ hS1) vo_X12_136 dX12_atomSet_41 rfl rfl (by decide) rfl (rm_ok (M' := MX12_atomSet) hR (by decide)) (Nat.le_of_ble_eq_true rfl) (fun v9 S9 h9 => ?_)
  obtain ⟨rfl, h9⟩ := h9
  refine g_S (wI S1 75 (va_up (mI S1 75) 0 (nI 1))) h9 ?_
  refine g_n0 [.int (nI (0))] rfl rfl rfl ?_
  exact g_iret C E dX12_atomSet_44 (by rw [hR]; decide) (by rw [hR]; decide) ⟨rfl, th_0, hM1.fs th_fs, t1.1.mC.tr th_fs.mC⟩

set_option maxRecDepth 100000 in
theorem m_atomCount_r (l : Launch) {S : pv_M} {p : Int32} (hS : GS S) (h : badI p 3) : mt l MX12_atomCount 106 [.ref 75, .int (p)] S (fun v S' => v = some (.int (nI 0)) ∧ S' = th S 1) := by
  refine mt_of (by decide) (Nat.le_of_ble_eq_true rfl) ?_
  intro x hl hR hmL C E
  show GG x 106 0 0 [.ref 75, .int (p)] [] S 0
  refine g_iload_n C dX12_atomCount_0 rfl ?_
  refine g_callS C (k_isRegisterF _ h) so_X12_106 dX12_atomCount_1 rfl rfl (rm_ok (M' := MX12_atomCount) hR (by decide)) (Nat.le_of_ble_eq_true rfl) (fun v9 S9 h9 => ?_)
  obtain ⟨rfl, h9⟩ := h9
  refine g_S S h9 ?_
  refine g_n0 [.int (bI (false))] rfl rfl rfl ?_
  refine b_if_ne C 13 dX12_atomCount_4 (fun h4 => absurd h4 (by decide)) (fun h4 => ?_)
  refine g_aload_n C dX12_atomCount_7 rfl ?_
  refine n_iconst C 1 dX12_atomCount_8 ?_
  refine g_callV C (As := [.int (nI (1))]) (k_fails _ hS) vo_X12_136 dX12_atomCount_9 rfl rfl (by decide) rfl (rm_ok (M' := MX12_atomCount) hR (by decide)) (Nat.le_of_ble_eq_true rfl) (fun v9 S9 h9 => ?_)
  obtain ⟨rfl, h9⟩ := h9
  refine g_S (wI S 75 (va_up (mI S 75) 0 (nI 1))) h9 ?_
  refine g_n0 [.int (nI (0))] rfl rfl rfl ?_
  exact g_iret C E dX12_atomCount_12 (by rw [hR]; decide) (by rw [hR]; decide) ⟨rfl, rfl⟩

set_option maxRecDepth 100000 in
theorem m_atomSet_r (l : Launch) {S : pv_M} {p : Int32} (hS : GS S) (h : badI p 3) {q : Int32} : mt l MX12_atomSet 106 [.ref 75, .int (p), .int (q)] S (fun v S' => v = some (.int (nI 0)) ∧ S' = th S 1) := by
  refine mt_of (by decide) (Nat.le_of_ble_eq_true rfl) ?_
  intro x hl hR hmL C E
  show GG x 106 0 0 [.ref 75, .int (p), .int (q)] [] S 0
  refine g_iload_n C dX12_atomSet_0 rfl ?_
  refine g_callS C (k_isRegisterF _ h) so_X12_106 dX12_atomSet_1 rfl rfl (rm_ok (M' := MX12_atomSet) hR (by decide)) (Nat.le_of_ble_eq_true rfl) (fun v9 S9 h9 => ?_)
  obtain ⟨rfl, h9⟩ := h9
  refine g_S S h9 ?_
  refine g_n0 [.int (bI (false))] rfl rfl rfl ?_
  refine b_if_ne C 13 dX12_atomSet_4 (fun h4 => absurd h4 (by decide)) (fun h4 => ?_)
  refine g_aload_n C dX12_atomSet_7 rfl ?_
  refine n_iconst C 1 dX12_atomSet_8 ?_
  refine g_callV C (As := [.int (nI (1))]) (k_fails _ hS) vo_X12_136 dX12_atomSet_9 rfl rfl (by decide) rfl (rm_ok (M' := MX12_atomSet) hR (by decide)) (Nat.le_of_ble_eq_true rfl) (fun v9 S9 h9 => ?_)
  obtain ⟨rfl, h9⟩ := h9
  refine g_S (wI S 75 (va_up (mI S 75) 0 (nI 1))) h9 ?_
  refine g_n0 [.int (nI (0))] rfl rfl rfl ?_
  exact g_iret C E dX12_atomSet_12 (by rw [hR]; decide) (by rw [hR]; decide) ⟨rfl, rfl⟩

set_option maxRecDepth 100000 in
theorem m_atomOfWord_r (l : Launch) {S : pv_M} {p : Int32} (hS : GS S) (h : badI p 3) : mt l MX12_atomOfWord 106 [.ref 75, .int (p)] S (fun v S' => v = some (.int (nI 0)) ∧ S' = th S 1) := by
  refine mt_of (by decide) (Nat.le_of_ble_eq_true rfl) ?_
  intro x hl hR hmL C E
  show GG x 106 0 0 [.ref 75, .int (p), unk, unk] [] S 0
  refine g_iload_n C dX12_atomOfWord_0 rfl ?_
  refine g_callS C (k_isRegisterF _ h) so_X12_106 dX12_atomOfWord_1 rfl rfl (rm_ok (M' := MX12_atomOfWord) hR (by decide)) (Nat.le_of_ble_eq_true rfl) (fun v9 S9 h9 => ?_)
  obtain ⟨rfl, h9⟩ := h9
  refine g_S S h9 ?_
  refine g_n0 [.int (bI (false))] rfl rfl rfl ?_
  refine b_if_ne C 13 dX12_atomOfWord_4 (fun h4 => absurd h4 (by decide)) (fun h4 => ?_)
  refine g_aload_n C dX12_atomOfWord_7 rfl ?_
  refine n_iconst C 1 dX12_atomOfWord_8 ?_
  refine g_callV C (As := [.int (nI (1))]) (k_fails _ hS) vo_X12_136 dX12_atomOfWord_9 rfl rfl (by decide) rfl (rm_ok (M' := MX12_atomOfWord) hR (by decide)) (Nat.le_of_ble_eq_true rfl) (fun v9 S9 h9 => ?_)
  obtain ⟨rfl, h9⟩ := h9
  refine g_S (wI S 75 (va_up (mI S 75) 0 (nI 1))) h9 ?_
  refine g_n0 [.int (nI (0))] rfl rfl rfl ?_
  exact g_iret C E dX12_atomOfWord_12 (by rw [hR]; decide) (by rw [hR]; decide) ⟨rfl, rfl⟩

set_option maxRecDepth 100000 in
theorem m_finalAtom_r (l : Launch) {S : pv_M} {p : Int32} (hS : GS S) (h : badI p 3) : mt l MX12_finalAtom 106 [.ref 75, .int (p)] S (fun v S' => v = some (.int (nI 0)) ∧ S' = th S 1) := by
  refine mt_of (by decide) (Nat.le_of_ble_eq_true rfl) ?_
  intro x hl hR hmL C E
  show GG x 106 0 0 [.ref 75, .int (p)] [] S 0
  refine g_iload_n C dX12_finalAtom_0 rfl ?_
  refine g_callS C (k_isRegisterF _ h) so_X12_106 dX12_finalAtom_1 rfl rfl (rm_ok (M' := MX12_finalAtom) hR (by decide)) (Nat.le_of_ble_eq_true rfl) (fun v9 S9 h9 => ?_)
  obtain ⟨rfl, h9⟩ := h9
  refine g_S S h9 ?_
  refine g_n0 [.int (bI (false))] rfl rfl rfl ?_
  refine b_if_ne C 13 dX12_finalAtom_4 (fun h4 => absurd h4 (by decide)) (fun h4 => ?_)
  refine g_aload_n C dX12_finalAtom_7 rfl ?_
  refine n_iconst C 1 dX12_finalAtom_8 ?_
  refine g_callV C (As := [.int (nI (1))]) (k_fails _ hS) vo_X12_136 dX12_finalAtom_9 rfl rfl (by decide) rfl (rm_ok (M' := MX12_finalAtom) hR (by decide)) (Nat.le_of_ble_eq_true rfl) (fun v9 S9 h9 => ?_)
  obtain ⟨rfl, h9⟩ := h9
  refine g_S (wI S 75 (va_up (mI S 75) 0 (nI 1))) h9 ?_
  refine g_n0 [.int (nI (0))] rfl rfl rfl ?_
  exact g_iret C E dX12_finalAtom_12 (by rw [hR]; decide) (by rw [hR]; decide) ⟨rfl, rfl⟩

set_option maxRecDepth 100000 in
theorem m_takeAtomWord_r (l : Launch) {S : pv_M} {p : Int32} (hS : GS S) (h : badI p 3) {q : Int32} : mt l MX12_takeAtomWord 106 [.ref 75, .int (p), .int (q)] S (fun v S' => v = some (.int (nI 0)) ∧ S' = th S 1) := by
  refine mt_of (by decide) (Nat.le_of_ble_eq_true rfl) ?_
  intro x hl hR hmL C E
  show GG x 106 0 0 [.ref 75, .int (p), .int (q), unk] [] S 0
  refine g_iload_n C dX12_takeAtomWord_0 rfl ?_
  refine g_callS C (k_isRegisterF _ h) so_X12_106 dX12_takeAtomWord_1 rfl rfl (rm_ok (M' := MX12_takeAtomWord) hR (by decide)) (Nat.le_of_ble_eq_true rfl) (fun v9 S9 h9 => ?_)
  obtain ⟨rfl, h9⟩ := h9
  refine g_S S h9 ?_
  refine g_n0 [.int (bI (false))] rfl rfl rfl ?_
  refine b_if_ne C 13 dX12_takeAtomWord_4 (fun h4 => absurd h4 (by decide)) (fun h4 => ?_)
  refine g_aload_n C dX12_takeAtomWord_7 rfl ?_
  refine n_iconst C 1 dX12_takeAtomWord_8 ?_
  refine g_callV C (As := [.int (nI (1))]) (k_fails _ hS) vo_X12_136 dX12_takeAtomWord_9 rfl rfl (by decide) rfl (rm_ok (M' := MX12_takeAtomWord) hR (by decide)) (Nat.le_of_ble_eq_true rfl) (fun v9 S9 h9 => ?_)
  obtain ⟨rfl, h9⟩ := h9
  refine g_S (wI S 75 (va_up (mI S 75) 0 (nI 1))) h9 ?_
  refine g_n0 [.int (nI (0))] rfl rfl rfl ?_
  exact g_iret C E dX12_takeAtomWord_12 (by rw [hR]; decide) (by rw [hR]; decide) ⟨rfl, rfl⟩

set_option maxRecDepth 100000 in
theorem m_atomSize_r (l : Launch) {S : pv_M} {p : Int32} (hS : GS S) (h : badI p 3) {q : Int32} : mt l MX12_atomSize 106 [.ref 75, .int (p), .int (q)] S (fun v S' => v = some (.int (nI 0)) ∧ S' = th S 1) := by
  refine mt_of (by decide) (Nat.le_of_ble_eq_true rfl) ?_
  intro x hl hR hmL C E
  show GG x 106 0 0 [.ref 75, .int (p), .int (q)] [] S 0
  refine g_iload_n C dX12_atomSize_0 rfl ?_
  refine g_callS C (k_isRegisterF _ h) so_X12_106 dX12_atomSize_1 rfl rfl (rm_ok (M' := MX12_atomSize) hR (by decide)) (Nat.le_of_ble_eq_true rfl) (fun v9 S9 h9 => ?_)
  obtain ⟨rfl, h9⟩ := h9
  refine g_S S h9 ?_
  refine g_n0 [.int (bI (false))] rfl rfl rfl ?_
  refine b_if_ne C 13 dX12_atomSize_4 (fun h4 => absurd h4 (by decide)) (fun h4 => ?_)
  refine g_aload_n C dX12_atomSize_7 rfl ?_
  refine n_iconst C 1 dX12_atomSize_8 ?_
  refine g_callV C (As := [.int (nI (1))]) (k_fails _ hS) vo_X12_136 dX12_atomSize_9 rfl rfl (by decide) rfl (rm_ok (M' := MX12_atomSize) hR (by decide)) (Nat.le_of_ble_eq_true rfl) (fun v9 S9 h9 => ?_)
  obtain ⟨rfl, h9⟩ := h9
  refine g_S (wI S 75 (va_up (mI S 75) 0 (nI 1))) h9 ?_
  refine g_n0 [.int (nI (0))] rfl rfl rfl ?_
  exact g_iret C E dX12_atomSize_12 (by rw [hR]; decide) (by rw [hR]; decide) ⟨rfl, rfl⟩

def wSi (A : Ab) (a i : Nat) : Nat := orf (fun q => (rF A a).testBit (stA (rT A a) (wL A) (qS A a q) (wM A))) (fun q => 2 ^ q) i
theorem wS_1 {A : Ab} {a i : Nat} : (wSi A a i ||| if (rF A a).testBit (stA (rT A a) (wL A) (qS A a i) (wM A)) = true then 1 * 2 ^ i else 0) = wSi A a (i + 1) := by rw [Nat.one_mul]; rfl

set_option maxRecDepth 100000 in
theorem lp_aow {x : Cx} (hR : xR x = MX12_atomOfWord.rm) (hmL : (xc x).maxLocals = MX12_atomOfWord.nL) (C : BX x cX12_atomOfWord RX12) {S : pv_M} {A : Ab} {a : Nat} (hS : GS S) (hM : MSt S A) (ha : a < 3) (hg : gdR (A.1.1 a)) (hQ : QA (cQ A a) (qS A a) S) (h12 : wM A ≤ 12) (hL : ∀ i, wL A i < 3) (kk : GG x 106 0 0 [.ref 75, .int (nI (a)), .int (nI (wSi A a (cQ A a))), .int (nI (cQ A a))] [] (S) 70) : ∀ z i, i + z = cQ A a → GG x 106 0 0 [.ref 75, .int (nI (a)), .int (nI (wSi A a (i))), .int (nI (i))] [] (S) 22 := by
  have hc6 := cQ_le hg
  intro z
  induction z with
  | zero =>
    intro i hz
    obtain rfl : cQ A a = i := by omega
    refine g_iload_n C dX12_atomOfWord_22 rfl ?_
    refine g_aload_n C dX12_atomOfWord_23 rfl ?_
    refine g_getI C (a := (nI (cQ A a))) fo_X12_238 dX12_atomOfWord_24 rfl (by decide) (fun _ => rfl) hQ.1 ?_
    refine n_ic_ge C 70 dX12_atomOfWord_27 (fun h27 => ?_) (fun h27 => absurd h27 (by omega))
    exact kk
  | succ z ih =>
    intro i hz
    have hqi := qS_lt hg (q := i) (by omega)
    have hp6 := pow6 i (by omega)
    have hst : ∀ k, k ≤ wM A → stA (rT A a) (wL A) (qS A a i) k < 6 := fun k _ => Nat.lt_of_lt_of_le (stA_lt (n := rN A a) (Rm_dm hg _ (qS_mem (by omega))) hg.2.1 hg.2.2.1 hL k) hg.2.1
    have hst1 := hst (wM A) (Nat.le_refl _)
    refine g_iload_n C dX12_atomOfWord_22 rfl ?_
    refine g_aload_n C dX12_atomOfWord_23 rfl ?_
    refine g_getI C (a := (nI (cQ A a))) fo_X12_238 dX12_atomOfWord_24 rfl (by decide) (fun _ => rfl) hQ.1 ?_
    refine n_ic_ge C 70 dX12_atomOfWord_27 (fun h27 => absurd h27 (by omega)) (fun h27 => ?_)
    refine g_iload_n C dX12_atomOfWord_30 rfl ?_
    refine g_aload_n C dX12_atomOfWord_31 rfl ?_
    refine g_getR C fo_X12_16 dX12_atomOfWord_32 rfl (by decide) (fun _ => rfl) (gs_75_3 hS) ?_
    refine n_bipush C 6 dX12_atomOfWord_35 ?_
    refine g_iload_n C dX12_atomOfWord_37 rfl ?_
    refine n_imul C dX12_atomOfWord_38 ?_
    refine g_aload_n C dX12_atomOfWord_39 rfl ?_
    refine g_iload_n C dX12_atomOfWord_40 rfl ?_
    refine g_aload_n C dX12_atomOfWord_41 rfl ?_
    refine g_getR C fo_X12_71 dX12_atomOfWord_42 rfl (by decide) (fun _ => rfl) (gs_75_31 hS) ?_
    refine g_iload_n C dX12_atomOfWord_45 rfl ?_
    refine n_iald C (v := (nI (qS A a i))) dX12_atomOfWord_46 rfl (by decide) (hQ.2.1 i (by omega)) ?_ (by omega)
    refine g_callV C (As := [.int (nI (a)), .int (nI (qS A a i))]) (k_stateBy _ hS hM ha hst hL h12) vo_X12_149 dX12_atomOfWord_47 rfl rfl (by decide) rfl (rm_ok (M' := MX12_atomOfWord) hR (by decide)) (Nat.le_of_ble_eq_true rfl) (fun v9 S9 h9 => ?_)
    obtain ⟨rfl, h9⟩ := h9
    refine g_S S h9 ?_
    refine g_n0 [.int (nI (stA (rT A a) (wL A) (qS A a i) (wM A))), .int (nI ((6) * (a))), .ref 78, .int (nI (wSi A a (i)))] rfl rfl rfl ?_
    refine n_iadd C dX12_atomOfWord_50 ?_
    refine n_zald C (v := (bI ((rF A a).testBit (stA (rT A a) (wL A) (qS A a i) (wM A))))) dX12_atomOfWord_51 rfl (by decide) (hM.1.f ha (i := stA (rT A a) (wL A) (qS A a i) (wM A)) (by omega) rfl) ?_ (by omega)
    suffices K62 : GG x 106 0 0 [.ref 75, .int (nI (a)), .int (nI (wSi A a (i))), .int (nI (i))] [.int (nI (if (rF A a).testBit (stA (rT A a) (wL A) (qS A a i) (wM A)) then 1 * 2 ^ (i) else 0)), .int (nI (wSi A a (i)))] S 62 from by
      refine b_if_eq C 61 dX12_atomOfWord_52 (fun h52 => ?_) (fun h52 => ?_)
      · refine n_iconst C 0 dX12_atomOfWord_61 ?_
        rw [if_neg (by rw [h52]; decide)] at K62; exact K62
      · refine n_iconst C 1 dX12_atomOfWord_55 ?_
        refine g_iload_n C dX12_atomOfWord_56 rfl ?_
        refine n_ishl C dX12_atomOfWord_57 ?_ (by omega) hp6
        refine g_goto C 62 dX12_atomOfWord_58 (by decide) ?_
        rw [if_pos h52] at K62; exact K62
    refine n_ior C dX12_atomOfWord_62 ?_
    refine g_istore_n C (by rw [hmL]; decide) dX12_atomOfWord_63 [.ref 75, .int (nI (a)), .int (nI ((wSi A a (i)) ||| (if (rF A a).testBit (stA (rT A a) (wL A) (qS A a i) (wM A)) then 1 * 2 ^ (i) else 0))), .int (nI (i))] rfl ?_
    refine n_iinc C (by rw [hmL]; decide) dX12_atomOfWord_64 rfl (n_i1 _) [.ref 75, .int (nI (a)), .int (nI ((wSi A a (i)) ||| (if (rF A a).testBit (stA (rT A a) (wL A) (qS A a i) (wM A)) then 1 * 2 ^ (i) else 0))), .int (nI (i + 1))] ?_
    refine g_goto C 22 dX12_atomOfWord_67 (by decide) ?_
    rw [wS_1]
    exact ih (i + 1) (by omega)

set_option maxRecDepth 100000 in
theorem m_atomOfWord (l : Launch) {S : pv_M} {A : Ab} (hS : GS S) (hM : MSt S A) {a : Nat} (ha : a < 3) (hg : gdR (A.1.1 a)) (h12 : wM A ≤ 12) (hL : ∀ i, wL A i < 3) : mt l MX12_atomOfWord 106 [.ref 75, .int (nI (a))] S (fun v S' => v = some (.int (nI ((AL A a).idxOf (wSi A a (cQ A a))))) ∧ mI S' 75 0 = nI 0 ∧ MSt S' A ∧ FN mC S S') := by
  refine mt_of (by decide) (Nat.le_of_ble_eq_true rfl) ?_
  intro x hl hR hmL C E
  show GG x 106 0 0 [.ref 75, .int (nI (a)), unk, unk] [] S 0
  subst hl
  refine g_iload_n C dX12_atomOfWord_0 rfl ?_
  refine g_callS C (k_isRegister _ ha) so_X12_106 dX12_atomOfWord_1 rfl rfl (rm_ok (M' := MX12_atomOfWord) hR (by decide)) (Nat.le_of_ble_eq_true rfl) (fun v9 S9 h9 => ?_)
  obtain ⟨rfl, h9⟩ := h9
  refine g_S S h9 ?_
  refine g_n0 [.int (bI (true))] rfl rfl rfl ?_
  refine b_if_ne C 13 dX12_atomOfWord_4 (fun h4 => ?_) (fun h4 => absurd h4 (by decide))
  refine g_aload_n C dX12_atomOfWord_13 rfl ?_
  refine g_iload_n C dX12_atomOfWord_14 rfl ?_
  refine g_callV C (As := [.int (nI (a))]) (k_tellAtoms _ hS hM ha hg) vo_X12_244 dX12_atomOfWord_15 rfl rfl (by decide) rfl (rm_ok (M' := MX12_atomOfWord) hR (by decide)) (Nat.le_of_ble_eq_true rfl) (fun v9 S1 h9 => ?_)
  obtain ⟨rfl, q1, a1, t1⟩ := h9
  have hS1 : GS S1 := hS.fn t1.1.1
  have hM1 : MSt S1 A := hM.fs t1.1
  have h64 := a1.2.2.1
  refine g_n0 [] rfl rfl rfl ?_
  refine n_iconst C 0 dX12_atomOfWord_18 ?_
  refine g_istore_n C (by rw [hmL]; decide) dX12_atomOfWord_19 [.ref 75, .int (nI (a)), .int (nI (0)), unk] rfl ?_
  refine n_iconst C 0 dX12_atomOfWord_20 ?_
  refine g_istore_n C (by rw [hmL]; decide) dX12_atomOfWord_21 [.ref 75, .int (nI (a)), .int (nI (0)), .int (nI (0))] rfl ?_
  refine lp_aow hR hmL C hS1 hM1 ha hg q1 h12 hL ?_ (cQ A a) 0 (Nat.zero_add _)
  have hix : (AL A a).idxOf (wSi A a (cQ A a)) ≤ (AL A a).length := List.idxOf_le_length
  refine g_aload_n C dX12_atomOfWord_70 rfl ?_
  refine g_aload_n C dX12_atomOfWord_71 rfl ?_
  refine g_iload_n C dX12_atomOfWord_72 rfl ?_
  refine g_callV C (As := [.int (nI (wSi A a (cQ A a)))]) (k_numberOf _ hS1 a1 (pw_lt (cQ_le hg))) vo_X12_251 dX12_atomOfWord_73 rfl rfl (by decide) rfl (rm_ok (M' := MX12_atomOfWord) hR (by decide)) (Nat.le_of_ble_eq_true rfl) (fun v9 S9 h9 => ?_)
  obtain ⟨rfl, h9⟩ := h9
  refine g_S S1 h9 ?_
  refine g_n0 [.int (nI ((AL A a).idxOf (wSi A a (cQ A a)))), .ref 75] rfl rfl rfl ?_
  refine g_callV C (As := [.int (nI ((AL A a).idxOf (wSi A a (cQ A a))))]) (k_done _ hS1) vo_X12_132 dX12_atomOfWord_76 rfl rfl (by decide) rfl (rm_ok (M' := MX12_atomOfWord) hR (by decide)) (Nat.le_of_ble_eq_true rfl) (fun v9 S9 h9 => ?_)
  obtain ⟨rfl, h9⟩ := h9
  refine g_S (wI S1 75 (va_up (mI S1 75) 0 (nI 0))) h9 ?_
  refine g_n0 [.int (nI ((AL A a).idxOf (wSi A a (cQ A a))))] rfl rfl rfl ?_
  exact g_iret C E dX12_atomOfWord_79 (by rw [hR]; decide) (by rw [hR]; decide) ⟨rfl, th_0, hM1.fs th_fs, t1.1.mC.tr th_fs.mC⟩

set_option maxRecDepth 100000 in
theorem m_atomTargets (l : Launch) {S : pv_M} {A : Ab} (hS : GS S) (hM : MSt S A) {a : Nat} (ha : a < 3) (hg : gdR (A.1.1 a)) {p q : Nat} (hp : p < (AL A a).length) (hq : q < 3) : mt l MX12_atomTargets 106 [.ref 75, .int (nI (a)), .int (nI (p)), .int (nI (q))] S (fun v S' => v = some (.long (lN (AN A a (3 * p + q)))) ∧ mI S' 75 0 = nI 0 ∧ MSt S' A ∧ FN mC S S') := by
  refine mt_of (by decide) (Nat.le_of_ble_eq_true rfl) ?_
  intro x hl hR hmL C E
  show GG x 106 0 0 [.ref 75, .int (nI (a)), .int (nI (p)), .int (nI (q))] [] S 0
  subst hl
  refine g_aload_n C dX12_atomTargets_0 rfl ?_
  refine n_iconst C 1 dX12_atomTargets_1 ?_
  refine g_putI C fo_X12_98 dX12_atomTargets_2 rfl (by decide) rfl ?_
  refine g_iload_n C dX12_atomTargets_5 rfl ?_
  refine g_callS C (k_isRegister _ ha) so_X12_106 dX12_atomTargets_6 rfl rfl (rm_ok (M' := MX12_atomTargets) hR (by decide)) (Nat.le_of_ble_eq_true rfl) (fun v9 S9 h9 => ?_)
  obtain ⟨rfl, h9⟩ := h9
  refine g_S (wI S 75 (va_up (mI S 75) 0 (nI (1)))) h9 ?_
  refine g_n0 [.int (bI (true))] rfl rfl rfl ?_
  refine b_if_eq C 19 dX12_atomTargets_9 (fun h9 => absurd h9 (by decide)) (fun h9 => ?_)
  refine g_iload_n C dX12_atomTargets_12 rfl ?_
  refine g_callS C (k_isLetter _ hq) so_X12_122 dX12_atomTargets_13 rfl rfl (rm_ok (M' := MX12_atomTargets) hR (by decide)) (Nat.le_of_ble_eq_true rfl) (fun v9 S9 h9 => ?_)
  obtain ⟨rfl, h9⟩ := h9
  refine g_S (wI S 75 (va_up (mI S 75) 0 (nI (1)))) h9 ?_
  refine g_n0 [.int (bI (true))] rfl rfl rfl ?_
  refine b_if_ne C 21 dX12_atomTargets_16 (fun h16 => ?_) (fun h16 => absurd h16 (by decide))
  refine g_aload_n C dX12_atomTargets_21 rfl ?_
  refine g_iload_n C dX12_atomTargets_22 rfl ?_
  refine g_callV C (As := [.int (nI (a))]) (k_tellAtomMachine _ (hS.fn (th_fs (c := 1)).1) (hM.fs (th_fs (c := 1))) ha hg) vo_X12_257 dX12_atomTargets_23 rfl rfl (by decide) rfl (rm_ok (M' := MX12_atomTargets) hR (by decide)) (Nat.le_of_ble_eq_true rfl) (fun v9 S1 h9 => ?_)
  obtain ⟨rfl, m1, t1⟩ := h9
  have hS1 : GS S1 := (hS.fn (th_fs (c := 1)).1).fn t1.1.1
  have hM1 : MSt S1 A := (hM.fs (th_fs (c := 1))).fs t1.1
  have a1 := m1.2.1
  have h64 := a1.2.2.1
  have e0 : mI S1 75 0 = nI 1 := t1.2.trans rI_s
  refine g_n0 [] rfl rfl rfl ?_
  refine g_aload_n C dX12_atomTargets_26 rfl ?_
  refine g_iload_n C dX12_atomTargets_27 rfl ?_
  refine g_callV C (As := [.int (nI (p))]) (k_isAtom _ hS1 a1 hp) vo_X12_248 dX12_atomTargets_28 rfl rfl (by decide) rfl (rm_ok (M' := MX12_atomTargets) hR (by decide)) (Nat.le_of_ble_eq_true rfl) (fun v9 S9 h9 => ?_)
  obtain ⟨rfl, h9⟩ := h9
  refine g_S S1 h9 ?_
  refine g_n0 [.int (bI (true))] rfl rfl rfl ?_
  refine b_if_ne C 36 dX12_atomTargets_31 (fun h31 => ?_) (fun h31 => absurd h31 (by decide))
  refine g_aload_n C dX12_atomTargets_36 rfl ?_
  refine n_iconst C 0 dX12_atomTargets_37 ?_
  refine g_putI C fo_X12_98 dX12_atomTargets_38 rfl (by decide) rfl ?_
  refine g_aload_n C dX12_atomTargets_41 rfl ?_
  refine g_getR C fo_X12_80 dX12_atomTargets_42 rfl (by decide) (fun _ => rfl) (gs_75_35 hS1) ?_
  refine n_iconst C 3 dX12_atomTargets_45 ?_
  refine g_iload_n C dX12_atomTargets_46 rfl ?_
  refine n_imul C dX12_atomTargets_47 ?_
  refine g_iload_n C dX12_atomTargets_48 rfl ?_
  refine n_iadd C dX12_atomTargets_49 ?_
  refine n_lald C (v := (lN (AN A a (3 * p + q)))) dX12_atomTargets_50 rfl (by decide) (m1.2.2.1 _ (by omega)) ?_ (by omega)
  exact g_lret C E dX12_atomTargets_51 (by rw [hR]; decide) (by rw [hR]; decide) ⟨rfl, th_0, hM1.fs th_fs, ((th_fs (c := 1)).mC.tr t1.1.mC).tr th_fs.mC⟩

set_option maxRecDepth 100000 in
theorem m_atomTargets_a (l : Launch) {S : pv_M} {A : Ab} (hS : GS S) (hM : MSt S A) {a : Nat} (ha : a < 3) (hg : gdR (A.1.1 a)) {p : Int32} {q : Nat} (hp : badI p (AL A a).length) (hq : q < 3) : mt l MX12_atomTargets 106 [.ref 75, .int (nI (a)), .int (p), .int (nI (q))] S (fun v S' => v = some (.long (lN 0)) ∧ mI S' 75 0 = nI 1 ∧ MSt S' A ∧ FN mC S S') := by
  refine mt_of (by decide) (Nat.le_of_ble_eq_true rfl) ?_
  intro x hl hR hmL C E
  show GG x 106 0 0 [.ref 75, .int (nI (a)), .int (p), .int (nI (q))] [] S 0
  subst hl
  refine g_aload_n C dX12_atomTargets_0 rfl ?_
  refine n_iconst C 1 dX12_atomTargets_1 ?_
  refine g_putI C fo_X12_98 dX12_atomTargets_2 rfl (by decide) rfl ?_
  refine g_iload_n C dX12_atomTargets_5 rfl ?_
  refine g_callS C (k_isRegister _ ha) so_X12_106 dX12_atomTargets_6 rfl rfl (rm_ok (M' := MX12_atomTargets) hR (by decide)) (Nat.le_of_ble_eq_true rfl) (fun v9 S9 h9 => ?_)
  obtain ⟨rfl, h9⟩ := h9
  refine g_S (wI S 75 (va_up (mI S 75) 0 (nI (1)))) h9 ?_
  refine g_n0 [.int (bI (true))] rfl rfl rfl ?_
  refine b_if_eq C 19 dX12_atomTargets_9 (fun h9 => absurd h9 (by decide)) (fun h9 => ?_)
  refine g_iload_n C dX12_atomTargets_12 rfl ?_
  refine g_callS C (k_isLetter _ hq) so_X12_122 dX12_atomTargets_13 rfl rfl (rm_ok (M' := MX12_atomTargets) hR (by decide)) (Nat.le_of_ble_eq_true rfl) (fun v9 S9 h9 => ?_)
  obtain ⟨rfl, h9⟩ := h9
  refine g_S (wI S 75 (va_up (mI S 75) 0 (nI (1)))) h9 ?_
  refine g_n0 [.int (bI (true))] rfl rfl rfl ?_
  refine b_if_ne C 21 dX12_atomTargets_16 (fun h16 => ?_) (fun h16 => absurd h16 (by decide))
  refine g_aload_n C dX12_atomTargets_21 rfl ?_
  refine g_iload_n C dX12_atomTargets_22 rfl ?_
  refine g_callV C (As := [.int (nI (a))]) (k_tellAtomMachine _ (hS.fn (th_fs (c := 1)).1) (hM.fs (th_fs (c := 1))) ha hg) vo_X12_257 dX12_atomTargets_23 rfl rfl (by decide) rfl (rm_ok (M' := MX12_atomTargets) hR (by decide)) (Nat.le_of_ble_eq_true rfl) (fun v9 S1 h9 => ?_)
  obtain ⟨rfl, m1, t1⟩ := h9
  have hS1 : GS S1 := (hS.fn (th_fs (c := 1)).1).fn t1.1.1
  have hM1 : MSt S1 A := (hM.fs (th_fs (c := 1))).fs t1.1
  have a1 := m1.2.1
  have h64 := a1.2.2.1
  have e0 : mI S1 75 0 = nI 1 := t1.2.trans rI_s
  refine g_n0 [] rfl rfl rfl ?_
  refine g_aload_n C dX12_atomTargets_26 rfl ?_
  refine g_iload_n C dX12_atomTargets_27 rfl ?_
  refine g_callV C (As := [.int (p)]) (k_isAtomF _ hS1 a1 hp) vo_X12_248 dX12_atomTargets_28 rfl rfl (by decide) rfl (rm_ok (M' := MX12_atomTargets) hR (by decide)) (Nat.le_of_ble_eq_true rfl) (fun v9 S9 h9 => ?_)
  obtain ⟨rfl, h9⟩ := h9
  refine g_S S1 h9 ?_
  refine g_n0 [.int (bI (false))] rfl rfl rfl ?_
  refine b_if_ne C 36 dX12_atomTargets_31 (fun h31 => absurd h31 (by decide)) (fun h31 => ?_)
  refine n_lconst C 0 dX12_atomTargets_34 ?_
  exact g_lret C E dX12_atomTargets_35 (by rw [hR]; decide) (by rw [hR]; decide) ⟨rfl, e0, hM1, (th_fs (c := 1)).mC.tr t1.1.mC⟩

set_option maxRecDepth 100000 in
theorem m_atomTargets_r (l : Launch) {S : pv_M} {p q1 q2 : Int32} (hS : GS S) (h : badI p 3) : mt l MX12_atomTargets 106 [.ref 75, .int (p), .int (q1), .int (q2)] S (fun v S' => v = some (.long (lN 0)) ∧ S' = th S 1) := by
  refine mt_of (by decide) (Nat.le_of_ble_eq_true rfl) ?_
  intro x hl hR hmL C E
  show GG x 106 0 0 [.ref 75, .int (p), .int (q1), .int (q2)] [] S 0
  refine g_aload_n C dX12_atomTargets_0 rfl ?_
  refine n_iconst C 1 dX12_atomTargets_1 ?_
  refine g_putI C fo_X12_98 dX12_atomTargets_2 rfl (by decide) rfl ?_
  refine g_iload_n C dX12_atomTargets_5 rfl ?_
  refine g_callS C (k_isRegisterF _ h) so_X12_106 dX12_atomTargets_6 rfl rfl (rm_ok (M' := MX12_atomTargets) hR (by decide)) (Nat.le_of_ble_eq_true rfl) (fun v9 S9 h9 => ?_)
  obtain ⟨rfl, h9⟩ := h9
  refine g_S (wI S 75 (va_up (mI S 75) 0 (nI (1)))) h9 ?_
  refine g_n0 [.int (bI (false))] rfl rfl rfl ?_
  refine b_if_eq C 19 dX12_atomTargets_9 (fun h9 => ?_) (fun h9 => absurd h9 (by decide))
  refine n_lconst C 0 dX12_atomTargets_19 ?_
  exact g_lret C E dX12_atomTargets_20 (by rw [hR]; decide) (by rw [hR]; decide) ⟨rfl, rfl⟩

set_option maxRecDepth 100000 in
theorem m_atomTargets_l (l : Launch) {S : pv_M} {a : Nat} {p q1 : Int32} (hS : GS S) (ha : a < 3) (h : badI p 3) : mt l MX12_atomTargets 106 [.ref 75, .int (nI (a)), .int (q1), .int (p)] S (fun v S' => v = some (.long (lN 0)) ∧ S' = th S 1) := by
  refine mt_of (by decide) (Nat.le_of_ble_eq_true rfl) ?_
  intro x hl hR hmL C E
  show GG x 106 0 0 [.ref 75, .int (nI (a)), .int (q1), .int (p)] [] S 0
  refine g_aload_n C dX12_atomTargets_0 rfl ?_
  refine n_iconst C 1 dX12_atomTargets_1 ?_
  refine g_putI C fo_X12_98 dX12_atomTargets_2 rfl (by decide) rfl ?_
  refine g_iload_n C dX12_atomTargets_5 rfl ?_
  refine g_callS C (k_isRegister _ ha) so_X12_106 dX12_atomTargets_6 rfl rfl (rm_ok (M' := MX12_atomTargets) hR (by decide)) (Nat.le_of_ble_eq_true rfl) (fun v9 S9 h9 => ?_)
  obtain ⟨rfl, h9⟩ := h9
  refine g_S (wI S 75 (va_up (mI S 75) 0 (nI (1)))) h9 ?_
  refine g_n0 [.int (bI (true))] rfl rfl rfl ?_
  refine b_if_eq C 19 dX12_atomTargets_9 (fun h9 => absurd h9 (by decide)) (fun h9 => ?_)
  refine g_iload_n C dX12_atomTargets_12 rfl ?_
  refine g_callS C (k_isLetterF _ h) so_X12_122 dX12_atomTargets_13 rfl rfl (rm_ok (M' := MX12_atomTargets) hR (by decide)) (Nat.le_of_ble_eq_true rfl) (fun v9 S9 h9 => ?_)
  obtain ⟨rfl, h9⟩ := h9
  refine g_S (wI S 75 (va_up (mI S 75) 0 (nI (1)))) h9 ?_
  refine g_n0 [.int (bI (false))] rfl rfl rfl ?_
  refine b_if_ne C 21 dX12_atomTargets_16 (fun h16 => absurd h16 (by decide)) (fun h16 => ?_)
  refine n_lconst C 0 dX12_atomTargets_19 ?_
  exact g_lret C E dX12_atomTargets_20 (by rw [hR]; decide) (by rw [hR]; decide) ⟨rfl, rfl⟩

def iA (A : Ab) (a k : Nat) : Nat := orf (fun b => ((AL A a).getD b 0).testBit 0) (fun b => 2 ^ b) k
theorem iA_1 {A : Ab} {a i : Nat} : (iA A a i ||| if ((AL A a).getD i 0).testBit 0 = true then 1 * 2 ^ i else 0) = iA A a (i + 1) := by rw [Nat.one_mul]; rfl

set_option maxRecDepth 100000 in
theorem lp_ini {x : Cx} (hR : xR x = MX12_initialAtoms.rm) (hmL : (xc x).maxLocals = MX12_initialAtoms.nL) (C : BX x cX12_initialAtoms RX12) {S : pv_M} {A : Ab} {a : Nat} (hS : GS S) (a1 : AT (AL A a) S) (kk : GG x 106 0 0 [.ref 75, .int (nI (a)), .long (lN (iA A a ((AL A a).length))), unk, .int (nI ((AL A a).length))] [] (S) 74) : ∀ z i, i + z = (AL A a).length → GG x 106 0 0 [.ref 75, .int (nI (a)), .long (lN (iA A a (i))), unk, .int (nI (i))] [] (S) 35 := by
  have h64 := a1.2.2.1
  intro z
  induction z with
  | zero =>
    intro i hz
    obtain rfl : (AL A a).length = i := by omega
    refine g_iload C dX12_initialAtoms_35 rfl ?_
    refine g_aload_n C dX12_initialAtoms_37 rfl ?_
    refine g_getI C (a := (nI ((AL A a).length))) fo_X12_195 dX12_initialAtoms_38 rfl (by decide) (fun _ => rfl) a1.1 ?_
    refine n_ic_ge C 74 dX12_initialAtoms_41 (fun h41 => ?_) (fun h41 => absurd h41 (by omega))
    exact kk
  | succ z ih =>
    intro i hz
    refine g_iload C dX12_initialAtoms_35 rfl ?_
    refine g_aload_n C dX12_initialAtoms_37 rfl ?_
    refine g_getI C (a := (nI ((AL A a).length))) fo_X12_195 dX12_initialAtoms_38 rfl (by decide) (fun _ => rfl) a1.1 ?_
    refine n_ic_ge C 74 dX12_initialAtoms_41 (fun h41 => absurd h41 (by omega)) (fun h41 => ?_)
    refine g_lload_n C dX12_initialAtoms_44 rfl ?_
    refine g_aload_n C dX12_initialAtoms_45 rfl ?_
    refine g_getR C fo_X12_74 dX12_initialAtoms_46 rfl (by decide) (fun _ => rfl) (gs_75_32 hS) ?_
    refine g_iload C dX12_initialAtoms_49 rfl ?_
    refine n_iald C (v := (nI ((AL A a).getD i 0))) dX12_initialAtoms_51 rfl (by decide) (a1.2.1 _ (by omega)) ?_ (by omega)
    refine n_iconst C 1 dX12_initialAtoms_52 ?_
    refine n_iand C dX12_initialAtoms_53 ?_
    refine n_iconst C 1 dX12_initialAtoms_54 ?_
    suffices K66 : GG x 106 0 0 [.ref 75, .int (nI (a)), .long (lN (iA A a (i))), unk, .int (nI (i))] [.long (lN (if ((AL A a).getD i 0).testBit 0 then 1 * 2 ^ (i) else 0)), .long (lN (iA A a (i)))] S 66 from by
      refine n_ic_ne C 65 dX12_initialAtoms_55 (fun h55 => ?_) (fun h55 => ?_) (by decide) (Nat.lt_of_le_of_lt Nat.and_le_right (by decide)) (by decide)
      · refine n_lconst C 0 dX12_initialAtoms_65 ?_
        rw [if_neg (fun z => h55 ((tb0 _).mpr z))] at K66; exact K66
      · refine n_lconst C 1 dX12_initialAtoms_58 ?_
        refine g_iload C dX12_initialAtoms_59 rfl ?_
        refine n_lshl C dX12_initialAtoms_61 ?_ (by omega)
        refine g_goto C 66 dX12_initialAtoms_62 (by decide) ?_
        rw [if_pos ((tb0 _).mp h55)] at K66; exact K66
    refine n_lor C dX12_initialAtoms_66 ?_
    refine g_lstore_n C (by rw [hmL]; decide) dX12_initialAtoms_67 [.ref 75, .int (nI (a)), .long (lN ((iA A a (i)) ||| (if ((AL A a).getD i 0).testBit 0 then 1 * 2 ^ (i) else 0))), unk, .int (nI (i))] rfl ?_
    refine n_iinc C (by rw [hmL]; decide) dX12_initialAtoms_68 rfl (n_i1 _) [.ref 75, .int (nI (a)), .long (lN ((iA A a (i)) ||| (if ((AL A a).getD i 0).testBit 0 then 1 * 2 ^ (i) else 0))), unk, .int (nI (i + 1))] ?_
    refine g_goto C 35 dX12_initialAtoms_71 (by decide) ?_
    rw [iA_1]
    exact ih (i + 1) (by omega)

set_option maxRecDepth 100000 in
theorem m_initialAtoms (l : Launch) {S : pv_M} {A : Ab} (hS : GS S) (hM : MSt S A) {a : Nat} (ha : a < 3) (hg : gdR (A.1.1 a)) : mt l MX12_initialAtoms 106 [.ref 75, .int (nI (a))] S (fun v S' => v = some (.long (lN (iA A a (AL A a).length))) ∧ mI S' 75 0 = nI 0 ∧ MSt S' A ∧ FN mC S S') := by
  refine mt_of (by decide) (Nat.le_of_ble_eq_true rfl) ?_
  intro x hl hR hmL C E
  show GG x 106 0 0 [.ref 75, .int (nI (a)), unk, unk, unk] [] S 0
  subst hl
  refine g_aload_n C dX12_initialAtoms_0 rfl ?_
  refine g_iload_n C dX12_initialAtoms_1 rfl ?_
  refine g_callS C (k_isRegister _ ha) so_X12_106 dX12_initialAtoms_2 rfl rfl (rm_ok (M' := MX12_initialAtoms) hR (by decide)) (Nat.le_of_ble_eq_true rfl) (fun v9 S9 h9 => ?_)
  obtain ⟨rfl, h9⟩ := h9
  refine g_S S h9 ?_
  refine g_n0 [.int (bI (true)), .ref 75] rfl rfl rfl ?_
  refine b_if_eq C 12 dX12_initialAtoms_5 (fun h5 => absurd h5 (by decide)) (fun h5 => ?_)
  refine n_iconst C 0 dX12_initialAtoms_8 ?_
  refine g_goto C 13 dX12_initialAtoms_9 (by decide) ?_
  refine g_putI C fo_X12_98 dX12_initialAtoms_13 rfl (by decide) rfl ?_
  refine g_aload_n C dX12_initialAtoms_16 rfl ?_
  refine g_getI C (a := (nI (0))) fo_X12_98 dX12_initialAtoms_17 rfl (by decide) (fun _ => rfl) rfl ?_
  refine n_if_eq C 25 dX12_initialAtoms_20 (fun h20 => ?_) (fun h20 => absurd h20 (by decide))
  refine g_aload_n C dX12_initialAtoms_25 rfl ?_
  refine g_iload_n C dX12_initialAtoms_26 rfl ?_
  refine g_callV C (As := [.int (nI (a))]) (k_tellAtoms _ (hS.fn (th_fs (c := 0)).1) (hM.fs (th_fs (c := 0))) ha hg) vo_X12_244 dX12_initialAtoms_27 rfl rfl (by decide) rfl (rm_ok (M' := MX12_initialAtoms) hR (by decide)) (Nat.le_of_ble_eq_true rfl) (fun v9 S1 h9 => ?_)
  obtain ⟨rfl, q1, a1, t1⟩ := h9
  have hS1 : GS S1 := (hS.fn (th_fs (c := 0)).1).fn t1.1.1
  have hM1 : MSt S1 A := (hM.fs (th_fs (c := 0))).fs t1.1
  have h64 := a1.2.2.1
  have e0 : mI S1 75 0 = nI 0 := t1.2.trans rI_s
  refine g_n0 [] rfl rfl rfl ?_
  refine n_lconst C 0 dX12_initialAtoms_30 ?_
  refine g_lstore_n C (by rw [hmL]; decide) dX12_initialAtoms_31 [.ref 75, .int (nI (a)), .long (lN (0)), unk, unk] rfl ?_
  refine n_iconst C 0 dX12_initialAtoms_32 ?_
  refine g_istore C (by rw [hmL]; decide) dX12_initialAtoms_33 [.ref 75, .int (nI (a)), .long (lN (0)), unk, .int (nI (0))] rfl ?_
  refine lp_ini hR hmL C hS1 a1 ?_ (AL A a).length 0 (Nat.zero_add _)
  refine g_lload_n C dX12_initialAtoms_74 rfl ?_
  exact g_lret C E dX12_initialAtoms_75 (by rw [hR]; decide) (by rw [hR]; decide) ⟨rfl, e0, hM1, (th_fs (c := 0)).mC.tr t1.1.mC⟩

set_option maxRecDepth 100000 in
theorem m_initialAtoms_r (l : Launch) {S : pv_M} {p : Int32} (hS : GS S) (h : badI p 3) : mt l MX12_initialAtoms 106 [.ref 75, .int (p)] S (fun v S' => v = some (.long (lN 0)) ∧ S' = th S 1) := by
  refine mt_of (by decide) (Nat.le_of_ble_eq_true rfl) ?_
  intro x hl hR hmL C E
  show GG x 106 0 0 [.ref 75, .int (p), unk, unk, unk] [] S 0
  refine g_aload_n C dX12_initialAtoms_0 rfl ?_
  refine g_iload_n C dX12_initialAtoms_1 rfl ?_
  refine g_callS C (k_isRegisterF _ h) so_X12_106 dX12_initialAtoms_2 rfl rfl (rm_ok (M' := MX12_initialAtoms) hR (by decide)) (Nat.le_of_ble_eq_true rfl) (fun v9 S9 h9 => ?_)
  obtain ⟨rfl, h9⟩ := h9
  refine g_S S h9 ?_
  refine g_n0 [.int (bI (false)), .ref 75] rfl rfl rfl ?_
  refine b_if_eq C 12 dX12_initialAtoms_5 (fun h5 => ?_) (fun h5 => absurd h5 (by decide))
  refine n_iconst C 1 dX12_initialAtoms_12 ?_
  refine g_putI C fo_X12_98 dX12_initialAtoms_13 rfl (by decide) rfl ?_
  refine g_aload_n C dX12_initialAtoms_16 rfl ?_
  refine g_getI C (a := (nI (1))) fo_X12_98 dX12_initialAtoms_17 rfl (by decide) (fun _ => rfl) rfl ?_
  refine n_if_eq C 25 dX12_initialAtoms_20 (fun h20 => absurd h20 (by decide)) (fun h20 => ?_)
  refine n_lconst C 0 dX12_initialAtoms_23 ?_
  exact g_lret C E dX12_initialAtoms_24 (by rw [hR]; decide) (by rw [hR]; decide) ⟨rfl, rfl⟩

set_option maxRecDepth 100000 in
theorem m_finalAtom (l : Launch) {S : pv_M} {A : Ab} (hS : GS S) (hM : MSt S A) {a : Nat} (ha : a < 3) (hg : gdR (A.1.1 a)) : mt l MX12_finalAtom 106 [.ref 75, .int (nI (a))] S (fun v S' => v = some (.int (nI (la A a))) ∧ mI S' 75 0 = nI 0 ∧ MSt S' A ∧ FN mC S S') := by
  refine mt_of (by decide) (Nat.le_of_ble_eq_true rfl) ?_
  intro x hl hR hmL C E
  show GG x 106 0 0 [.ref 75, .int (nI (a))] [] S 0
  subst hl
  refine g_iload_n C dX12_finalAtom_0 rfl ?_
  refine g_callS C (k_isRegister _ ha) so_X12_106 dX12_finalAtom_1 rfl rfl (rm_ok (M' := MX12_finalAtom) hR (by decide)) (Nat.le_of_ble_eq_true rfl) (fun v9 S9 h9 => ?_)
  obtain ⟨rfl, h9⟩ := h9
  refine g_S S h9 ?_
  refine g_n0 [.int (bI (true))] rfl rfl rfl ?_
  refine b_if_ne C 13 dX12_finalAtom_4 (fun h4 => ?_) (fun h4 => absurd h4 (by decide))
  refine g_aload_n C dX12_finalAtom_13 rfl ?_
  refine g_iload_n C dX12_finalAtom_14 rfl ?_
  refine g_callV C (As := [.int (nI (a))]) (k_tellAtomMachine _ hS hM ha hg) vo_X12_257 dX12_finalAtom_15 rfl rfl (by decide) rfl (rm_ok (M' := MX12_finalAtom) hR (by decide)) (Nat.le_of_ble_eq_true rfl) (fun v9 S1 h9 => ?_)
  obtain ⟨rfl, m1, t1⟩ := h9
  have hS1 : GS S1 := hS.fn t1.1.1
  have hM1 : MSt S1 A := hM.fs t1.1
  have a1 := m1.2.1
  have h64 := a1.2.2.1
  refine g_n0 [] rfl rfl rfl ?_
  refine g_aload_n C dX12_finalAtom_18 rfl ?_
  refine g_aload_n C dX12_finalAtom_19 rfl ?_
  refine g_getI C (a := (nI (la A a))) fo_X12_202 dX12_finalAtom_20 rfl (by decide) (fun _ => rfl) m1.2.2.2 ?_
  refine g_callV C (As := [.int (nI (la A a))]) (k_done _ hS1) vo_X12_132 dX12_finalAtom_23 rfl rfl (by decide) rfl (rm_ok (M' := MX12_finalAtom) hR (by decide)) (Nat.le_of_ble_eq_true rfl) (fun v9 S9 h9 => ?_)
  obtain ⟨rfl, h9⟩ := h9
  refine g_S (wI S1 75 (va_up (mI S1 75) 0 (nI 0))) h9 ?_
  refine g_n0 [.int (nI (la A a))] rfl rfl rfl ?_
  exact g_iret C E dX12_finalAtom_26 (by rw [hR]; decide) (by rw [hR]; decide) ⟨rfl, th_0, hM1.fs th_fs, t1.1.mC.tr th_fs.mC⟩

abbrev d7 (A : Ab) (a : Nat) : Nat → Nat → Nat := fun c q => aaM (AN A a) c q (AL A a).length
abbrev a7 (A : Ab) (a : Nat) : Nat → Bool := fun c => c.testBit (la A a)
theorem AN_lt {A : Ab} {a p : Nat} : AN A a p < 2 ^ 64 := orf_lt (B := 64) _ (fun s hs _ => Nat.pow_lt_pow_right (by decide) (by have := AL_len (A := A) (a := a); omega))
theorem la_lt {A : Ab} {a : Nat} (hg : gdR (A.1.1 a)) : la A a < 64 := Nat.lt_of_lt_of_le (idx_lt (AL_fA hg)) AL_len
theorem mm7 (l : Launch) {A : Ab} {a b as_ : Nat} (hg : gdR (A.1.1 a)) (has : as_ < 2 ^ 64) : MMach l A 7 b b as_ (d7 A a) (a7 A a) (fun c => c < 2 ^ 64) (XA (AL A a).length (AN A a) (la A a) as_) := mm_7 l AL_len (la_lt hg) has (fun _ _ => AN_lt)
theorem TM.xa {A : Ab} {a : Nat} {S : pv_M} {v : Nat} (h : TM A a S) : XA (AL A a).length (AN A a) (la A a) v (wJ S 75 (va_up (mJ S 75) 24 (lN v))) := ⟨h.2.1.1, h.2.2.1, h.2.2.2, by rw [mJ_wJ, up_same]⟩
theorem FT.cJ {S : pv_M} {f : Nat → Int64} : FT S (wJ S 75 f) := ⟨FS.cJ (Or.inl rfl), rfl⟩

set_option maxRecDepth 100000 in
theorem m_atomSize (l : Launch) {S : pv_M} {A : Ab} (hS : GS S) (hM : MSt S A) {a : Nat} (ha : a < 3) (hg : gdR (A.1.1 a)) {p : Nat} (hp : p < (AL A a).length) (hB : (bf (d7 A a) (1 * 2 ^ p)).length ≤ 740) : mt l MX12_atomSize 106 [.ref 75, .int (nI (a)), .int (nI (p))] S (fun v S' => v = some (.int (nI (cM (d7 A a) (a7 A a) (bf (d7 A a) (1 * 2 ^ p))))) ∧ mI S' 75 0 = nI 0 ∧ MSt S' A ∧ FN mC S S') := by
  refine mt_of (by decide) (Nat.le_of_ble_eq_true rfl) ?_
  intro x hl hR hmL C E
  show GG x 106 0 0 [.ref 75, .int (nI (a)), .int (nI (p))] [] S 0
  subst hl
  refine g_iload_n C dX12_atomSize_0 rfl ?_
  refine g_callS C (k_isRegister _ ha) so_X12_106 dX12_atomSize_1 rfl rfl (rm_ok (M' := MX12_atomSize) hR (by decide)) (Nat.le_of_ble_eq_true rfl) (fun v9 S9 h9 => ?_)
  obtain ⟨rfl, h9⟩ := h9
  refine g_S S h9 ?_
  refine g_n0 [.int (bI (true))] rfl rfl rfl ?_
  refine b_if_ne C 13 dX12_atomSize_4 (fun h4 => ?_) (fun h4 => absurd h4 (by decide))
  refine g_aload_n C dX12_atomSize_13 rfl ?_
  refine g_iload_n C dX12_atomSize_14 rfl ?_
  refine g_callV C (As := [.int (nI (a))]) (k_tellAtomMachine _ hS hM ha hg) vo_X12_257 dX12_atomSize_15 rfl rfl (by decide) rfl (rm_ok (M' := MX12_atomSize) hR (by decide)) (Nat.le_of_ble_eq_true rfl) (fun v9 S1 h9 => ?_)
  obtain ⟨rfl, m1, t1⟩ := h9
  have hS1 : GS S1 := hS.fn t1.1.1
  have hM1 : MSt S1 A := hM.fs t1.1
  have a1 := m1.2.1
  have h64 := a1.2.2.1
  refine g_n0 [] rfl rfl rfl ?_
  refine g_aload_n C dX12_atomSize_18 rfl ?_
  refine g_iload_n C dX12_atomSize_19 rfl ?_
  refine g_callV C (As := [.int (nI (p))]) (k_isAtom _ hS1 a1 hp) vo_X12_248 dX12_atomSize_20 rfl rfl (by decide) rfl (rm_ok (M' := MX12_atomSize) hR (by decide)) (Nat.le_of_ble_eq_true rfl) (fun v9 S9 h9 => ?_)
  obtain ⟨rfl, h9⟩ := h9
  refine g_S S1 h9 ?_
  refine g_n0 [.int (bI (true))] rfl rfl rfl ?_
  refine b_if_ne C 32 dX12_atomSize_23 (fun h23 => ?_) (fun h23 => absurd h23 (by decide))
  refine g_aload_n C dX12_atomSize_32 rfl ?_
  refine n_lconst C 1 dX12_atomSize_33 ?_
  refine g_iload_n C dX12_atomSize_34 rfl ?_
  refine n_lshl C dX12_atomSize_35 ?_ (by omega)
  refine g_putJ C fo_X12_169 dX12_atomSize_36 rfl (by decide) rfl ?_
  refine g_aload_n C dX12_atomSize_39 rfl ?_
  refine n_bipush C 7 dX12_atomSize_40 ?_
  refine g_iload_n C dX12_atomSize_42 rfl ?_
  refine g_iload_n C dX12_atomSize_43 rfl ?_
  refine g_callV C (As := [.int (nI (7)), .int (nI (a)), .int (nI (a))]) (m_makes (mm7 _ hg (by rw [Nat.one_mul]; exact Nat.pow_lt_pow_right (by decide) (by omega))) (hS1.fn (FT.cJ).1.1) (hM1.fs (FT.cJ).1) m1.xa hB) vo_X12_231 dX12_atomSize_44 rfl rfl (by decide) rfl (rm_ok (M' := MX12_atomSize) hR (by decide)) (Nat.le_of_ble_eq_true rfl) (fun v9 SM h9 => ?_)
  obtain ⟨rfl, g1, g2⟩ := h9
  replace g1 : MkF (d7 A a) (a7 A a) (fun c => c < 2 ^ 64) SM (bf (d7 A a) (1 * 2 ^ p)) := g1
  have t2 : FT S SM := (t1.tr FT.cJ).tr g2.ft
  have hS9 : GS SM := hS.fn t2.1.1
  have hM9 : MSt SM A := hM.fs t2.1
  have hc9 : cM (d7 A a) (a7 A a) (bf (d7 A a) (1 * 2 ^ p)) ≤ 740 := g1.c9
  refine g_n0 [] rfl rfl rfl ?_
  refine g_aload_n C dX12_atomSize_47 rfl ?_
  refine g_aload_n C dX12_atomSize_48 rfl ?_
  refine g_getI C (a := (nI (cM (d7 A a) (a7 A a) (bf (d7 A a) (1 * 2 ^ p))))) fo_X12_222 dX12_atomSize_49 rfl (by decide) (fun _ => rfl) g1.2.2.2.2.2.2.2 ?_
  refine g_callV C (As := [.int (nI (cM (d7 A a) (a7 A a) (bf (d7 A a) (1 * 2 ^ p))))]) (k_done _ hS9) vo_X12_132 dX12_atomSize_52 rfl rfl (by decide) rfl (rm_ok (M' := MX12_atomSize) hR (by decide)) (Nat.le_of_ble_eq_true rfl) (fun v9 S9 h9 => ?_)
  obtain ⟨rfl, h9⟩ := h9
  refine g_S (wI SM 75 (va_up (mI SM 75) 0 (nI 0))) h9 ?_
  refine g_n0 [.int (nI (cM (d7 A a) (a7 A a) (bf (d7 A a) (1 * 2 ^ p))))] rfl rfl rfl ?_
  exact g_iret C E dX12_atomSize_55 (by rw [hR]; decide) (by rw [hR]; decide) ⟨rfl, th_0, hM9.fs th_fs, t2.1.mC.tr th_fs.mC⟩

set_option maxRecDepth 100000 in
theorem m_atomSize_a (l : Launch) {S : pv_M} {A : Ab} (hS : GS S) (hM : MSt S A) {a : Nat} (ha : a < 3) (hg : gdR (A.1.1 a)) {p : Int32} (hp : badI p (AL A a).length) : mt l MX12_atomSize 106 [.ref 75, .int (nI (a)), .int (p)] S (fun v S' => v = some (.int (nI 0)) ∧ mI S' 75 0 = nI 1 ∧ MSt S' A ∧ FN mC S S') := by
  refine mt_of (by decide) (Nat.le_of_ble_eq_true rfl) ?_
  intro x hl hR hmL C E
  show GG x 106 0 0 [.ref 75, .int (nI (a)), .int (p)] [] S 0
  subst hl
  refine g_iload_n C dX12_atomSize_0 rfl ?_
  refine g_callS C (k_isRegister _ ha) so_X12_106 dX12_atomSize_1 rfl rfl (rm_ok (M' := MX12_atomSize) hR (by decide)) (Nat.le_of_ble_eq_true rfl) (fun v9 S9 h9 => ?_)
  obtain ⟨rfl, h9⟩ := h9
  refine g_S S h9 ?_
  refine g_n0 [.int (bI (true))] rfl rfl rfl ?_
  refine b_if_ne C 13 dX12_atomSize_4 (fun h4 => ?_) (fun h4 => absurd h4 (by decide))
  refine g_aload_n C dX12_atomSize_13 rfl ?_
  refine g_iload_n C dX12_atomSize_14 rfl ?_
  refine g_callV C (As := [.int (nI (a))]) (k_tellAtomMachine _ hS hM ha hg) vo_X12_257 dX12_atomSize_15 rfl rfl (by decide) rfl (rm_ok (M' := MX12_atomSize) hR (by decide)) (Nat.le_of_ble_eq_true rfl) (fun v9 S1 h9 => ?_)
  obtain ⟨rfl, m1, t1⟩ := h9
  have hS1 : GS S1 := hS.fn t1.1.1
  have hM1 : MSt S1 A := hM.fs t1.1
  have a1 := m1.2.1
  have h64 := a1.2.2.1
  refine g_n0 [] rfl rfl rfl ?_
  refine g_aload_n C dX12_atomSize_18 rfl ?_
  refine g_iload_n C dX12_atomSize_19 rfl ?_
  refine g_callV C (As := [.int (p)]) (k_isAtomF _ hS1 a1 hp) vo_X12_248 dX12_atomSize_20 rfl rfl (by decide) rfl (rm_ok (M' := MX12_atomSize) hR (by decide)) (Nat.le_of_ble_eq_true rfl) (fun v9 S9 h9 => ?_)
  obtain ⟨rfl, h9⟩ := h9
  refine g_S S1 h9 ?_
  refine g_n0 [.int (bI (false))] rfl rfl rfl ?_
  refine b_if_ne C 32 dX12_atomSize_23 (fun h23 => absurd h23 (by decide)) (fun h23 => ?_)
  refine g_aload_n C dX12_atomSize_26 rfl ?_
  refine n_iconst C 1 dX12_atomSize_27 ?_
  refine g_callV C (As := [.int (nI (1))]) (k_fails _ hS1) vo_X12_136 dX12_atomSize_28 rfl rfl (by decide) rfl (rm_ok (M' := MX12_atomSize) hR (by decide)) (Nat.le_of_ble_eq_true rfl) (fun v9 S9 h9 => ?_)
  obtain ⟨rfl, h9⟩ := h9
  refine g_S (wI S1 75 (va_up (mI S1 75) 0 (nI 1))) h9 ?_
  refine g_n0 [.int (nI (0))] rfl rfl rfl ?_
  exact g_iret C E dX12_atomSize_31 (by rw [hR]; decide) (by rw [hR]; decide) ⟨rfl, th_0, hM1.fs th_fs, t1.1.mC.tr th_fs.mC⟩

set_option maxRecDepth 100000 in
theorem m_takeAtomWord_a (l : Launch) {S : pv_M} {A : Ab} (hS : GS S) (hM : MSt S A) {a : Nat} (ha : a < 3) (hg : gdR (A.1.1 a)) {p : Int32} (hp : badI p (AL A a).length) : mt l MX12_takeAtomWord 106 [.ref 75, .int (nI (a)), .int (p)] S (fun v S' => v = some (.int (nI 0)) ∧ mI S' 75 0 = nI 1 ∧ MSt S' A ∧ FN mC S S') := by
  refine mt_of (by decide) (Nat.le_of_ble_eq_true rfl) ?_
  intro x hl hR hmL C E
  show GG x 106 0 0 [.ref 75, .int (nI (a)), .int (p), unk] [] S 0
  subst hl
  refine g_iload_n C dX12_takeAtomWord_0 rfl ?_
  refine g_callS C (k_isRegister _ ha) so_X12_106 dX12_takeAtomWord_1 rfl rfl (rm_ok (M' := MX12_takeAtomWord) hR (by decide)) (Nat.le_of_ble_eq_true rfl) (fun v9 S9 h9 => ?_)
  obtain ⟨rfl, h9⟩ := h9
  refine g_S S h9 ?_
  refine g_n0 [.int (bI (true))] rfl rfl rfl ?_
  refine b_if_ne C 13 dX12_takeAtomWord_4 (fun h4 => ?_) (fun h4 => absurd h4 (by decide))
  refine g_aload_n C dX12_takeAtomWord_13 rfl ?_
  refine g_iload_n C dX12_takeAtomWord_14 rfl ?_
  refine g_callV C (As := [.int (nI (a))]) (k_tellAtomMachine _ hS hM ha hg) vo_X12_257 dX12_takeAtomWord_15 rfl rfl (by decide) rfl (rm_ok (M' := MX12_takeAtomWord) hR (by decide)) (Nat.le_of_ble_eq_true rfl) (fun v9 S1 h9 => ?_)
  obtain ⟨rfl, m1, t1⟩ := h9
  have hS1 : GS S1 := hS.fn t1.1.1
  have hM1 : MSt S1 A := hM.fs t1.1
  have a1 := m1.2.1
  have h64 := a1.2.2.1
  refine g_n0 [] rfl rfl rfl ?_
  refine g_aload_n C dX12_takeAtomWord_18 rfl ?_
  refine g_iload_n C dX12_takeAtomWord_19 rfl ?_
  refine g_callV C (As := [.int (p)]) (k_isAtomF _ hS1 a1 hp) vo_X12_248 dX12_takeAtomWord_20 rfl rfl (by decide) rfl (rm_ok (M' := MX12_takeAtomWord) hR (by decide)) (Nat.le_of_ble_eq_true rfl) (fun v9 S9 h9 => ?_)
  obtain ⟨rfl, h9⟩ := h9
  refine g_S S1 h9 ?_
  refine g_n0 [.int (bI (false))] rfl rfl rfl ?_
  refine b_if_ne C 32 dX12_takeAtomWord_23 (fun h23 => absurd h23 (by decide)) (fun h23 => ?_)
  refine g_aload_n C dX12_takeAtomWord_26 rfl ?_
  refine n_iconst C 1 dX12_takeAtomWord_27 ?_
  refine g_callV C (As := [.int (nI (1))]) (k_fails _ hS1) vo_X12_136 dX12_takeAtomWord_28 rfl rfl (by decide) rfl (rm_ok (M' := MX12_takeAtomWord) hR (by decide)) (Nat.le_of_ble_eq_true rfl) (fun v9 S9 h9 => ?_)
  obtain ⟨rfl, h9⟩ := h9
  refine g_S (wI S1 75 (va_up (mI S1 75) 0 (nI 1))) h9 ?_
  refine g_n0 [.int (nI (0))] rfl rfl rfl ?_
  exact g_iret C E dX12_takeAtomWord_31 (by rw [hR]; decide) (by rw [hR]; decide) ⟨rfl, th_0, hM1.fs th_fs, t1.1.mC.tr th_fs.mC⟩

set_option maxRecDepth 100000 in
theorem m_takeAtomWord_long (l : Launch) {S : pv_M} {A : Ab} (hS : GS S) (hM : MSt S A) {a : Nat} (ha : a < 3) (hg : gdR (A.1.1 a)) {p : Nat} (hp : p < (AL A a).length) (hB : (bf (d7 A a) (1 * 2 ^ p)).length ≤ 740) {s : Nat} (hs : s < (bf (d7 A a) (1 * 2 ^ p)).length) (hs1 : a7 A a ((bf (d7 A a) (1 * 2 ^ p)).getD s 0) = true) (hs2 : ∀ j, j < s → a7 A a ((bf (d7 A a) (1 * 2 ^ p)).getD j 0) = false) {O : Nat → Nat} (hOr : Or_ (bf (d7 A a) (1 * 2 ^ p)).length (nxt (d7 A a) (bf (d7 A a) (1 * 2 ^ p))) O) (hW : 12 < wl O (bf (d7 A a) (1 * 2 ^ p)).length s) : mt l MX12_takeAtomWord 106 [.ref 75, .int (nI (a)), .int (nI (p))] S (fun v S' => v = some (.int (nI 0)) ∧ mI S' 75 0 = nI 2 ∧ MSt S' A ∧ FN mC S S') := by
  refine mt_of (by decide) (Nat.le_of_ble_eq_true rfl) ?_
  intro x hl hR hmL C E
  show GG x 106 0 0 [.ref 75, .int (nI (a)), .int (nI (p)), unk] [] S 0
  subst hl
  refine g_iload_n C dX12_takeAtomWord_0 rfl ?_
  refine g_callS C (k_isRegister _ ha) so_X12_106 dX12_takeAtomWord_1 rfl rfl (rm_ok (M' := MX12_takeAtomWord) hR (by decide)) (Nat.le_of_ble_eq_true rfl) (fun v9 S9 h9 => ?_)
  obtain ⟨rfl, h9⟩ := h9
  refine g_S S h9 ?_
  refine g_n0 [.int (bI (true))] rfl rfl rfl ?_
  refine b_if_ne C 13 dX12_takeAtomWord_4 (fun h4 => ?_) (fun h4 => absurd h4 (by decide))
  refine g_aload_n C dX12_takeAtomWord_13 rfl ?_
  refine g_iload_n C dX12_takeAtomWord_14 rfl ?_
  refine g_callV C (As := [.int (nI (a))]) (k_tellAtomMachine _ hS hM ha hg) vo_X12_257 dX12_takeAtomWord_15 rfl rfl (by decide) rfl (rm_ok (M' := MX12_takeAtomWord) hR (by decide)) (Nat.le_of_ble_eq_true rfl) (fun v9 S1 h9 => ?_)
  obtain ⟨rfl, m1, t1⟩ := h9
  have hS1 : GS S1 := hS.fn t1.1.1
  have hM1 : MSt S1 A := hM.fs t1.1
  have a1 := m1.2.1
  have h64 := a1.2.2.1
  refine g_n0 [] rfl rfl rfl ?_
  refine g_aload_n C dX12_takeAtomWord_18 rfl ?_
  refine g_iload_n C dX12_takeAtomWord_19 rfl ?_
  refine g_callV C (As := [.int (nI (p))]) (k_isAtom _ hS1 a1 hp) vo_X12_248 dX12_takeAtomWord_20 rfl rfl (by decide) rfl (rm_ok (M' := MX12_takeAtomWord) hR (by decide)) (Nat.le_of_ble_eq_true rfl) (fun v9 S9 h9 => ?_)
  obtain ⟨rfl, h9⟩ := h9
  refine g_S S1 h9 ?_
  refine g_n0 [.int (bI (true))] rfl rfl rfl ?_
  refine b_if_ne C 32 dX12_takeAtomWord_23 (fun h23 => ?_) (fun h23 => absurd h23 (by decide))
  refine g_aload_n C dX12_takeAtomWord_32 rfl ?_
  refine n_lconst C 1 dX12_takeAtomWord_33 ?_
  refine g_iload_n C dX12_takeAtomWord_34 rfl ?_
  refine n_lshl C dX12_takeAtomWord_35 ?_ (by omega)
  refine g_putJ C fo_X12_169 dX12_takeAtomWord_36 rfl (by decide) rfl ?_
  refine g_aload_n C dX12_takeAtomWord_39 rfl ?_
  refine n_bipush C 7 dX12_takeAtomWord_40 ?_
  refine g_iload_n C dX12_takeAtomWord_42 rfl ?_
  refine g_iload_n C dX12_takeAtomWord_43 rfl ?_
  refine g_callV C (As := [.int (nI (7)), .int (nI (a)), .int (nI (a))]) (m_makes (mm7 _ hg (by rw [Nat.one_mul]; exact Nat.pow_lt_pow_right (by decide) (by omega))) (hS1.fn (FT.cJ).1.1) (hM1.fs (FT.cJ).1) m1.xa hB) vo_X12_231 dX12_takeAtomWord_44 rfl rfl (by decide) rfl (rm_ok (M' := MX12_takeAtomWord) hR (by decide)) (Nat.le_of_ble_eq_true rfl) (fun v9 SM h9 => ?_)
  obtain ⟨rfl, g1, g2⟩ := h9
  replace g1 : MkF (d7 A a) (a7 A a) (fun c => c < 2 ^ 64) SM (bf (d7 A a) (1 * 2 ^ p)) := g1
  have t2 : FT S SM := (t1.tr FT.cJ).tr g2.ft
  have hS9 : GS SM := hS.fn t2.1.1
  have hM9 : MSt SM A := hM.fs t2.1
  have hc9 : cM (d7 A a) (a7 A a) (bf (d7 A a) (1 * 2 ^ p)) ≤ 740 := g1.c9
  obtain ⟨O2, o0, o1, o2⟩ := g1.2.2.2.2.2.1
  have hO9 : ∀ j, 0 < j → j < (bf (d7 A a) (1 * 2 ^ p)).length → mI SM 91 j = nI (O j / 3) ∧ mI SM 92 j = nI (O j % 3) := fun j h1 h2 => by rw [Or_uniq hOr o1 j h2]; exact o2 j h1 h2
  have hOl : ∀ j, 0 < j → j < (bf (d7 A a) (1 * 2 ^ p)).length → O j / 3 < j := fun j h1 h2 => (hOr.2 j h1 h2).2.1
  refine g_n0 [] rfl rfl rfl ?_
  refine g_aload_n C dX12_takeAtomWord_47 rfl ?_
  refine g_callV C (As := []) (k_fw_long _ hS9 g1.1.1 g1.1.2.2.2.2 g1.2.2.2.2.1 hOl (fun j h1 h2 => (hO9 j h1 h2).1) hs hs1 hs2 hW) vo_X12_260 dX12_takeAtomWord_48 rfl rfl (by decide) rfl (rm_ok (M' := MX12_takeAtomWord) hR (by decide)) (Nat.le_of_ble_eq_true rfl) (fun v9 S5 h9 => ?_)
  obtain ⟨rfl, h9⟩ := h9
  refine g_S SM h9 ?_
  refine g_n0 [.int (-2)] rfl rfl rfl ?_
  refine g_istore_n C (by rw [hmL]; decide) dX12_takeAtomWord_51 [.ref 75, .int (nI (a)), .int (nI (p)), .int (-2)] rfl ?_
  refine g_iload_n C dX12_takeAtomWord_52 rfl ?_
  refine g_if_ge C 64 dX12_takeAtomWord_53 (by decide) (fun h53 => absurd h53 (by decide)) (fun h53 => ?_)
  refine g_aload_n C dX12_takeAtomWord_56 rfl ?_
  refine n_iconst C 2 dX12_takeAtomWord_57 ?_
  refine g_callV C (As := [.int (nI (2))]) (k_fails _ hS9) vo_X12_136 dX12_takeAtomWord_58 rfl rfl (by decide) rfl (rm_ok (M' := MX12_takeAtomWord) hR (by decide)) (Nat.le_of_ble_eq_true rfl) (fun v9 S9 h9 => ?_)
  obtain ⟨rfl, h9⟩ := h9
  refine g_S (wI SM 75 (va_up (mI SM 75) 0 (nI 2))) h9 ?_
  refine g_n0 [.int (nI (0))] rfl rfl rfl ?_
  refine g_goto C 69 dX12_takeAtomWord_61 (by decide) ?_
  exact g_iret C E dX12_takeAtomWord_69 (by rw [hR]; decide) (by rw [hR]; decide) ⟨rfl, th_0, hM9.fs th_fs, t2.1.mC.tr th_fs.mC⟩

set_option maxRecDepth 100000 in
theorem m_takeAtomWord (l : Launch) {S : pv_M} {A : Ab} (hS : GS S) (hM : MSt S A) {a : Nat} (ha : a < 3) (hg : gdR (A.1.1 a)) {p : Nat} (hp : p < (AL A a).length) (hB : (bf (d7 A a) (1 * 2 ^ p)).length ≤ 740) {s : Nat} (hs : s < (bf (d7 A a) (1 * 2 ^ p)).length) (hs1 : a7 A a ((bf (d7 A a) (1 * 2 ^ p)).getD s 0) = true) (hs2 : ∀ j, j < s → a7 A a ((bf (d7 A a) (1 * 2 ^ p)).getD j 0) = false) {O : Nat → Nat} (hOr : Or_ (bf (d7 A a) (1 * 2 ^ p)).length (nxt (d7 A a) (bf (d7 A a) (1 * 2 ^ p))) O) (hW : wl O (bf (d7 A a) (1 * 2 ^ p)).length s ≤ 12) : mt l MX12_takeAtomWord 106 [.ref 75, .int (nI (a)), .int (nI (p))] S (fun v S' => v = some (.int (nI (wl O (bf (d7 A a) (1 * 2 ^ p)).length s))) ∧ mI S' 75 0 = nI 0 ∧ MSt S' (setW A (wl O (bf (d7 A a) (1 * 2 ^ p)).length s, fw O (bf (d7 A a) (1 * 2 ^ p)).length s (wL A))) ∧ FN mC S S') := by
  refine mt_of (by decide) (Nat.le_of_ble_eq_true rfl) ?_
  intro x hl hR hmL C E
  show GG x 106 0 0 [.ref 75, .int (nI (a)), .int (nI (p)), unk] [] S 0
  subst hl
  refine g_iload_n C dX12_takeAtomWord_0 rfl ?_
  refine g_callS C (k_isRegister _ ha) so_X12_106 dX12_takeAtomWord_1 rfl rfl (rm_ok (M' := MX12_takeAtomWord) hR (by decide)) (Nat.le_of_ble_eq_true rfl) (fun v9 S9 h9 => ?_)
  obtain ⟨rfl, h9⟩ := h9
  refine g_S S h9 ?_
  refine g_n0 [.int (bI (true))] rfl rfl rfl ?_
  refine b_if_ne C 13 dX12_takeAtomWord_4 (fun h4 => ?_) (fun h4 => absurd h4 (by decide))
  refine g_aload_n C dX12_takeAtomWord_13 rfl ?_
  refine g_iload_n C dX12_takeAtomWord_14 rfl ?_
  refine g_callV C (As := [.int (nI (a))]) (k_tellAtomMachine _ hS hM ha hg) vo_X12_257 dX12_takeAtomWord_15 rfl rfl (by decide) rfl (rm_ok (M' := MX12_takeAtomWord) hR (by decide)) (Nat.le_of_ble_eq_true rfl) (fun v9 S1 h9 => ?_)
  obtain ⟨rfl, m1, t1⟩ := h9
  have hS1 : GS S1 := hS.fn t1.1.1
  have hM1 : MSt S1 A := hM.fs t1.1
  have a1 := m1.2.1
  have h64 := a1.2.2.1
  refine g_n0 [] rfl rfl rfl ?_
  refine g_aload_n C dX12_takeAtomWord_18 rfl ?_
  refine g_iload_n C dX12_takeAtomWord_19 rfl ?_
  refine g_callV C (As := [.int (nI (p))]) (k_isAtom _ hS1 a1 hp) vo_X12_248 dX12_takeAtomWord_20 rfl rfl (by decide) rfl (rm_ok (M' := MX12_takeAtomWord) hR (by decide)) (Nat.le_of_ble_eq_true rfl) (fun v9 S9 h9 => ?_)
  obtain ⟨rfl, h9⟩ := h9
  refine g_S S1 h9 ?_
  refine g_n0 [.int (bI (true))] rfl rfl rfl ?_
  refine b_if_ne C 32 dX12_takeAtomWord_23 (fun h23 => ?_) (fun h23 => absurd h23 (by decide))
  refine g_aload_n C dX12_takeAtomWord_32 rfl ?_
  refine n_lconst C 1 dX12_takeAtomWord_33 ?_
  refine g_iload_n C dX12_takeAtomWord_34 rfl ?_
  refine n_lshl C dX12_takeAtomWord_35 ?_ (by omega)
  refine g_putJ C fo_X12_169 dX12_takeAtomWord_36 rfl (by decide) rfl ?_
  refine g_aload_n C dX12_takeAtomWord_39 rfl ?_
  refine n_bipush C 7 dX12_takeAtomWord_40 ?_
  refine g_iload_n C dX12_takeAtomWord_42 rfl ?_
  refine g_iload_n C dX12_takeAtomWord_43 rfl ?_
  refine g_callV C (As := [.int (nI (7)), .int (nI (a)), .int (nI (a))]) (m_makes (mm7 _ hg (by rw [Nat.one_mul]; exact Nat.pow_lt_pow_right (by decide) (by omega))) (hS1.fn (FT.cJ).1.1) (hM1.fs (FT.cJ).1) m1.xa hB) vo_X12_231 dX12_takeAtomWord_44 rfl rfl (by decide) rfl (rm_ok (M' := MX12_takeAtomWord) hR (by decide)) (Nat.le_of_ble_eq_true rfl) (fun v9 SM h9 => ?_)
  obtain ⟨rfl, g1, g2⟩ := h9
  replace g1 : MkF (d7 A a) (a7 A a) (fun c => c < 2 ^ 64) SM (bf (d7 A a) (1 * 2 ^ p)) := g1
  have t2 : FT S SM := (t1.tr FT.cJ).tr g2.ft
  have hS9 : GS SM := hS.fn t2.1.1
  have hM9 : MSt SM A := hM.fs t2.1
  have hc9 : cM (d7 A a) (a7 A a) (bf (d7 A a) (1 * 2 ^ p)) ≤ 740 := g1.c9
  obtain ⟨O2, o0, o1, o2⟩ := g1.2.2.2.2.2.1
  have hO9 : ∀ j, 0 < j → j < (bf (d7 A a) (1 * 2 ^ p)).length → mI SM 91 j = nI (O j / 3) ∧ mI SM 92 j = nI (O j % 3) := fun j h1 h2 => by rw [Or_uniq hOr o1 j h2]; exact o2 j h1 h2
  have hOl : ∀ j, 0 < j → j < (bf (d7 A a) (1 * 2 ^ p)).length → O j / 3 < j := fun j h1 h2 => (hOr.2 j h1 h2).2.1
  refine g_n0 [] rfl rfl rfl ?_
  refine g_aload_n C dX12_takeAtomWord_47 rfl ?_
  refine g_callV C (As := []) (k_fw_ok _ hS9 g1.1.1 g1.1.2.2.2.2 g1.2.2.2.2.1 hOl (fun j h1 h2 => (hO9 j h1 h2).1) hs hs1 hs2 hM9 (fun j h1 h2 => (hO9 j h1 h2).2) hW) vo_X12_260 dX12_takeAtomWord_48 rfl rfl (by decide) rfl (rm_ok (M' := MX12_takeAtomWord) hR (by decide)) (Nat.le_of_ble_eq_true rfl) (fun v9 S7 h9 => ?_)
  obtain ⟨rfl, w1, w2⟩ := h9
  have hS7 : GS S7 := hS9.fn w2
  refine g_n0 [.int (nI (wl O (bf (d7 A a) (1 * 2 ^ p)).length s))] rfl rfl rfl ?_
  refine g_istore_n C (by rw [hmL]; decide) dX12_takeAtomWord_51 [.ref 75, .int (nI (a)), .int (nI (p)), .int (nI (wl O (bf (d7 A a) (1 * 2 ^ p)).length s))] rfl ?_
  refine g_iload_n C dX12_takeAtomWord_52 rfl ?_
  refine g_if_ge C 64 dX12_takeAtomWord_53 (by decide) (fun h53 => ?_) (fun h53 => absurd (show nI 0 ≤ nI (wl O (bf (d7 A a) (1 * 2 ^ p)).length s) from (nI_leI (by decide) (by omega)).mpr (Nat.zero_le _)) h53)
  refine g_aload_n C dX12_takeAtomWord_64 rfl ?_
  refine g_iload_n C dX12_takeAtomWord_65 rfl ?_
  refine g_callV C (As := [.int (nI (wl O (bf (d7 A a) (1 * 2 ^ p)).length s))]) (k_done _ hS7) vo_X12_132 dX12_takeAtomWord_66 rfl rfl (by decide) rfl (rm_ok (M' := MX12_takeAtomWord) hR (by decide)) (Nat.le_of_ble_eq_true rfl) (fun v9 S9 h9 => ?_)
  obtain ⟨rfl, h9⟩ := h9
  refine g_S (wI S7 75 (va_up (mI S7 75) 0 (nI 0))) h9 ?_
  refine g_n0 [.int (nI (wl O (bf (d7 A a) (1 * 2 ^ p)).length s))] rfl rfl rfl ?_
  exact g_iret C E dX12_takeAtomWord_69 (by rw [hR]; decide) (by rw [hR]; decide) ⟨rfl, th_0, w1.fs th_fs, (t2.1.mC.tr w2).tr th_fs.mC⟩
