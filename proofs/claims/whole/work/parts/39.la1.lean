set_option maxRecDepth 100000 in
theorem t_checkState_r {l : Launch} (hst : l.stackTraces = false) {S : pv_M} {p : Int32} (h : badI p 3) {q : Int32} : mth l MX11_checkState.th 106 [.ref 0, .int (p), .int (q)] S "java/lang/IndexOutOfBoundsException" (fun S' => S' = S) := by
  refine mth_of hst (by decide) (Nat.le_of_ble_eq_true rfl) ?_
  intro x hl hR hmL C X
  have hst' : x.1.2.1.stackTraces = false := by rw [hl]; exact hst
  show GG x 106 0 0 [.ref 0, .int (p), .int (q)] [] S 0
  refine g_iload_n C dX11_checkState_0 rfl ?_
  exact g_thrS C X (t_checkRegister hst' h) so_X11_88 dX11_checkState_1 rfl rfl (rm_ok (M' := MX11_checkState.th) hR (by decide)) (Nat.le_of_ble_eq_true rfl) (fun _ h => h)

set_option maxRecDepth 100000 in
theorem t_checkState_s {l : Launch} (hst : l.stackTraces = false) {S : pv_M} {j n F : Nat} {T : Nat → Nat} (hS : GS S) (hj : j < 3) (hA : RegAt S j n T F) {p : Int32} (h : badI p n) : mth l MX11_checkState.th 106 [.ref 0, .int (nI (j)), .int (p)] S "java/lang/IndexOutOfBoundsException" (fun S' => S' = S) := by
  refine mth_of hst (by decide) (Nat.le_of_ble_eq_true rfl) ?_
  intro x hl hR hmL C X
  have hst' : x.1.2.1.stackTraces = false := by rw [hl]; exact hst
  show GG x 106 0 0 [.ref 0, .int (nI (j)), .int (p)] [] S 0
  have hn6 := hA.2.2.1
  refine g_iload_n C dX11_checkState_0 rfl ?_
  refine g_callS C (k_checkRegister _ hj) so_X11_88 dX11_checkState_1 rfl rfl (rm_ok (M' := MX11_checkState.th) hR (by decide)) (Nat.le_of_ble_eq_true rfl) (fun v9 S9 h9 => ?_)
  obtain ⟨rfl, h9⟩ := h9
  refine g_S S h9 ?_
  refine g_n0 [] rfl rfl rfl ?_
  refine g_iload_n C dX11_checkState_4 rfl ?_
  refine g_aload_n C dX11_checkState_5 rfl ?_
  refine g_getR C fo_X11_11 dX11_checkState_6 rfl (by decide) (fun _ => rfl) (gs_0_0 hS) ?_
  refine g_iload_n C dX11_checkState_9 rfl ?_
  refine g_aald C dX11_checkState_10 rfl (Or.inl rfl) (by decide) (by omega) rfl (hS.reg hj) ?_
  refine g_getI C fo_X11_117 dX11_checkState_11 hA.1.1 hA.1.2.1 (fun _ => rfl) hA.1.2.2.2.2.2.1 ?_
  exact g_thrS C X (t_checkIndex hst' h) so_X11_140 dX11_checkState_14 rfl rfl (rm_ok (M' := MX11_checkState.th) hR (by decide)) (Nat.le_of_ble_eq_true rfl) (fun _ h => h)

set_option maxRecDepth 100000 in
theorem c_reset (l : Launch) {S : pv_M} {j n F : Nat} {T : Nat → Nat} (hS : GS S) (hj : j < 3) (hA : RegAt S j n T F) {m : Nat} (h0 : 0 < m) (h6 : m ≤ 6) : mt l MX11_reset 106 [.ref 0, .int (nI (j)), .int (nI (m))] S (fun v S' => v = none ∧ RegAt S' j m (fun _ => 0) 0 ∧ FN (two (53 + 4 * j) (54 + 4 * j)) S S') := by
  refine mt_of (by decide) (Nat.le_of_ble_eq_true rfl) ?_
  intro x hl hR hmL C E
  show GG x 106 0 0 [.ref 0, .int (nI (j)), .int (nI (m))] [] S 0
  refine g_iload_n C dX11_reset_0 rfl ?_
  refine g_callS C (k_checkRegister _ hj) so_X11_88 dX11_reset_1 rfl rfl (rm_ok (M' := MX11_reset) hR (by decide)) (Nat.le_of_ble_eq_true rfl) (fun v9 S9 h9 => ?_)
  obtain ⟨rfl, h9⟩ := h9
  refine g_S S h9 ?_
  refine g_n0 [] rfl rfl rfl ?_
  refine g_iload_n C dX11_reset_4 rfl ?_
  refine g_callS C (k_checkStates _ h0 h6) so_X11_92 dX11_reset_5 rfl rfl (rm_ok (M' := MX11_reset) hR (by decide)) (Nat.le_of_ble_eq_true rfl) (fun v9 S9 h9 => ?_)
  obtain ⟨rfl, h9⟩ := h9
  refine g_S S h9 ?_
  refine g_n0 [] rfl rfl rfl ?_
  refine g_aload_n C dX11_reset_8 rfl ?_
  refine g_getR C fo_X11_11 dX11_reset_9 rfl (by decide) (fun _ => rfl) (gs_0_0 hS) ?_
  refine g_iload_n C dX11_reset_12 rfl ?_
  refine g_aald C dX11_reset_13 rfl (Or.inl rfl) (by decide) (by omega) rfl (hS.reg hj) ?_
  refine g_iload_n C dX11_reset_14 rfl ?_
  refine g_callV C (As := [.int (nI (m))]) (c_X1_clear _ hA.1) vo_X11_95 dX11_reset_15 rfl hA.1.1 hA.1.2.1 rfl (rm_ok (M' := MX11_reset) hR (by decide)) (Nat.le_of_ble_eq_true rfl) (fun v9 S9 h9 => ?_)
  obtain ⟨rfl, g1, g2⟩ := h9
  refine g_n0 [] rfl rfl rfl ?_
  exact g_vret C E dX11_reset_18 (by rw [hR]; decide) (by rw [hR]; decide) ⟨rfl, ⟨g1, h0, h6, fun i hi => h0, by decide⟩, g2⟩

set_option maxRecDepth 100000 in
theorem t_reset_r {l : Launch} (hst : l.stackTraces = false) {S : pv_M} {p : Int32} (h : badI p 3) {q : Int32} : mth l MX11_reset.th 106 [.ref 0, .int (p), .int (q)] S "java/lang/IndexOutOfBoundsException" (fun S' => S' = S) := by
  refine mth_of hst (by decide) (Nat.le_of_ble_eq_true rfl) ?_
  intro x hl hR hmL C X
  have hst' : x.1.2.1.stackTraces = false := by rw [hl]; exact hst
  show GG x 106 0 0 [.ref 0, .int (p), .int (q)] [] S 0
  refine g_iload_n C dX11_reset_0 rfl ?_
  exact g_thrS C X (t_checkRegister hst' h) so_X11_88 dX11_reset_1 rfl rfl (rm_ok (M' := MX11_reset.th) hR (by decide)) (Nat.le_of_ble_eq_true rfl) (fun _ h => h)

set_option maxRecDepth 100000 in
theorem t_reset_n {l : Launch} (hst : l.stackTraces = false) {S : pv_M} {j : Nat} (hj : j < 3) {p : Int32} (h : p < nI 1 ∨ nI 6 < p) : mth l MX11_reset.th 106 [.ref 0, .int (nI (j)), .int (p)] S "java/lang/IllegalArgumentException" (fun S' => S' = S) := by
  refine mth_of hst (by decide) (Nat.le_of_ble_eq_true rfl) ?_
  intro x hl hR hmL C X
  have hst' : x.1.2.1.stackTraces = false := by rw [hl]; exact hst
  show GG x 106 0 0 [.ref 0, .int (nI (j)), .int (p)] [] S 0
  refine g_iload_n C dX11_reset_0 rfl ?_
  refine g_callS C (k_checkRegister _ hj) so_X11_88 dX11_reset_1 rfl rfl (rm_ok (M' := MX11_reset.th) hR (by decide)) (Nat.le_of_ble_eq_true rfl) (fun v9 S9 h9 => ?_)
  obtain ⟨rfl, h9⟩ := h9
  refine g_S S h9 ?_
  refine g_n0 [] rfl rfl rfl ?_
  refine g_iload_n C dX11_reset_4 rfl ?_
  exact g_thrS C X (t_checkStates hst' h) so_X11_92 dX11_reset_5 rfl rfl (rm_ok (M' := MX11_reset.th) hR (by decide)) (Nat.le_of_ble_eq_true rfl) (fun _ h => h)

theorem witT_lt {n : Nat} (h0 : 0 < n) (h6 : n ≤ 6) : ∀ j, j < n * 3 → witT n j < n := by
  intro j hj
  unfold witT
  rw [if_pos (by omega)]
  by_cases e0 : j % 3 = 0
  · rw [if_pos e0]
    by_cases e : j / 3 = n - 1
    · rw [if_pos e]; exact h0
    · rw [if_neg e]; omega
  · rw [if_neg e0]
    by_cases e1 : j % 3 = 1
    · rw [if_pos e1]
      by_cases e : j / 3 < 2 ∧ 1 < n
      · rw [if_pos e]; omega
      · rw [if_neg e]; omega
    · rw [if_neg e1]
      by_cases e : j / 3 = n - 1
      · rw [if_pos e]; exact h0
      · rw [if_neg e]; omega

set_option maxRecDepth 100000 in
theorem c_makeWitness (l : Launch) {S : pv_M} {j n F : Nat} {T : Nat → Nat} (hS : GS S) (hj : j < 3) (hA : RegAt S j n T F) {m : Nat} (h0 : 0 < m) (h6 : m ≤ 6) : mt l MX11_makeWitness 106 [.ref 0, .int (nI (j)), .int (nI (m))] S (fun v S' => v = none ∧ RegAt S' j m (witT m) (fset 0 (m - 1) true) ∧ FN (two (53 + 4 * j) (54 + 4 * j)) S S') := by
  refine mt_of (by decide) (Nat.le_of_ble_eq_true rfl) ?_
  intro x hl hR hmL C E
  show GG x 106 0 0 [.ref 0, .int (nI (j)), .int (nI (m))] [] S 0
  refine g_iload_n C dX11_makeWitness_0 rfl ?_
  refine g_callS C (k_checkRegister _ hj) so_X11_88 dX11_makeWitness_1 rfl rfl (rm_ok (M' := MX11_makeWitness) hR (by decide)) (Nat.le_of_ble_eq_true rfl) (fun v9 S9 h9 => ?_)
  obtain ⟨rfl, h9⟩ := h9
  refine g_S S h9 ?_
  refine g_n0 [] rfl rfl rfl ?_
  refine g_iload_n C dX11_makeWitness_4 rfl ?_
  refine g_callS C (k_checkStates _ h0 h6) so_X11_92 dX11_makeWitness_5 rfl rfl (rm_ok (M' := MX11_makeWitness) hR (by decide)) (Nat.le_of_ble_eq_true rfl) (fun v9 S9 h9 => ?_)
  obtain ⟨rfl, h9⟩ := h9
  refine g_S S h9 ?_
  refine g_n0 [] rfl rfl rfl ?_
  refine g_aload_n C dX11_makeWitness_8 rfl ?_
  refine g_getR C fo_X11_11 dX11_makeWitness_9 rfl (by decide) (fun _ => rfl) (gs_0_0 hS) ?_
  refine g_iload_n C dX11_makeWitness_12 rfl ?_
  refine g_aald C dX11_makeWitness_13 rfl (Or.inl rfl) (by decide) (by omega) rfl (hS.reg hj) ?_
  refine g_iload_n C dX11_makeWitness_14 rfl ?_
  refine g_callV C (As := [.int (nI (m))]) (c_X1_becomeWitness _ hA.1 h0 h6) vo_X11_128 dX11_makeWitness_15 rfl hA.1.1 hA.1.2.1 rfl (rm_ok (M' := MX11_makeWitness) hR (by decide)) (Nat.le_of_ble_eq_true rfl) (fun v9 S9 h9 => ?_)
  obtain ⟨rfl, g1, g2⟩ := h9
  refine g_n0 [] rfl rfl rfl ?_
  exact g_vret C E dX11_makeWitness_18 (by rw [hR]; decide) (by rw [hR]; decide) ⟨rfl, ⟨g1, h0, h6, witT_lt h0 h6, (fset_ok 0 (by decide) (m - 1) (by omega) true).1⟩, g2⟩

set_option maxRecDepth 100000 in
theorem t_makeWitness_r {l : Launch} (hst : l.stackTraces = false) {S : pv_M} {p : Int32} (h : badI p 3) {q : Int32} : mth l MX11_makeWitness.th 106 [.ref 0, .int (p), .int (q)] S "java/lang/IndexOutOfBoundsException" (fun S' => S' = S) := by
  refine mth_of hst (by decide) (Nat.le_of_ble_eq_true rfl) ?_
  intro x hl hR hmL C X
  have hst' : x.1.2.1.stackTraces = false := by rw [hl]; exact hst
  show GG x 106 0 0 [.ref 0, .int (p), .int (q)] [] S 0
  refine g_iload_n C dX11_makeWitness_0 rfl ?_
  exact g_thrS C X (t_checkRegister hst' h) so_X11_88 dX11_makeWitness_1 rfl rfl (rm_ok (M' := MX11_makeWitness.th) hR (by decide)) (Nat.le_of_ble_eq_true rfl) (fun _ h => h)

set_option maxRecDepth 100000 in
theorem t_makeWitness_n {l : Launch} (hst : l.stackTraces = false) {S : pv_M} {j : Nat} (hj : j < 3) {p : Int32} (h : p < nI 1 ∨ nI 6 < p) : mth l MX11_makeWitness.th 106 [.ref 0, .int (nI (j)), .int (p)] S "java/lang/IllegalArgumentException" (fun S' => S' = S) := by
  refine mth_of hst (by decide) (Nat.le_of_ble_eq_true rfl) ?_
  intro x hl hR hmL C X
  have hst' : x.1.2.1.stackTraces = false := by rw [hl]; exact hst
  show GG x 106 0 0 [.ref 0, .int (nI (j)), .int (p)] [] S 0
  refine g_iload_n C dX11_makeWitness_0 rfl ?_
  refine g_callS C (k_checkRegister _ hj) so_X11_88 dX11_makeWitness_1 rfl rfl (rm_ok (M' := MX11_makeWitness.th) hR (by decide)) (Nat.le_of_ble_eq_true rfl) (fun v9 S9 h9 => ?_)
  obtain ⟨rfl, h9⟩ := h9
  refine g_S S h9 ?_
  refine g_n0 [] rfl rfl rfl ?_
  refine g_iload_n C dX11_makeWitness_4 rfl ?_
  exact g_thrS C X (t_checkStates hst' h) so_X11_92 dX11_makeWitness_5 rfl rfl (rm_ok (M' := MX11_makeWitness.th) hR (by decide)) (Nat.le_of_ble_eq_true rfl) (fun _ h => h)

set_option maxRecDepth 100000 in
theorem c_setTarget (l : Launch) {S : pv_M} {j n F : Nat} {T : Nat → Nat} (hS : GS S) (hj : j < 3) (hA : RegAt S j n T F) {s q t : Nat} (h1 : s < n) (h2 : q < 3) (h3 : t < n) : mt l MX11_setTarget 106 [.ref 0, .int (nI (j)), .int (nI (s)), .int (nI (q)), .int (nI (t))] S (fun v S' => v = none ∧ RegAt S' j n (va_up T (s * 3 + q) t) F ∧ FN (two (53 + 4 * j) (54 + 4 * j)) S S') := by
  refine mt_of (by decide) (Nat.le_of_ble_eq_true rfl) ?_
  intro x hl hR hmL C E
  show GG x 106 0 0 [.ref 0, .int (nI (j)), .int (nI (s)), .int (nI (q)), .int (nI (t))] [] S 0
  have hn6 := hA.2.2.1
  refine g_aload_n C dX11_setTarget_0 rfl ?_
  refine g_iload_n C dX11_setTarget_1 rfl ?_
  refine g_iload_n C dX11_setTarget_2 rfl ?_
  refine g_callV C (As := [.int (nI (j)), .int (nI (s))]) (k_checkState _ hS hj hA h1) vo_X11_98 dX11_setTarget_3 rfl rfl (by decide) rfl (rm_ok (M' := MX11_setTarget) hR (by decide)) (Nat.le_of_ble_eq_true rfl) (fun v9 S9 h9 => ?_)
  obtain ⟨rfl, h9⟩ := h9
  refine g_S S h9 ?_
  refine g_n0 [] rfl rfl rfl ?_
  refine g_iload_n C dX11_setTarget_6 rfl ?_
  refine g_callS C (k_checkLetter _ h2) so_X11_102 dX11_setTarget_7 rfl rfl (rm_ok (M' := MX11_setTarget) hR (by decide)) (Nat.le_of_ble_eq_true rfl) (fun v9 S9 h9 => ?_)
  obtain ⟨rfl, h9⟩ := h9
  refine g_S S h9 ?_
  refine g_n0 [] rfl rfl rfl ?_
  refine g_aload_n C dX11_setTarget_10 rfl ?_
  refine g_iload_n C dX11_setTarget_11 rfl ?_
  refine g_iload C dX11_setTarget_12 rfl ?_
  refine g_callV C (As := [.int (nI (j)), .int (nI (t))]) (k_checkState _ hS hj hA h3) vo_X11_98 dX11_setTarget_14 rfl rfl (by decide) rfl (rm_ok (M' := MX11_setTarget) hR (by decide)) (Nat.le_of_ble_eq_true rfl) (fun v9 S9 h9 => ?_)
  obtain ⟨rfl, h9⟩ := h9
  refine g_S S h9 ?_
  refine g_n0 [] rfl rfl rfl ?_
  refine g_aload_n C dX11_setTarget_17 rfl ?_
  refine g_getR C fo_X11_11 dX11_setTarget_18 rfl (by decide) (fun _ => rfl) (gs_0_0 hS) ?_
  refine g_iload_n C dX11_setTarget_21 rfl ?_
  refine g_aald C dX11_setTarget_22 rfl (Or.inl rfl) (by decide) (by omega) rfl (hS.reg hj) ?_
  refine g_iload_n C dX11_setTarget_23 rfl ?_
  refine g_iload_n C dX11_setTarget_24 rfl ?_
  refine g_iload C dX11_setTarget_25 rfl ?_
  refine g_callV C (As := [.int (nI (s)), .int (nI (q)), .int (nI (t))]) (c_X1_lead _ hA.1 (by omega)) vo_X11_105 dX11_setTarget_27 rfl hA.1.1 hA.1.2.1 rfl (rm_ok (M' := MX11_setTarget) hR (by decide)) (Nat.le_of_ble_eq_true rfl) (fun v9 S9 h9 => ?_)
  obtain ⟨rfl, g1, g2⟩ := h9
  refine g_n0 [] rfl rfl rfl ?_
  exact g_vret C E dX11_setTarget_30 (by rw [hR]; decide) (by rw [hR]; decide) ⟨rfl, ⟨g1, hA.2.1, hA.2.2.1, fun i hi => by
    by_cases e : i = s * 3 + q
    · rw [e, up_same]; exact h3
    · rw [va_up_ne _ _ e]; exact hA.2.2.2.1 i hi, hA.2.2.2.2⟩, g2⟩

set_option maxRecDepth 100000 in
theorem t_setTarget_r {l : Launch} (hst : l.stackTraces = false) {S : pv_M} {p : Int32} (h : badI p 3) {q1 q2 q3 : Int32} : mth l MX11_setTarget.th 106 [.ref 0, .int (p), .int (q1), .int (q2), .int (q3)] S "java/lang/IndexOutOfBoundsException" (fun S' => S' = S) := by
  refine mth_of hst (by decide) (Nat.le_of_ble_eq_true rfl) ?_
  intro x hl hR hmL C X
  have hst' : x.1.2.1.stackTraces = false := by rw [hl]; exact hst
  show GG x 106 0 0 [.ref 0, .int (p), .int (q1), .int (q2), .int (q3)] [] S 0
  refine g_aload_n C dX11_setTarget_0 rfl ?_
  refine g_iload_n C dX11_setTarget_1 rfl ?_
  refine g_iload_n C dX11_setTarget_2 rfl ?_
  exact g_thrV C X (As := [.int (p), .int (q1)]) (t_checkState_r hst' h) vo_X11_98 dX11_setTarget_3 rfl rfl (by decide) rfl (rm_ok (M' := MX11_setTarget.th) hR (by decide)) (Nat.le_of_ble_eq_true rfl) (fun _ h => h)

set_option maxRecDepth 100000 in
theorem t_setTarget_s {l : Launch} (hst : l.stackTraces = false) {S : pv_M} {j n F : Nat} {T : Nat → Nat} (hS : GS S) (hj : j < 3) (hA : RegAt S j n T F) {p q2 q3 : Int32} (h : badI p n) : mth l MX11_setTarget.th 106 [.ref 0, .int (nI (j)), .int (p), .int (q2), .int (q3)] S "java/lang/IndexOutOfBoundsException" (fun S' => S' = S) := by
  refine mth_of hst (by decide) (Nat.le_of_ble_eq_true rfl) ?_
  intro x hl hR hmL C X
  have hst' : x.1.2.1.stackTraces = false := by rw [hl]; exact hst
  show GG x 106 0 0 [.ref 0, .int (nI (j)), .int (p), .int (q2), .int (q3)] [] S 0
  refine g_aload_n C dX11_setTarget_0 rfl ?_
  refine g_iload_n C dX11_setTarget_1 rfl ?_
  refine g_iload_n C dX11_setTarget_2 rfl ?_
  exact g_thrV C X (As := [.int (nI (j)), .int (p)]) (t_checkState_s hst' hS hj hA h) vo_X11_98 dX11_setTarget_3 rfl rfl (by decide) rfl (rm_ok (M' := MX11_setTarget.th) hR (by decide)) (Nat.le_of_ble_eq_true rfl) (fun _ h => h)

set_option maxRecDepth 100000 in
theorem t_setTarget_l {l : Launch} (hst : l.stackTraces = false) {S : pv_M} {j n F : Nat} {T : Nat → Nat} (hS : GS S) (hj : j < 3) (hA : RegAt S j n T F) {s : Nat} (h1 : s < n) {p q3 : Int32} (h : badI p 3) : mth l MX11_setTarget.th 106 [.ref 0, .int (nI (j)), .int (nI (s)), .int (p), .int (q3)] S "java/lang/IndexOutOfBoundsException" (fun S' => S' = S) := by
  refine mth_of hst (by decide) (Nat.le_of_ble_eq_true rfl) ?_
  intro x hl hR hmL C X
  have hst' : x.1.2.1.stackTraces = false := by rw [hl]; exact hst
  show GG x 106 0 0 [.ref 0, .int (nI (j)), .int (nI (s)), .int (p), .int (q3)] [] S 0
  refine g_aload_n C dX11_setTarget_0 rfl ?_
  refine g_iload_n C dX11_setTarget_1 rfl ?_
  refine g_iload_n C dX11_setTarget_2 rfl ?_
  refine g_callV C (As := [.int (nI (j)), .int (nI (s))]) (k_checkState _ hS hj hA h1) vo_X11_98 dX11_setTarget_3 rfl rfl (by decide) rfl (rm_ok (M' := MX11_setTarget.th) hR (by decide)) (Nat.le_of_ble_eq_true rfl) (fun v9 S9 h9 => ?_)
  obtain ⟨rfl, h9⟩ := h9
  refine g_S S h9 ?_
  refine g_n0 [] rfl rfl rfl ?_
  refine g_iload_n C dX11_setTarget_6 rfl ?_
  exact g_thrS C X (t_checkLetter hst' h) so_X11_102 dX11_setTarget_7 rfl rfl (rm_ok (M' := MX11_setTarget.th) hR (by decide)) (Nat.le_of_ble_eq_true rfl) (fun _ h => h)

set_option maxRecDepth 100000 in
theorem t_setTarget_t {l : Launch} (hst : l.stackTraces = false) {S : pv_M} {j n F : Nat} {T : Nat → Nat} (hS : GS S) (hj : j < 3) (hA : RegAt S j n T F) {s q : Nat} (h1 : s < n) (h2 : q < 3) {p : Int32} (h : badI p n) : mth l MX11_setTarget.th 106 [.ref 0, .int (nI (j)), .int (nI (s)), .int (nI (q)), .int (p)] S "java/lang/IndexOutOfBoundsException" (fun S' => S' = S) := by
  refine mth_of hst (by decide) (Nat.le_of_ble_eq_true rfl) ?_
  intro x hl hR hmL C X
  have hst' : x.1.2.1.stackTraces = false := by rw [hl]; exact hst
  show GG x 106 0 0 [.ref 0, .int (nI (j)), .int (nI (s)), .int (nI (q)), .int (p)] [] S 0
  refine g_aload_n C dX11_setTarget_0 rfl ?_
  refine g_iload_n C dX11_setTarget_1 rfl ?_
  refine g_iload_n C dX11_setTarget_2 rfl ?_
  refine g_callV C (As := [.int (nI (j)), .int (nI (s))]) (k_checkState _ hS hj hA h1) vo_X11_98 dX11_setTarget_3 rfl rfl (by decide) rfl (rm_ok (M' := MX11_setTarget.th) hR (by decide)) (Nat.le_of_ble_eq_true rfl) (fun v9 S9 h9 => ?_)
  obtain ⟨rfl, h9⟩ := h9
  refine g_S S h9 ?_
  refine g_n0 [] rfl rfl rfl ?_
  refine g_iload_n C dX11_setTarget_6 rfl ?_
  refine g_callS C (k_checkLetter _ h2) so_X11_102 dX11_setTarget_7 rfl rfl (rm_ok (M' := MX11_setTarget.th) hR (by decide)) (Nat.le_of_ble_eq_true rfl) (fun v9 S9 h9 => ?_)
  obtain ⟨rfl, h9⟩ := h9
  refine g_S S h9 ?_
  refine g_n0 [] rfl rfl rfl ?_
  refine g_aload_n C dX11_setTarget_10 rfl ?_
  refine g_iload_n C dX11_setTarget_11 rfl ?_
  refine g_iload C dX11_setTarget_12 rfl ?_
  exact g_thrV C X (As := [.int (nI (j)), .int (p)]) (t_checkState_s hst' hS hj hA h) vo_X11_98 dX11_setTarget_14 rfl rfl (by decide) rfl (rm_ok (M' := MX11_setTarget.th) hR (by decide)) (Nat.le_of_ble_eq_true rfl) (fun _ h => h)

set_option maxRecDepth 100000 in
theorem c_stateCount (l : Launch) {S : pv_M} {j n F : Nat} {T : Nat → Nat} (hS : GS S) (hj : j < 3) (hA : RegAt S j n T F) : mt l MX11_stateCount 106 [.ref 0, .int (nI (j))] S (fun v S' => v = some (.int (nI n)) ∧ S' = S) := by
  refine mt_of (by decide) (Nat.le_of_ble_eq_true rfl) ?_
  intro x hl hR hmL C E
  show GG x 106 0 0 [.ref 0, .int (nI (j))] [] S 0
  refine g_iload_n C dX11_stateCount_0 rfl ?_
  refine g_callS C (k_checkRegister _ hj) so_X11_88 dX11_stateCount_1 rfl rfl (rm_ok (M' := MX11_stateCount) hR (by decide)) (Nat.le_of_ble_eq_true rfl) (fun v9 S9 h9 => ?_)
  obtain ⟨rfl, h9⟩ := h9
  refine g_S S h9 ?_
  refine g_n0 [] rfl rfl rfl ?_
  refine g_aload_n C dX11_stateCount_4 rfl ?_
  refine g_getR C fo_X11_11 dX11_stateCount_5 rfl (by decide) (fun _ => rfl) (gs_0_0 hS) ?_
  refine g_iload_n C dX11_stateCount_8 rfl ?_
  refine g_aald C dX11_stateCount_9 rfl (Or.inl rfl) (by decide) (by omega) rfl (hS.reg hj) ?_
  refine g_getI C fo_X11_117 dX11_stateCount_10 hA.1.1 hA.1.2.1 (fun _ => rfl) hA.1.2.2.2.2.2.1 ?_
  exact g_iret C E dX11_stateCount_13 (by rw [hR]; decide) (by rw [hR]; decide) ⟨rfl, rfl⟩

set_option maxRecDepth 100000 in
theorem t_stateCount_r {l : Launch} (hst : l.stackTraces = false) {S : pv_M} {p : Int32} (h : badI p 3) : mth l MX11_stateCount.th 106 [.ref 0, .int (p)] S "java/lang/IndexOutOfBoundsException" (fun S' => S' = S) := by
  refine mth_of hst (by decide) (Nat.le_of_ble_eq_true rfl) ?_
  intro x hl hR hmL C X
  have hst' : x.1.2.1.stackTraces = false := by rw [hl]; exact hst
  show GG x 106 0 0 [.ref 0, .int (p)] [] S 0
  refine g_iload_n C dX11_stateCount_0 rfl ?_
  exact g_thrS C X (t_checkRegister hst' h) so_X11_88 dX11_stateCount_1 rfl rfl (rm_ok (M' := MX11_stateCount.th) hR (by decide)) (Nat.le_of_ble_eq_true rfl) (fun _ h => h)
