set_option maxRecDepth 100000 in
theorem c_setFinal (l : Launch) {S : pv_M} {j n F : Nat} {T : Nat → Nat} (hS : GS S) (hj : j < 3) (hA : RegAt S j n T F) {s : Nat} {c : Bool} (h1 : s < n) : mt l MX11_setFinal 106 [.ref 0, .int (nI (j)), .int (nI (s)), .int (bI (c))] S (fun v S' => v = some (.int (bI (F.testBit s))) ∧ RegAt S' j n T (fset F s c) ∧ FN (two (53 + 4 * j) (54 + 4 * j)) S S') := by
  refine mt_of (by decide) (Nat.le_of_ble_eq_true rfl) ?_
  intro x hl hR hmL C E
  show GG x 106 0 0 [.ref 0, .int (nI (j)), .int (nI (s)), .int (bI (c)), unk] [] S 0
  have hn6 := hA.2.2.1
  refine g_aload_n C dX11_setFinal_0 rfl ?_
  refine g_iload_n C dX11_setFinal_1 rfl ?_
  refine g_iload_n C dX11_setFinal_2 rfl ?_
  refine g_callV C (As := [.int (nI (j)), .int (nI (s))]) (k_checkState _ hS hj hA h1) vo_X11_98 dX11_setFinal_3 rfl rfl (by decide) rfl (rm_ok (M' := MX11_setFinal) hR (by decide)) (Nat.le_of_ble_eq_true rfl) (fun v9 S9 h9 => ?_)
  obtain ⟨rfl, h9⟩ := h9
  refine g_S S h9 ?_
  refine g_n0 [] rfl rfl rfl ?_
  refine g_aload_n C dX11_setFinal_6 rfl ?_
  refine g_getR C fo_X11_11 dX11_setFinal_7 rfl (by decide) (fun _ => rfl) (gs_0_0 hS) ?_
  refine g_iload_n C dX11_setFinal_10 rfl ?_
  refine g_aald C dX11_setFinal_11 rfl (Or.inl rfl) (by decide) (by omega) rfl (hS.reg hj) ?_
  refine g_iload_n C dX11_setFinal_12 rfl ?_
  refine g_callV C (As := [.int (nI (s))]) (c_X1_isAccepting _ hA.1 hA.2.2.2.2 (by omega)) vo_X11_109 dX11_setFinal_13 rfl hA.1.1 hA.1.2.1 rfl (rm_ok (M' := MX11_setFinal) hR (by decide)) (Nat.le_of_ble_eq_true rfl) (fun v9 S9 h9 => ?_)
  obtain ⟨rfl, h9⟩ := h9
  refine g_S S h9 ?_
  refine g_n0 [.int (bI (F.testBit s))] rfl rfl rfl ?_
  refine g_istore C (by rw [hmL]; decide) dX11_setFinal_16 [.ref 0, .int (nI (j)), .int (nI (s)), .int (bI (c)), .int (bI (F.testBit s))] rfl ?_
  refine g_aload_n C dX11_setFinal_18 rfl ?_
  refine g_getR C fo_X11_11 dX11_setFinal_19 rfl (by decide) (fun _ => rfl) (gs_0_0 hS) ?_
  refine g_iload_n C dX11_setFinal_22 rfl ?_
  refine g_aald C dX11_setFinal_23 rfl (Or.inl rfl) (by decide) (by omega) rfl (hS.reg hj) ?_
  refine g_iload_n C dX11_setFinal_24 rfl ?_
  refine g_iload_n C dX11_setFinal_25 rfl ?_
  refine g_callV C (As := [.int (nI (s)), .int (bI (c))]) (c_X1_mark _ hA.1 hA.2.2.2.2 (by omega)) vo_X11_113 dX11_setFinal_26 rfl hA.1.1 hA.1.2.1 rfl (rm_ok (M' := MX11_setFinal) hR (by decide)) (Nat.le_of_ble_eq_true rfl) (fun v9 S9 h9 => ?_)
  obtain ⟨rfl, g1, g2⟩ := h9
  refine g_n0 [] rfl rfl rfl ?_
  refine g_iload C dX11_setFinal_29 rfl ?_
  exact g_zret C E dX11_setFinal_31 (bI_01 _) (by rw [hR]; decide) (by rw [hR]; decide) ⟨rfl, ⟨g1, hA.2.1, hA.2.2.1, hA.2.2.2.1, (fset_ok F hA.2.2.2.2 s (by omega) c).1⟩, g2⟩

set_option maxRecDepth 100000 in
theorem t_setFinal_r {l : Launch} (hst : l.stackTraces = false) {S : pv_M} {p : Int32} (h : badI p 3) {q : Int32} {c : Bool} : mth l MX11_setFinal.th 106 [.ref 0, .int (p), .int (q), .int (bI (c))] S "java/lang/IndexOutOfBoundsException" (fun S' => S' = S) := by
  refine mth_of hst (by decide) (Nat.le_of_ble_eq_true rfl) ?_
  intro x hl hR hmL C X
  have hst' : x.1.2.1.stackTraces = false := by rw [hl]; exact hst
  show GG x 106 0 0 [.ref 0, .int (p), .int (q), .int (bI (c)), unk] [] S 0
  refine g_aload_n C dX11_setFinal_0 rfl ?_
  refine g_iload_n C dX11_setFinal_1 rfl ?_
  refine g_iload_n C dX11_setFinal_2 rfl ?_
  exact g_thrV C X (As := [.int (p), .int (q)]) (t_checkState_r hst' h) vo_X11_98 dX11_setFinal_3 rfl rfl (by decide) rfl (rm_ok (M' := MX11_setFinal.th) hR (by decide)) (Nat.le_of_ble_eq_true rfl) (fun _ h => h)

set_option maxRecDepth 100000 in
theorem t_setFinal_s {l : Launch} (hst : l.stackTraces = false) {S : pv_M} {j n F : Nat} {T : Nat → Nat} (hS : GS S) (hj : j < 3) (hA : RegAt S j n T F) {p : Int32} {c : Bool} (h : badI p n) : mth l MX11_setFinal.th 106 [.ref 0, .int (nI (j)), .int (p), .int (bI (c))] S "java/lang/IndexOutOfBoundsException" (fun S' => S' = S) := by
  refine mth_of hst (by decide) (Nat.le_of_ble_eq_true rfl) ?_
  intro x hl hR hmL C X
  have hst' : x.1.2.1.stackTraces = false := by rw [hl]; exact hst
  show GG x 106 0 0 [.ref 0, .int (nI (j)), .int (p), .int (bI (c)), unk] [] S 0
  refine g_aload_n C dX11_setFinal_0 rfl ?_
  refine g_iload_n C dX11_setFinal_1 rfl ?_
  refine g_iload_n C dX11_setFinal_2 rfl ?_
  exact g_thrV C X (As := [.int (nI (j)), .int (p)]) (t_checkState_s hst' hS hj hA h) vo_X11_98 dX11_setFinal_3 rfl rfl (by decide) rfl (rm_ok (M' := MX11_setFinal.th) hR (by decide)) (Nat.le_of_ble_eq_true rfl) (fun _ h => h)

set_option maxRecDepth 100000 in
theorem c_isFinal (l : Launch) {S : pv_M} {j n F : Nat} {T : Nat → Nat} (hS : GS S) (hj : j < 3) (hA : RegAt S j n T F) {s : Nat} (h1 : s < n) : mt l MX11_isFinal 106 [.ref 0, .int (nI (j)), .int (nI (s))] S (fun v S' => v = some (.int (bI (F.testBit s))) ∧ S' = S) := by
  refine mt_of (by decide) (Nat.le_of_ble_eq_true rfl) ?_
  intro x hl hR hmL C E
  show GG x 106 0 0 [.ref 0, .int (nI (j)), .int (nI (s))] [] S 0
  have hn6 := hA.2.2.1
  refine g_aload_n C dX11_isFinal_0 rfl ?_
  refine g_iload_n C dX11_isFinal_1 rfl ?_
  refine g_iload_n C dX11_isFinal_2 rfl ?_
  refine g_callV C (As := [.int (nI (j)), .int (nI (s))]) (k_checkState _ hS hj hA h1) vo_X11_98 dX11_isFinal_3 rfl rfl (by decide) rfl (rm_ok (M' := MX11_isFinal) hR (by decide)) (Nat.le_of_ble_eq_true rfl) (fun v9 S9 h9 => ?_)
  obtain ⟨rfl, h9⟩ := h9
  refine g_S S h9 ?_
  refine g_n0 [] rfl rfl rfl ?_
  refine g_aload_n C dX11_isFinal_6 rfl ?_
  refine g_getR C fo_X11_11 dX11_isFinal_7 rfl (by decide) (fun _ => rfl) (gs_0_0 hS) ?_
  refine g_iload_n C dX11_isFinal_10 rfl ?_
  refine g_aald C dX11_isFinal_11 rfl (Or.inl rfl) (by decide) (by omega) rfl (hS.reg hj) ?_
  refine g_iload_n C dX11_isFinal_12 rfl ?_
  refine g_callV C (As := [.int (nI (s))]) (c_X1_isAccepting _ hA.1 hA.2.2.2.2 (by omega)) vo_X11_109 dX11_isFinal_13 rfl hA.1.1 hA.1.2.1 rfl (rm_ok (M' := MX11_isFinal) hR (by decide)) (Nat.le_of_ble_eq_true rfl) (fun v9 S9 h9 => ?_)
  obtain ⟨rfl, h9⟩ := h9
  refine g_S S h9 ?_
  refine g_n0 [.int (bI (F.testBit s))] rfl rfl rfl ?_
  exact g_zret C E dX11_isFinal_16 (bI_01 _) (by rw [hR]; decide) (by rw [hR]; decide) ⟨rfl, rfl⟩

set_option maxRecDepth 100000 in
theorem t_isFinal_r {l : Launch} (hst : l.stackTraces = false) {S : pv_M} {p : Int32} (h : badI p 3) {q : Int32} : mth l MX11_isFinal.th 106 [.ref 0, .int (p), .int (q)] S "java/lang/IndexOutOfBoundsException" (fun S' => S' = S) := by
  refine mth_of hst (by decide) (Nat.le_of_ble_eq_true rfl) ?_
  intro x hl hR hmL C X
  have hst' : x.1.2.1.stackTraces = false := by rw [hl]; exact hst
  show GG x 106 0 0 [.ref 0, .int (p), .int (q)] [] S 0
  refine g_aload_n C dX11_isFinal_0 rfl ?_
  refine g_iload_n C dX11_isFinal_1 rfl ?_
  refine g_iload_n C dX11_isFinal_2 rfl ?_
  exact g_thrV C X (As := [.int (p), .int (q)]) (t_checkState_r hst' h) vo_X11_98 dX11_isFinal_3 rfl rfl (by decide) rfl (rm_ok (M' := MX11_isFinal.th) hR (by decide)) (Nat.le_of_ble_eq_true rfl) (fun _ h => h)

set_option maxRecDepth 100000 in
theorem t_isFinal_s {l : Launch} (hst : l.stackTraces = false) {S : pv_M} {j n F : Nat} {T : Nat → Nat} (hS : GS S) (hj : j < 3) (hA : RegAt S j n T F) {p : Int32} (h : badI p n) : mth l MX11_isFinal.th 106 [.ref 0, .int (nI (j)), .int (p)] S "java/lang/IndexOutOfBoundsException" (fun S' => S' = S) := by
  refine mth_of hst (by decide) (Nat.le_of_ble_eq_true rfl) ?_
  intro x hl hR hmL C X
  have hst' : x.1.2.1.stackTraces = false := by rw [hl]; exact hst
  show GG x 106 0 0 [.ref 0, .int (nI (j)), .int (p)] [] S 0
  refine g_aload_n C dX11_isFinal_0 rfl ?_
  refine g_iload_n C dX11_isFinal_1 rfl ?_
  refine g_iload_n C dX11_isFinal_2 rfl ?_
  exact g_thrV C X (As := [.int (nI (j)), .int (p)]) (t_checkState_s hst' hS hj hA h) vo_X11_98 dX11_isFinal_3 rfl rfl (by decide) rfl (rm_ok (M' := MX11_isFinal.th) hR (by decide)) (Nat.le_of_ble_eq_true rfl) (fun _ h => h)

set_option maxRecDepth 100000 in
theorem c_target (l : Launch) {S : pv_M} {j n F : Nat} {T : Nat → Nat} (hS : GS S) (hj : j < 3) (hA : RegAt S j n T F) {s q : Nat} (h1 : s < n) (h2 : q < 3) : mt l MX11_target 106 [.ref 0, .int (nI (j)), .int (nI (s)), .int (nI (q))] S (fun v S' => v = some (.int (nI (T (s * 3 + q)))) ∧ S' = S) := by
  refine mt_of (by decide) (Nat.le_of_ble_eq_true rfl) ?_
  intro x hl hR hmL C E
  show GG x 106 0 0 [.ref 0, .int (nI (j)), .int (nI (s)), .int (nI (q))] [] S 0
  have hn6 := hA.2.2.1
  refine g_aload_n C dX11_target_0 rfl ?_
  refine g_iload_n C dX11_target_1 rfl ?_
  refine g_iload_n C dX11_target_2 rfl ?_
  refine g_callV C (As := [.int (nI (j)), .int (nI (s))]) (k_checkState _ hS hj hA h1) vo_X11_98 dX11_target_3 rfl rfl (by decide) rfl (rm_ok (M' := MX11_target) hR (by decide)) (Nat.le_of_ble_eq_true rfl) (fun v9 S9 h9 => ?_)
  obtain ⟨rfl, h9⟩ := h9
  refine g_S S h9 ?_
  refine g_n0 [] rfl rfl rfl ?_
  refine g_iload_n C dX11_target_6 rfl ?_
  refine g_callS C (k_checkLetter _ h2) so_X11_102 dX11_target_7 rfl rfl (rm_ok (M' := MX11_target) hR (by decide)) (Nat.le_of_ble_eq_true rfl) (fun v9 S9 h9 => ?_)
  obtain ⟨rfl, h9⟩ := h9
  refine g_S S h9 ?_
  refine g_n0 [] rfl rfl rfl ?_
  refine g_aload_n C dX11_target_10 rfl ?_
  refine g_getR C fo_X11_11 dX11_target_11 rfl (by decide) (fun _ => rfl) (gs_0_0 hS) ?_
  refine g_iload_n C dX11_target_14 rfl ?_
  refine g_aald C dX11_target_15 rfl (Or.inl rfl) (by decide) (by omega) rfl (hS.reg hj) ?_
  refine g_iload_n C dX11_target_16 rfl ?_
  refine g_iload_n C dX11_target_17 rfl ?_
  refine g_callV C (As := [.int (nI (s)), .int (nI (q))]) (c_X1_follow _ hA.1 (by omega)) vo_X11_121 dX11_target_18 rfl hA.1.1 hA.1.2.1 rfl (rm_ok (M' := MX11_target) hR (by decide)) (Nat.le_of_ble_eq_true rfl) (fun v9 S9 h9 => ?_)
  obtain ⟨rfl, h9⟩ := h9
  refine g_S S h9 ?_
  refine g_n0 [.int (nI (T (s * 3 + q)))] rfl rfl rfl ?_
  exact g_iret C E dX11_target_21 (by rw [hR]; decide) (by rw [hR]; decide) ⟨rfl, rfl⟩

set_option maxRecDepth 100000 in
theorem t_target_r {l : Launch} (hst : l.stackTraces = false) {S : pv_M} {p : Int32} (h : badI p 3) {q1 q2 : Int32} : mth l MX11_target.th 106 [.ref 0, .int (p), .int (q1), .int (q2)] S "java/lang/IndexOutOfBoundsException" (fun S' => S' = S) := by
  refine mth_of hst (by decide) (Nat.le_of_ble_eq_true rfl) ?_
  intro x hl hR hmL C X
  have hst' : x.1.2.1.stackTraces = false := by rw [hl]; exact hst
  show GG x 106 0 0 [.ref 0, .int (p), .int (q1), .int (q2)] [] S 0
  refine g_aload_n C dX11_target_0 rfl ?_
  refine g_iload_n C dX11_target_1 rfl ?_
  refine g_iload_n C dX11_target_2 rfl ?_
  exact g_thrV C X (As := [.int (p), .int (q1)]) (t_checkState_r hst' h) vo_X11_98 dX11_target_3 rfl rfl (by decide) rfl (rm_ok (M' := MX11_target.th) hR (by decide)) (Nat.le_of_ble_eq_true rfl) (fun _ h => h)

set_option maxRecDepth 100000 in
theorem t_target_s {l : Launch} (hst : l.stackTraces = false) {S : pv_M} {j n F : Nat} {T : Nat → Nat} (hS : GS S) (hj : j < 3) (hA : RegAt S j n T F) {p q2 : Int32} (h : badI p n) : mth l MX11_target.th 106 [.ref 0, .int (nI (j)), .int (p), .int (q2)] S "java/lang/IndexOutOfBoundsException" (fun S' => S' = S) := by
  refine mth_of hst (by decide) (Nat.le_of_ble_eq_true rfl) ?_
  intro x hl hR hmL C X
  have hst' : x.1.2.1.stackTraces = false := by rw [hl]; exact hst
  show GG x 106 0 0 [.ref 0, .int (nI (j)), .int (p), .int (q2)] [] S 0
  refine g_aload_n C dX11_target_0 rfl ?_
  refine g_iload_n C dX11_target_1 rfl ?_
  refine g_iload_n C dX11_target_2 rfl ?_
  exact g_thrV C X (As := [.int (nI (j)), .int (p)]) (t_checkState_s hst' hS hj hA h) vo_X11_98 dX11_target_3 rfl rfl (by decide) rfl (rm_ok (M' := MX11_target.th) hR (by decide)) (Nat.le_of_ble_eq_true rfl) (fun _ h => h)

set_option maxRecDepth 100000 in
theorem t_target_l {l : Launch} (hst : l.stackTraces = false) {S : pv_M} {j n F : Nat} {T : Nat → Nat} (hS : GS S) (hj : j < 3) (hA : RegAt S j n T F) {s : Nat} (h1 : s < n) {p : Int32} (h : badI p 3) : mth l MX11_target.th 106 [.ref 0, .int (nI (j)), .int (nI (s)), .int (p)] S "java/lang/IndexOutOfBoundsException" (fun S' => S' = S) := by
  refine mth_of hst (by decide) (Nat.le_of_ble_eq_true rfl) ?_
  intro x hl hR hmL C X
  have hst' : x.1.2.1.stackTraces = false := by rw [hl]; exact hst
  show GG x 106 0 0 [.ref 0, .int (nI (j)), .int (nI (s)), .int (p)] [] S 0
  refine g_aload_n C dX11_target_0 rfl ?_
  refine g_iload_n C dX11_target_1 rfl ?_
  refine g_iload_n C dX11_target_2 rfl ?_
  refine g_callV C (As := [.int (nI (j)), .int (nI (s))]) (k_checkState _ hS hj hA h1) vo_X11_98 dX11_target_3 rfl rfl (by decide) rfl (rm_ok (M' := MX11_target.th) hR (by decide)) (Nat.le_of_ble_eq_true rfl) (fun v9 S9 h9 => ?_)
  obtain ⟨rfl, h9⟩ := h9
  refine g_S S h9 ?_
  refine g_n0 [] rfl rfl rfl ?_
  refine g_iload_n C dX11_target_6 rfl ?_
  exact g_thrS C X (t_checkLetter hst' h) so_X11_102 dX11_target_7 rfl rfl (rm_ok (M' := MX11_target.th) hR (by decide)) (Nat.le_of_ble_eq_true rfl) (fun _ h => h)

set_option maxRecDepth 100000 in
theorem c_randomize (l : Launch) {S : pv_M} {j n F : Nat} {T : Nat → Nat} (hS : GS S) (hj : j < 3) (hA : RegAt S j n T F) {seed : Int32} : mt l MX11_randomize 106 [.ref 0, .int (nI (j)), .int (seed)] S (fun v S' => v = none ∧ FN (two (53 + 4 * j) (54 + 4 * j)) S S' ∧ ∃ T' F', RegAt S' j n T' F' ∧ (∀ i, i < 18 → T' i = if i < n * 3 then dv seed i n else T i) ∧ ∀ i, i < 6 → F'.testBit i = if i < n then decide (dv seed (n * 3 + i) 2 = 1) else F.testBit i) := by
  refine mt_of (by decide) (Nat.le_of_ble_eq_true rfl) ?_
  intro x hl hR hmL C E
  show GG x 106 0 0 [.ref 0, .int (nI (j)), .int (seed)] [] S 0
  have hn6 := hA.2.2.1
  refine g_iload_n C dX11_randomize_0 rfl ?_
  refine g_callS C (k_checkRegister _ hj) so_X11_88 dX11_randomize_1 rfl rfl (rm_ok (M' := MX11_randomize) hR (by decide)) (Nat.le_of_ble_eq_true rfl) (fun v9 S9 h9 => ?_)
  obtain ⟨rfl, h9⟩ := h9
  refine g_S S h9 ?_
  refine g_n0 [] rfl rfl rfl ?_
  refine g_aload_n C dX11_randomize_4 rfl ?_
  refine g_getR C fo_X11_11 dX11_randomize_5 rfl (by decide) (fun _ => rfl) (gs_0_0 hS) ?_
  refine g_iload_n C dX11_randomize_8 rfl ?_
  refine g_aald C dX11_randomize_9 rfl (Or.inl rfl) (by decide) (by omega) rfl (hS.reg hj) ?_
  refine g_iload_n C dX11_randomize_10 rfl ?_
  refine g_callV C (As := [.int (seed)]) (c_X1_drawAll _ hA.1 hA.2.1 hA.2.2.1 hA.2.2.2.2) vo_X11_125 dX11_randomize_11 rfl hA.1.1 hA.1.2.1 rfl (rm_ok (M' := MX11_randomize) hR (by decide)) (Nat.le_of_ble_eq_true rfl) (fun v9 S9 h9 => ?_)
  obtain ⟨rfl, g1, T2, F2, g2, g3, g4, g5⟩ := h9
  refine g_n0 [] rfl rfl rfl ?_
  exact g_vret C E dX11_randomize_14 (by rw [hR]; decide) (by rw [hR]; decide) ⟨rfl, g1, T2, F2, ⟨g2, hA.2.1, hA.2.2.1, fun i hi => by rw [g3 i (by omega), if_pos hi]; exact dv_lt hA.2.1, g4⟩, g3, g5⟩

set_option maxRecDepth 100000 in
theorem t_randomize_r {l : Launch} (hst : l.stackTraces = false) {S : pv_M} {p : Int32} (h : badI p 3) {q : Int32} : mth l MX11_randomize.th 106 [.ref 0, .int (p), .int (q)] S "java/lang/IndexOutOfBoundsException" (fun S' => S' = S) := by
  refine mth_of hst (by decide) (Nat.le_of_ble_eq_true rfl) ?_
  intro x hl hR hmL C X
  have hst' : x.1.2.1.stackTraces = false := by rw [hl]; exact hst
  show GG x 106 0 0 [.ref 0, .int (p), .int (q)] [] S 0
  refine g_iload_n C dX11_randomize_0 rfl ?_
  exact g_thrS C X (t_checkRegister hst' h) so_X11_88 dX11_randomize_1 rfl rfl (rm_ok (M' := MX11_randomize.th) hR (by decide)) (Nat.le_of_ble_eq_true rfl) (fun _ h => h)

/-- the current word: cells 3 and 4 -/
def WdAt (S : pv_M) (m : Nat) (L : Nat → Nat) : Prop := WordAt S 3 4 m L ∧ ∀ j, L j < 3

set_option maxRecDepth 100000 in
theorem c_appendLetter (l : Launch) {S : pv_M} {m : Nat} {L : Nat → Nat} (hS : GS S) (hW : WdAt S m L) {q : Nat} (h1 : q < 3) (h2 : m < 12) : mt l MX11_appendLetter 106 [.ref 0, .int (nI (q))] S (fun v S' => v = some (.int (nI (m + 1))) ∧ WdAt S' (m + 1) (va_up L m q) ∧ FN (two 3 4) S S') := by
  refine mt_of (by decide) (Nat.le_of_ble_eq_true rfl) ?_
  intro x hl hR hmL C E
  show GG x 106 0 0 [.ref 0, .int (nI (q))] [] S 0
  have hm12 := hW.1.2.2.2.2.2.2.1
  refine g_iload_n C dX11_appendLetter_0 rfl ?_
  refine g_callS C (k_checkLetter _ h1) so_X11_102 dX11_appendLetter_1 rfl rfl (rm_ok (M' := MX11_appendLetter) hR (by decide)) (Nat.le_of_ble_eq_true rfl) (fun v9 S9 h9 => ?_)
  obtain ⟨rfl, h9⟩ := h9
  refine g_S S h9 ?_
  refine g_n0 [] rfl rfl rfl ?_
  refine g_aload_n C dX11_appendLetter_4 rfl ?_
  refine g_getR C fo_X11_21 dX11_appendLetter_5 rfl (by decide) (fun _ => rfl) (gs_0_2 hS) ?_
  refine g_getI C fo_X11_131 dX11_appendLetter_8 rfl (by decide) (fun _ => rfl) hW.1.2.2.2.2.2.1 ?_
  refine n_iconst C 1 dX11_appendLetter_11 ?_
  refine n_iadd C dX11_appendLetter_12 ?_
  refine g_callS C (k_checkWordLength _ (by omega)) so_X11_134 dX11_appendLetter_13 rfl rfl (rm_ok (M' := MX11_appendLetter) hR (by decide)) (Nat.le_of_ble_eq_true rfl) (fun v9 S9 h9 => ?_)
  obtain ⟨rfl, h9⟩ := h9
  refine g_S S h9 ?_
  refine g_n0 [] rfl rfl rfl ?_
  refine g_aload_n C dX11_appendLetter_16 rfl ?_
  refine g_getR C fo_X11_21 dX11_appendLetter_17 rfl (by decide) (fun _ => rfl) (gs_0_2 hS) ?_
  refine g_iload_n C dX11_appendLetter_20 rfl ?_
  refine g_callV C (As := [.int (nI (q))]) (c_X10_add _ hW.1 h2) vo_X11_137 dX11_appendLetter_21 rfl rfl (by decide) rfl (rm_ok (M' := MX11_appendLetter) hR (by decide)) (Nat.le_of_ble_eq_true rfl) (fun v9 S9 h9 => ?_)
  obtain ⟨rfl, g1, g2⟩ := h9
  refine g_n0 [] rfl rfl rfl ?_
  refine g_aload_n C dX11_appendLetter_24 rfl ?_
  refine g_getR C fo_X11_21 dX11_appendLetter_25 rfl (by decide) (fun _ => rfl) (gs_0_2 (hS.fn g2)) ?_
  refine g_getI C fo_X11_131 dX11_appendLetter_28 rfl (by decide) (fun _ => rfl) g1.2.2.2.2.2.1 ?_
  exact g_iret C E dX11_appendLetter_31 (by rw [hR]; decide) (by rw [hR]; decide) ⟨rfl, ⟨g1, fun j => by
    by_cases e : j = m
    · rw [e, up_same]; exact h1
    · rw [va_up_ne _ _ e]; exact hW.2 j⟩, g2⟩

set_option maxRecDepth 100000 in
theorem t_appendLetter_l {l : Launch} (hst : l.stackTraces = false) {S : pv_M} {p : Int32} (h : badI p 3) : mth l MX11_appendLetter.th 106 [.ref 0, .int (p)] S "java/lang/IndexOutOfBoundsException" (fun S' => S' = S) := by
  refine mth_of hst (by decide) (Nat.le_of_ble_eq_true rfl) ?_
  intro x hl hR hmL C X
  have hst' : x.1.2.1.stackTraces = false := by rw [hl]; exact hst
  show GG x 106 0 0 [.ref 0, .int (p)] [] S 0
  refine g_iload_n C dX11_appendLetter_0 rfl ?_
  exact g_thrS C X (t_checkLetter hst' h) so_X11_102 dX11_appendLetter_1 rfl rfl (rm_ok (M' := MX11_appendLetter.th) hR (by decide)) (Nat.le_of_ble_eq_true rfl) (fun _ h => h)

set_option maxRecDepth 100000 in
theorem t_appendLetter_w {l : Launch} (hst : l.stackTraces = false) {S : pv_M} {m : Nat} {L : Nat → Nat} {q : Nat} (h1 : q < 3) (h2 : m = 12) (hS : GS S) (hW : WdAt S m L) : mth l MX11_appendLetter.th 106 [.ref 0, .int (nI (q))] S "java/lang/IllegalStateException" (fun S' => S' = S) := by
  refine mth_of hst (by decide) (Nat.le_of_ble_eq_true rfl) ?_
  intro x hl hR hmL C X
  have hst' : x.1.2.1.stackTraces = false := by rw [hl]; exact hst
  show GG x 106 0 0 [.ref 0, .int (nI (q))] [] S 0
  refine g_iload_n C dX11_appendLetter_0 rfl ?_
  refine g_callS C (k_checkLetter _ h1) so_X11_102 dX11_appendLetter_1 rfl rfl (rm_ok (M' := MX11_appendLetter.th) hR (by decide)) (Nat.le_of_ble_eq_true rfl) (fun v9 S9 h9 => ?_)
  obtain ⟨rfl, h9⟩ := h9
  refine g_S S h9 ?_
  refine g_n0 [] rfl rfl rfl ?_
  refine g_aload_n C dX11_appendLetter_4 rfl ?_
  refine g_getR C fo_X11_21 dX11_appendLetter_5 rfl (by decide) (fun _ => rfl) (gs_0_2 hS) ?_
  refine g_getI C fo_X11_131 dX11_appendLetter_8 rfl (by decide) (fun _ => rfl) hW.1.2.2.2.2.2.1 ?_
  refine n_iconst C 1 dX11_appendLetter_11 ?_
  refine n_iadd C dX11_appendLetter_12 ?_
  exact g_thrS C X (t_checkWordLength hst' (by omega) (by omega)) so_X11_134 dX11_appendLetter_13 rfl rfl (rm_ok (M' := MX11_appendLetter.th) hR (by decide)) (Nat.le_of_ble_eq_true rfl) (fun _ h => h)

set_option maxRecDepth 100000 in
theorem c_clearWord (l : Launch) {S : pv_M} {m : Nat} {L : Nat → Nat} (hS : GS S) (hW : WdAt S m L) : mt l MX11_clearWord 106 [.ref 0] S (fun v S' => v = some (.int (nI m)) ∧ WdAt S' 0 L ∧ FN (two 3 4) S S') := by
  refine mt_of (by decide) (Nat.le_of_ble_eq_true rfl) ?_
  intro x hl hR hmL C E
  show GG x 106 0 0 [.ref 0, unk] [] S 0
  refine g_aload_n C dX11_clearWord_0 rfl ?_
  refine g_getR C fo_X11_21 dX11_clearWord_1 rfl (by decide) (fun _ => rfl) (gs_0_2 hS) ?_
  refine g_getI C fo_X11_131 dX11_clearWord_4 rfl (by decide) (fun _ => rfl) hW.1.2.2.2.2.2.1 ?_
  refine g_istore_n C (by rw [hmL]; decide) dX11_clearWord_7 [.ref 0, .int (nI (m))] rfl ?_
  refine g_aload_n C dX11_clearWord_8 rfl ?_
  refine g_getR C fo_X11_21 dX11_clearWord_9 rfl (by decide) (fun _ => rfl) (gs_0_2 hS) ?_
  refine n_iconst C 0 dX11_clearWord_12 ?_
  refine g_putI C fo_X11_131 dX11_clearWord_13 rfl (by decide) rfl ?_
  refine g_iload_n C dX11_clearWord_16 rfl ?_
  exact g_iret C E dX11_clearWord_17 (by rw [hR]; decide) (by rw [hR]; decide) ⟨rfl, ⟨hW.1.putN (by decide), hW.2⟩, FN.wI (Or.inl rfl)⟩

set_option maxRecDepth 100000 in
theorem c_wordLetter (l : Launch) {S : pv_M} {m : Nat} {L : Nat → Nat} (hS : GS S) (hW : WdAt S m L) {q : Nat} (h1 : q < m) : mt l MX11_wordLetter 106 [.ref 0, .int (nI (q))] S (fun v S' => v = some (.int (nI (L q))) ∧ S' = S) := by
  refine mt_of (by decide) (Nat.le_of_ble_eq_true rfl) ?_
  intro x hl hR hmL C E
  show GG x 106 0 0 [.ref 0, .int (nI (q))] [] S 0
  have hm12 := hW.1.2.2.2.2.2.2.1
  refine g_iload_n C dX11_wordLetter_0 rfl ?_
  refine g_aload_n C dX11_wordLetter_1 rfl ?_
  refine g_getR C fo_X11_21 dX11_wordLetter_2 rfl (by decide) (fun _ => rfl) (gs_0_2 hS) ?_
  refine g_getI C fo_X11_131 dX11_wordLetter_5 rfl (by decide) (fun _ => rfl) hW.1.2.2.2.2.2.1 ?_
  refine g_callS C (k_checkIndex _ h1 (by omega)) so_X11_140 dX11_wordLetter_8 rfl rfl (rm_ok (M' := MX11_wordLetter) hR (by decide)) (Nat.le_of_ble_eq_true rfl) (fun v9 S9 h9 => ?_)
  obtain ⟨rfl, h9⟩ := h9
  refine g_S S h9 ?_
  refine g_n0 [] rfl rfl rfl ?_
  refine g_aload_n C dX11_wordLetter_11 rfl ?_
  refine g_getR C fo_X11_21 dX11_wordLetter_12 rfl (by decide) (fun _ => rfl) (gs_0_2 hS) ?_
  refine g_getR C fo_X11_143 dX11_wordLetter_15 rfl (by decide) (fun _ => rfl) (gs_3_1 hS) ?_
  refine g_iload_n C dX11_wordLetter_18 rfl ?_
  refine n_iald C dX11_wordLetter_19 rfl (by decide) (hW.1.2.2.2.2.2.2.2 _ (by omega)) ?_ (by omega)
  exact g_iret C E dX11_wordLetter_20 (by rw [hR]; decide) (by rw [hR]; decide) ⟨rfl, rfl⟩

set_option maxRecDepth 100000 in
theorem t_wordLetter {l : Launch} (hst : l.stackTraces = false) {S : pv_M} {m : Nat} {L : Nat → Nat} (hS : GS S) (hW : WdAt S m L) {p : Int32} (h : badI p m) : mth l MX11_wordLetter.th 106 [.ref 0, .int (p)] S "java/lang/IndexOutOfBoundsException" (fun S' => S' = S) := by
  refine mth_of hst (by decide) (Nat.le_of_ble_eq_true rfl) ?_
  intro x hl hR hmL C X
  have hst' : x.1.2.1.stackTraces = false := by rw [hl]; exact hst
  show GG x 106 0 0 [.ref 0, .int (p)] [] S 0
  refine g_iload_n C dX11_wordLetter_0 rfl ?_
  refine g_aload_n C dX11_wordLetter_1 rfl ?_
  refine g_getR C fo_X11_21 dX11_wordLetter_2 rfl (by decide) (fun _ => rfl) (gs_0_2 hS) ?_
  refine g_getI C fo_X11_131 dX11_wordLetter_5 rfl (by decide) (fun _ => rfl) hW.1.2.2.2.2.2.1 ?_
  exact g_thrS C X (t_checkIndex hst' h) so_X11_140 dX11_wordLetter_8 rfl rfl (rm_ok (M' := MX11_wordLetter.th) hR (by decide)) (Nat.le_of_ble_eq_true rfl) (fun _ h => h)

set_option maxRecDepth 100000 in
theorem c_accepts (l : Launch) {S : pv_M} {j n F : Nat} {T : Nat → Nat} (hS : GS S) (hj : j < 3) (hA : RegAt S j n T F) {m : Nat} {L : Nat → Nat} (hW : WdAt S m L) : mt l MX11_accepts 106 [.ref 0, .int (nI (j))] S (fun v S' => v = some (.int (bI (F.testBit (stA T L 0 m)))) ∧ S' = S) := by
  refine mt_of (by decide) (Nat.le_of_ble_eq_true rfl) ?_
  intro x hl hR hmL C E
  show GG x 106 0 0 [.ref 0, .int (nI (j)), unk] [] S 0
  have hn6 := hA.2.2.1
  have hst6 : ∀ k, stA T L 0 k < 6 := fun k => by have := stA_lt hA.2.1 hA.2.2.1 hA.2.2.2.1 hW.2 k; omega
  refine g_iload_n C dX11_accepts_0 rfl ?_
  refine g_callS C (k_checkRegister _ hj) so_X11_88 dX11_accepts_1 rfl rfl (rm_ok (M' := MX11_accepts) hR (by decide)) (Nat.le_of_ble_eq_true rfl) (fun v9 S9 h9 => ?_)
  obtain ⟨rfl, h9⟩ := h9
  refine g_S S h9 ?_
  refine g_n0 [] rfl rfl rfl ?_
  refine g_aload_n C dX11_accepts_4 rfl ?_
  refine g_getR C fo_X11_11 dX11_accepts_5 rfl (by decide) (fun _ => rfl) (gs_0_0 hS) ?_
  refine g_iload_n C dX11_accepts_8 rfl ?_
  refine g_aald C dX11_accepts_9 rfl (Or.inl rfl) (by decide) (by omega) rfl (hS.reg hj) ?_
  refine g_astore_n C (by rw [hmL]; decide) dX11_accepts_10 [.ref 0, .int (nI (j)), .ref (53 + 4 * j)] rfl ?_
  refine g_aload_n C dX11_accepts_11 rfl ?_
  refine g_aload_n C dX11_accepts_12 rfl ?_
  refine g_aload_n C dX11_accepts_13 rfl ?_
  refine g_getR C fo_X11_21 dX11_accepts_14 rfl (by decide) (fun _ => rfl) (gs_0_2 hS) ?_
  refine g_callV C (As := [.ref 3]) (c_X1_stateAfter _ hA.1 hW.1 hst6 (fun i _ => hW.2 i)) vo_X11_147 dX11_accepts_17 rfl hA.1.1 hA.1.2.1 rfl (rm_ok (M' := MX11_accepts) hR (by decide)) (Nat.le_of_ble_eq_true rfl) (fun v9 S9 h9 => ?_)
  obtain ⟨rfl, h9⟩ := h9
  refine g_S S h9 ?_
  refine g_n0 [.int (nI (stA T L 0 m)), .ref (53 + 4 * j)] rfl rfl rfl ?_
  refine g_callV C (As := [.int (nI (stA T L 0 m))]) (c_X1_isAccepting _ hA.1 hA.2.2.2.2 (hst6 m)) vo_X11_109 dX11_accepts_20 rfl hA.1.1 hA.1.2.1 rfl (rm_ok (M' := MX11_accepts) hR (by decide)) (Nat.le_of_ble_eq_true rfl) (fun v9 S9 h9 => ?_)
  obtain ⟨rfl, h9⟩ := h9
  refine g_S S h9 ?_
  refine g_n0 [.int (bI (F.testBit (stA T L 0 m)))] rfl rfl rfl ?_
  exact g_zret C E dX11_accepts_23 (bI_01 _) (by rw [hR]; decide) (by rw [hR]; decide) ⟨rfl, rfl⟩

set_option maxRecDepth 100000 in
theorem t_accepts_r {l : Launch} (hst : l.stackTraces = false) {S : pv_M} {p : Int32} (h : badI p 3) : mth l MX11_accepts.th 106 [.ref 0, .int (p)] S "java/lang/IndexOutOfBoundsException" (fun S' => S' = S) := by
  refine mth_of hst (by decide) (Nat.le_of_ble_eq_true rfl) ?_
  intro x hl hR hmL C X
  have hst' : x.1.2.1.stackTraces = false := by rw [hl]; exact hst
  show GG x 106 0 0 [.ref 0, .int (p), unk] [] S 0
  refine g_iload_n C dX11_accepts_0 rfl ?_
  exact g_thrS C X (t_checkRegister hst' h) so_X11_88 dX11_accepts_1 rfl rfl (rm_ok (M' := MX11_accepts.th) hR (by decide)) (Nat.le_of_ble_eq_true rfl) (fun _ h => h)

abbrev svC : Nat → Prop := fun r => r = 55 ∨ r = 56 ∨ r = 59 ∨ r = 60 ∨ r = 63 ∨ r = 64 ∨ r = 5 ∨ r = 6 ∨ r = 0
abbrev rgC : Nat → Prop := fun r => r = 53 ∨ r = 54 ∨ r = 57 ∨ r = 58 ∨ r = 61 ∨ r = 62 ∨ r = 3 ∨ r = 4

abbrev svR : Nat → Prop := fun r => r = 55 ∨ r = 56 ∨ r = 59 ∨ r = 60 ∨ r = 63 ∨ r = 64
abbrev rgR : Nat → Prop := fun r => r = 53 ∨ r = 54 ∨ r = 57 ∨ r = 58 ∨ r = 61 ∨ r = 62

set_option maxRecDepth 100000 in
theorem lp_X11_save {x : Cx} (hR : xR x = MX11_save.rm) (hmL : (xc x).maxLocals = MX11_save.nL) (C : BX x cX11_save RX11) {N FF : Nat → Nat} {TT : Nat → Nat → Nat} {S0 : pv_M} (kk : ∀ S, (∀ j, j < 3 → AutoAt S (53 + 4 * j) (54 + 4 * j) (N j) (TT j) (FF j)) → (∀ j, j < 3 → ∃ n T F, AutoAt S (55 + 4 * j) (56 + 4 * j) n T F) → (∀ j, j < 3 → AutoAt S (55 + 4 * j) (56 + 4 * j) (N j) (TT j) (FF j)) → GS S → FN svR S0 S → GG x 106 0 0 [.ref 0, .int (nI (3))] [] (S) 28) : ∀ z i (S : pv_M), i + z = 3 → (∀ j, j < 3 → AutoAt S (53 + 4 * j) (54 + 4 * j) (N j) (TT j) (FF j)) → (∀ j, j < 3 → ∃ n T F, AutoAt S (55 + 4 * j) (56 + 4 * j) n T F) → (∀ j, j < i → AutoAt S (55 + 4 * j) (56 + 4 * j) (N j) (TT j) (FF j)) → GS S → FN svR S0 S → GG x 106 0 0 [.ref 0, .int (nI (i))] [] (S) 2 := by
  intro z
  induction z with
  | zero =>
    intro i S hz h1 h2 h3 hS hf
    obtain rfl : i = 3 := by omega
    refine g_iload_n C dX11_save_2 rfl ?_
    refine n_iconst C 3 dX11_save_3 ?_
    refine n_ic_ge C 28 dX11_save_4 (fun h4 => ?_) (fun h4 => absurd h4 (by omega))
    exact kk S h1 h2 h3 hS hf
  | succ z ih =>
    intro i S hz h1 h2 h3 hS hf
    obtain ⟨n0, T0, F0_, hd⟩ := h2 i (by omega)
    have hs0 := h1 i (by omega)
    refine g_iload_n C dX11_save_2 rfl ?_
    refine n_iconst C 3 dX11_save_3 ?_
    refine n_ic_ge C 28 dX11_save_4 (fun h4 => absurd h4 (by omega)) (fun h4 => ?_)
    refine g_aload_n C dX11_save_7 rfl ?_
    refine g_getR C fo_X11_15 dX11_save_8 rfl (by decide) (fun _ => rfl) (gs_0_1 hS) ?_
    refine g_iload_n C dX11_save_11 rfl ?_
    refine g_aald C dX11_save_12 rfl (Or.inl rfl) (by decide) (by omega) rfl (hS.sreg (by omega)) ?_
    refine g_aload_n C dX11_save_13 rfl ?_
    refine g_getR C fo_X11_11 dX11_save_14 rfl (by decide) (fun _ => rfl) (gs_0_0 hS) ?_
    refine g_iload_n C dX11_save_17 rfl ?_
    refine g_aald C dX11_save_18 rfl (Or.inl rfl) (by decide) (by omega) rfl (hS.reg (by omega)) ?_
    refine g_callV C (As := [.ref (53 + 4 * i)]) (c_X1_copyFrom _ hd hs0 (by omega) (by omega)) vo_X11_218 dX11_save_19 rfl hd.1 hd.2.1 rfl (rm_ok (M' := MX11_save) hR (by decide)) (Nat.le_of_ble_eq_true rfl) (fun v9 S9 h9 => ?_)
    obtain ⟨rfl, g1, g2⟩ := h9
    refine g_n0 [] rfl rfl rfl ?_
    refine n_iinc C (by rw [hmL]; decide) dX11_save_22 rfl (n_i1 _) [.ref 0, .int (nI (i + 1))] ?_
    refine g_goto C 2 dX11_save_25 (by decide) ?_
    have q : ∀ a, a = 55 + 4 * i ∨ a = 56 + 4 * i → svR a := fun a h => by show _ ∨ _; omega
    refine ih (i + 1) S9 (by omega) (fun j hj => (h1 j hj).keep g2 (fun h => by rcases h with h | h <;> omega) (fun h => by rcases h with h | h <;> omega)) (fun j hj => ?_) (fun j hj => ?_) (hS.fn g2) (hf.tr (g2.mono (fun a h => q a h)))
    · by_cases e : j = i
      · rw [e]; exact ⟨_, _, _, g1⟩
      · obtain ⟨n1, T1, F1, h⟩ := h2 j hj
        exact ⟨n1, T1, F1, h.keep g2 (fun h => by rcases h with h | h <;> omega) (fun h => by rcases h with h | h <;> omega)⟩
    · by_cases e : j = i
      · rw [e]; exact g1
      · exact (h3 j (by omega)).keep g2 (fun h => by rcases h with h | h <;> omega) (fun h => by rcases h with h | h <;> omega)

set_option maxRecDepth 100000 in
theorem lp_X11_restore {x : Cx} (hR : xR x = MX11_restore.rm) (hmL : (xc x).maxLocals = MX11_restore.nL) (C : BX x cX11_restore RX11) {N FF : Nat → Nat} {TT : Nat → Nat → Nat} {S0 : pv_M} (kk : ∀ S, (∀ j, j < 3 → AutoAt S (55 + 4 * j) (56 + 4 * j) (N j) (TT j) (FF j)) → (∀ j, j < 3 → ∃ n T F, AutoAt S (53 + 4 * j) (54 + 4 * j) n T F) → (∀ j, j < 3 → AutoAt S (53 + 4 * j) (54 + 4 * j) (N j) (TT j) (FF j)) → GS S → FN rgR S0 S → GG x 106 0 0 [.ref 0, .int (nI (3))] [] (S) 46) : ∀ z i (S : pv_M), i + z = 3 → (∀ j, j < 3 → AutoAt S (55 + 4 * j) (56 + 4 * j) (N j) (TT j) (FF j)) → (∀ j, j < 3 → ∃ n T F, AutoAt S (53 + 4 * j) (54 + 4 * j) n T F) → (∀ j, j < i → AutoAt S (53 + 4 * j) (54 + 4 * j) (N j) (TT j) (FF j)) → GS S → FN rgR S0 S → GG x 106 0 0 [.ref 0, .int (nI (i))] [] (S) 20 := by
  intro z
  induction z with
  | zero =>
    intro i S hz h1 h2 h3 hS hf
    obtain rfl : i = 3 := by omega
    refine g_iload_n C dX11_restore_20 rfl ?_
    refine n_iconst C 3 dX11_restore_21 ?_
    refine n_ic_ge C 46 dX11_restore_22 (fun h22 => ?_) (fun h22 => absurd h22 (by omega))
    exact kk S h1 h2 h3 hS hf
  | succ z ih =>
    intro i S hz h1 h2 h3 hS hf
    obtain ⟨n0, T0, F0_, hd⟩ := h2 i (by omega)
    have hs0 := h1 i (by omega)
    refine g_iload_n C dX11_restore_20 rfl ?_
    refine n_iconst C 3 dX11_restore_21 ?_
    refine n_ic_ge C 46 dX11_restore_22 (fun h22 => absurd h22 (by omega)) (fun h22 => ?_)
    refine g_aload_n C dX11_restore_25 rfl ?_
    refine g_getR C fo_X11_11 dX11_restore_26 rfl (by decide) (fun _ => rfl) (gs_0_0 hS) ?_
    refine g_iload_n C dX11_restore_29 rfl ?_
    refine g_aald C dX11_restore_30 rfl (Or.inl rfl) (by decide) (by omega) rfl (hS.reg (by omega)) ?_
    refine g_aload_n C dX11_restore_31 rfl ?_
    refine g_getR C fo_X11_15 dX11_restore_32 rfl (by decide) (fun _ => rfl) (gs_0_1 hS) ?_
    refine g_iload_n C dX11_restore_35 rfl ?_
    refine g_aald C dX11_restore_36 rfl (Or.inl rfl) (by decide) (by omega) rfl (hS.sreg (by omega)) ?_
    refine g_callV C (As := [.ref (55 + 4 * i)]) (c_X1_copyFrom _ hd hs0 (by omega) (by omega)) vo_X11_218 dX11_restore_37 rfl hd.1 hd.2.1 rfl (rm_ok (M' := MX11_restore) hR (by decide)) (Nat.le_of_ble_eq_true rfl) (fun v9 S9 h9 => ?_)
    obtain ⟨rfl, g1, g2⟩ := h9
    refine g_n0 [] rfl rfl rfl ?_
    refine n_iinc C (by rw [hmL]; decide) dX11_restore_40 rfl (n_i1 _) [.ref 0, .int (nI (i + 1))] ?_
    refine g_goto C 20 dX11_restore_43 (by decide) ?_
    have q : ∀ a, a = 53 + 4 * i ∨ a = 54 + 4 * i → rgR a := fun a h => by show _ ∨ _; omega
    refine ih (i + 1) S9 (by omega) (fun j hj => (h1 j hj).keep g2 (fun h => by rcases h with h | h <;> omega) (fun h => by rcases h with h | h <;> omega)) (fun j hj => ?_) (fun j hj => ?_) (hS.fn g2) (hf.tr (g2.mono (fun a h => q a h)))
    · by_cases e : j = i
      · rw [e]; exact ⟨_, _, _, g1⟩
      · obtain ⟨n1, T1, F1, h⟩ := h2 j hj
        exact ⟨n1, T1, F1, h.keep g2 (fun h => by rcases h with h | h <;> omega) (fun h => by rcases h with h | h <;> omega)⟩
    · by_cases e : j = i
      · rw [e]; exact g1
      · exact (h3 j (by omega)).keep g2 (fun h => by rcases h with h | h <;> omega) (fun h => by rcases h with h | h <;> omega)

set_option maxRecDepth 100000 in
theorem c_save (l : Launch) {S : pv_M} {N FF : Nat → Nat} {TT : Nat → Nat → Nat} {m m2 : Nat} {L L2 : Nat → Nat} (hS : GS S) (h1 : ∀ j, j < 3 → AutoAt S (53 + 4 * j) (54 + 4 * j) (N j) (TT j) (FF j)) (h2 : ∀ j, j < 3 → ∃ n T F, AutoAt S (55 + 4 * j) (56 + 4 * j) n T F) (hW : WordAt S 3 4 m L) (hV : WordAt S 5 6 m2 L2) : mt l MX11_save 106 [.ref 0] S (fun v S' => v = none ∧ FN svC S S' ∧ (∀ j, j < 3 → AutoAt S' (55 + 4 * j) (56 + 4 * j) (N j) (TT j) (FF j)) ∧ WordAt S' 5 6 m L ∧ mI S' 0 4 = 1 ∧ GS S') := by
  refine mt_of (by decide) (Nat.le_of_ble_eq_true rfl) ?_
  intro x hl hR hmL C E
  show GG x 106 0 0 [.ref 0, unk] [] S 0
  refine n_iconst C 0 dX11_save_0 ?_
  refine g_istore_n C (by rw [hmL]; decide) dX11_save_1 [.ref 0, .int (nI (0))] rfl ?_
  refine lp_X11_save hR hmL C (S0 := S) (fun S1 g1 g2 g3 g4 g5 => ?_) 3 0 S rfl h1 h2 (fun j hj => absurd hj (Nat.not_lt_zero j)) hS FN.rf
  refine g_aload_n C dX11_save_28 rfl ?_
  refine g_getR C fo_X11_25 dX11_save_29 rfl (by decide) (fun _ => rfl) (gs_0_3 g4) ?_
  refine g_aload_n C dX11_save_32 rfl ?_
  refine g_getR C fo_X11_21 dX11_save_33 rfl (by decide) (fun _ => rfl) (gs_0_2 g4) ?_
  refine g_callV C (As := [.ref 3]) (c_X10_copyFrom _ (hV.keep g5 (by decide) (by decide)) (hW.keep g5 (by decide) (by decide)) (by decide) (by decide)) vo_X11_278 dX11_save_36 rfl rfl (by decide) rfl (rm_ok (M' := MX11_save) hR (by decide)) (Nat.le_of_ble_eq_true rfl) (fun v9 S9 h9 => ?_)
  obtain ⟨rfl, k1, k2⟩ := h9
  refine g_n0 [] rfl rfl rfl ?_
  refine g_aload_n C dX11_save_39 rfl ?_
  refine n_iconst C 1 dX11_save_40 ?_
  refine g_putZ C fo_X11_28 dX11_save_41 rfl (by decide) rfl (Or.inr rfl) ?_
  have k3' : FN svC S1 S9 := k2.mono (fun r h => by rcases h with rfl | rfl <;> decide)
  have k4' : FN svC S S1 := g5.mono (fun r h => by rcases h with rfl | rfl | rfl | rfl | rfl | rfl <;> decide)
  refine g_vret C E dX11_save_44 (by rw [hR]; decide) (by rw [hR]; decide) ⟨rfl, (k4'.tr k3').tr (FN.wI (by decide)), fun j hj => ?_, k1.keep (P := fun r => r = 0) (FN.wI rfl) (by decide) (by decide), rfl, (g4.fn k2).fn (FN.wI (P := fun r => r = 0) rfl)⟩
  exact ((g3 j hj).keep k2 (fun h => by rcases h with h | h <;> omega) (fun h => by rcases h with h | h <;> omega)).keep (P := fun r => r = 0) (FN.wI rfl) (fun h => by omega) (fun h => by omega)

set_option maxRecDepth 100000 in
theorem c_restore (l : Launch) {S : pv_M} {N FF : Nat → Nat} {TT : Nat → Nat → Nat} {m m2 : Nat} {L L2 : Nat → Nat} (hS : GS S) (hs : mI S 0 4 = 1) (h1 : ∀ j, j < 3 → AutoAt S (55 + 4 * j) (56 + 4 * j) (N j) (TT j) (FF j)) (h2 : ∀ j, j < 3 → ∃ n T F, AutoAt S (53 + 4 * j) (54 + 4 * j) n T F) (hW : WordAt S 3 4 m L) (hV : WordAt S 5 6 m2 L2) : mt l MX11_restore 106 [.ref 0] S (fun v S' => v = none ∧ FN rgC S S' ∧ (∀ j, j < 3 → AutoAt S' (53 + 4 * j) (54 + 4 * j) (N j) (TT j) (FF j)) ∧ WordAt S' 3 4 m2 L2 ∧ GS S') := by
  refine mt_of (by decide) (Nat.le_of_ble_eq_true rfl) ?_
  intro x hl hR hmL C E
  show GG x 106 0 0 [.ref 0, unk] [] S 0
  refine g_aload_n C dX11_restore_0 rfl ?_
  refine g_getI C fo_X11_28 dX11_restore_1 rfl (by decide) (fun _ => rfl) hs ?_
  refine g_if_ne C 18 dX11_restore_4 (by decide) (fun h4 => ?_) (fun h4 => absurd h4 (by decide))
  refine n_iconst C 0 dX11_restore_18 ?_
  refine g_istore_n C (by rw [hmL]; decide) dX11_restore_19 [.ref 0, .int (nI (0))] rfl ?_
  refine lp_X11_restore hR hmL C (S0 := S) (fun S1 g1 g2 g3 g4 g5 => ?_) 3 0 S rfl h1 h2 (fun j hj => absurd hj (Nat.not_lt_zero j)) hS FN.rf
  refine g_aload_n C dX11_restore_46 rfl ?_
  refine g_getR C fo_X11_21 dX11_restore_47 rfl (by decide) (fun _ => rfl) (gs_0_2 g4) ?_
  refine g_aload_n C dX11_restore_50 rfl ?_
  refine g_getR C fo_X11_25 dX11_restore_51 rfl (by decide) (fun _ => rfl) (gs_0_3 g4) ?_
  refine g_callV C (As := [.ref 5]) (c_X10_copyFrom _ (hW.keep g5 (by decide) (by decide)) (hV.keep g5 (by decide) (by decide)) (by decide) (by decide)) vo_X11_278 dX11_restore_54 rfl rfl (by decide) rfl (rm_ok (M' := MX11_restore) hR (by decide)) (Nat.le_of_ble_eq_true rfl) (fun v9 S9 h9 => ?_)
  obtain ⟨rfl, k1, k2⟩ := h9
  refine g_n0 [] rfl rfl rfl ?_
  have k3' : FN rgC S1 S9 := k2.mono (fun r h => by rcases h with rfl | rfl <;> decide)
  have k4' : FN rgC S S1 := g5.mono (fun r h => by rcases h with rfl | rfl | rfl | rfl | rfl | rfl <;> decide)
  refine g_vret C E dX11_restore_57 (by rw [hR]; decide) (by rw [hR]; decide) ⟨rfl, k4'.tr k3', fun j hj => ?_, k1, g4.fn k2⟩
  exact (g3 j hj).keep k2 (fun h => by rcases h with h | h <;> omega) (fun h => by rcases h with h | h <;> omega)

set_option maxRecDepth 100000 in
theorem t_restore {l : Launch} (hst : l.stackTraces = false) {S : pv_M} (hs : mI S 0 4 = 0) : mth l MX11_restore.th 106 [.ref 0] S "java/lang/IllegalStateException" (fun S' => S' = S) := by
  refine mth_of hst (by decide) (Nat.le_of_ble_eq_true rfl) ?_
  intro x hl hR hmL C X
  have hst' : x.1.2.1.stackTraces = false := by rw [hl]; exact hst
  show GG x 106 0 0 [.ref 0, unk] [] S 0
  refine g_aload_n C dX11_restore_0 rfl ?_
  refine g_getI C fo_X11_28 dX11_restore_1 rfl (by decide) (fun _ => rfl) hs ?_
  refine g_if_ne C 18 dX11_restore_4 (by decide) (fun h => absurd rfl h) (fun _ => ?_)
  exact g_throwW C X to_281 dX11_restore_7 dX11_restore_10 dX11_restore_11 dX11_restore_14 dX11_restore_17 (by rw [hR]; decide) rfl
