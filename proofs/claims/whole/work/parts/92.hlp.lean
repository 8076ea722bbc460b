/-! the helpers, each with its way back and its catches -/
abbrev bL (c : Bool) : Int64 := if c then 1 else 0
theorem clk_13 : Cond.classLink RL 13 nIB ∈ TB := tb_in 407 (by decide +kernel) (by decide +kernel)
theorem cst_IB : Cond.castable nIB nIB ∈ NB := nb_in 499 (by decide +kernel) rfl
theorem clk_15 : Cond.classLink RL 15 nIA ∈ TB := tb_in 486 (by decide +kernel) (by decide +kernel)
theorem cst_IA : Cond.castable nIA nIA ∈ NB := nb_in 515 (by decide +kernel) rfl
theorem clk_46 : Cond.classLink RL 46 nIS ∈ TB := tb_in 626 (by decide +kernel) (by decide +kernel)
theorem cst_IS : Cond.castable nIS nIS ∈ NB := nb_in 636 (by decide +kernel) rfl
theorem clk_117 : Cond.classLink RL 117 nNS ∈ TB := tb_in 1064 (by decide +kernel) (by decide +kernel)
theorem cst_NS : Cond.castable nNS nNS ∈ NB := nb_in 1076 (by decide +kernel) rfl
theorem clk_131 : Cond.classLink RL 131 nAR ∈ TB := tb_in 1135 (by decide +kernel) (by decide +kernel)
theorem cst_AR : Cond.castable nAR nAR ∈ NB := nb_in 1147 (by decide +kernel) rfl
theorem vo_L_7 : VO RL 7 10 MX11_reset 2 := ⟨_, ko_X11.1, tb_all _ [487, 488, 489, 55, 490] (by decide +kernel) (by decide +kernel), by decide +kernel⟩
abbrev WL_reset : MeW := ((yL_reset, cL_reset, 4, some .int, { frames := 11, cells := 1, slots := 6, locals := 223 }), [(0, 6, 9, 13), (0, 6, 12, 15)])
set_option maxRecDepth 100000 in
theorem hr_reset {l : Launch} {S : pv_M} {a1 : Int32} {a2 : Int32} {P : pv_M → Prop} (hM : mt l MX11_reset 106 [.ref 0, .int (a1), .int (a2)] S (fun v S' => v = none ∧ P S')) : mtW l WL_reset 106 [.ref 0, .int (a1), .int (a2)] S (fun v S1 => v = some (.int (nI 0)) ∧ P S1) := by
  refine mtW_of (by decide) (Nat.le_of_ble_eq_true rfl) ?_
  intro x hl hR hmL C E hT hnc
  subst hl
  show GG x 106 0 0 [.ref 0, .int (a1), .int (a2), unk] [] S 0
  refine g_aload_n C dL_reset_0 rfl ?_
  refine g_iload_n C dL_reset_1 rfl ?_
  refine g_iload_n C dL_reset_2 rfl ?_
  refine g_callV C (As := [.int (a1), .int (a2)]) hM vo_L_7 dL_reset_3 rfl rfl (by decide) rfl (rm_ok (M' := WL_reset.1) hR (by decide)) (Nat.le_of_ble_eq_true rfl) (fun v9 S9 h9 => ?_)
  obtain ⟨rfl, h9⟩ := h9
  refine g_n0 [] rfl rfl rfl ?_
  refine g_goto C 15 dL_reset_6 (by decide) ?_
  refine n_iconst C 0 dL_reset_15 ?_
  exact g_iret C E dL_reset_16 (by rw [hR]; decide) (by rw [hR]; decide) ⟨rfl, h9⟩
set_option maxRecDepth 100000 in
theorem ht_reset_IB {l : Launch} {S : pv_M} {a1 : Int32} {a2 : Int32} {px : pv_M → Prop} (hM : mth l MX11_reset.th 106 [.ref 0, .int (a1), .int (a2)] S nIB px) : mtW l WL_reset 106 [.ref 0, .int (a1), .int (a2)] S (fun v S1 => v = some (.int (nI 1)) ∧ px S1) := by
  refine mtW_of (by decide) (Nat.le_of_ble_eq_true rfl) ?_
  intro x hl hR hmL C E hT hnc
  subst hl
  show GG x 106 0 0 [.ref 0, .int (a1), .int (a2), unk] [] S 0
  refine g_aload_n C dL_reset_0 rfl ?_
  refine g_iload_n C dL_reset_1 rfl ?_
  refine g_iload_n C dL_reset_2 rfl ?_
  refine g_catchN C hnc hT (As := [.int (a1), .int (a2)]) hM vo_L_7 dL_reset_3 rfl rfl (by decide) rfl (rm_ok (M' := WL_reset.1) hR (by decide)) (Nat.le_of_ble_eq_true rfl) [] [⟨0, 6, 12, 15⟩] ⟨0, 6, 9, 13⟩ rfl (fun _ h => absurd h List.not_mem_nil) (by decide) (by decide) clk_13 cst_IB (by rw [hmL]; decide) dL_reset_9 [.ref 0, .int (a1), .int (a2), unk] rfl (fun S9 h9 => ?_)
  refine n_iconst C 1 dL_reset_10 ?_
  exact g_iret C E dL_reset_11 (by rw [hR]; decide) (by rw [hR]; decide) ⟨rfl, h9⟩
set_option maxRecDepth 100000 in
theorem ht_reset_IA {l : Launch} {S : pv_M} {a1 : Int32} {a2 : Int32} {px : pv_M → Prop} (hM : mth l MX11_reset.th 106 [.ref 0, .int (a1), .int (a2)] S nIA px) : mtW l WL_reset 106 [.ref 0, .int (a1), .int (a2)] S (fun v S1 => v = some (.int (nI 2)) ∧ px S1) := by
  refine mtW_of (by decide) (Nat.le_of_ble_eq_true rfl) ?_
  intro x hl hR hmL C E hT hnc
  subst hl
  show GG x 106 0 0 [.ref 0, .int (a1), .int (a2), unk] [] S 0
  refine g_aload_n C dL_reset_0 rfl ?_
  refine g_iload_n C dL_reset_1 rfl ?_
  refine g_iload_n C dL_reset_2 rfl ?_
  refine g_catchN C hnc hT (As := [.int (a1), .int (a2)]) hM vo_L_7 dL_reset_3 rfl rfl (by decide) rfl (rm_ok (M' := WL_reset.1) hR (by decide)) (Nat.le_of_ble_eq_true rfl) [⟨0, 6, 9, 13⟩] [] ⟨0, 6, 12, 15⟩ rfl (List.forall_mem_cons.mpr ⟨⟨by decide, nIB, clk_13, by decide +kernel⟩, (fun _ h => absurd h List.not_mem_nil)⟩) (by decide) (by decide) clk_15 cst_IA (by rw [hmL]; decide) dL_reset_12 [.ref 0, .int (a1), .int (a2), unk] rfl (fun S9 h9 => ?_)
  refine n_iconst C 2 dL_reset_13 ?_
  exact g_iret C E dL_reset_14 (by rw [hR]; decide) (by rw [hR]; decide) ⟨rfl, h9⟩
theorem vo_L_17 : VO RL 17 10 MX11_setTarget 4 := ⟨_, ko_X11.1, tb_all _ [536, 537, 538, 55, 539] (by decide +kernel) (by decide +kernel), by decide +kernel⟩
abbrev WL_setTarget : MeW := ((yL_setTarget, cL_setTarget, 6, some .int, { frames := 12, cells := 1, slots := 6, locals := 247 }), [(0, 9, 12, 13)])
set_option maxRecDepth 100000 in
theorem hr_setTarget {l : Launch} {S : pv_M} {a1 : Int32} {a2 : Int32} {a3 : Int32} {a4 : Int32} {P : pv_M → Prop} (hM : mt l MX11_setTarget 106 [.ref 0, .int (a1), .int (a2), .int (a3), .int (a4)] S (fun v S' => v = none ∧ P S')) : mtW l WL_setTarget 106 [.ref 0, .int (a1), .int (a2), .int (a3), .int (a4)] S (fun v S1 => v = some (.int (nI 0)) ∧ P S1) := by
  refine mtW_of (by decide) (Nat.le_of_ble_eq_true rfl) ?_
  intro x hl hR hmL C E hT hnc
  subst hl
  show GG x 106 0 0 [.ref 0, .int (a1), .int (a2), .int (a3), .int (a4), unk] [] S 0
  refine g_aload_n C dL_setTarget_0 rfl ?_
  refine g_iload_n C dL_setTarget_1 rfl ?_
  refine g_iload_n C dL_setTarget_2 rfl ?_
  refine g_iload_n C dL_setTarget_3 rfl ?_
  refine g_iload C dL_setTarget_4 rfl ?_
  refine g_callV C (As := [.int (a1), .int (a2), .int (a3), .int (a4)]) hM vo_L_17 dL_setTarget_6 rfl rfl (by decide) rfl (rm_ok (M' := WL_setTarget.1) hR (by decide)) (Nat.le_of_ble_eq_true rfl) (fun v9 S9 h9 => ?_)
  obtain ⟨rfl, h9⟩ := h9
  refine g_n0 [] rfl rfl rfl ?_
  refine g_goto C 16 dL_setTarget_9 (by decide) ?_
  refine n_iconst C 0 dL_setTarget_16 ?_
  exact g_iret C E dL_setTarget_17 (by rw [hR]; decide) (by rw [hR]; decide) ⟨rfl, h9⟩
set_option maxRecDepth 100000 in
theorem ht_setTarget_IB {l : Launch} {S : pv_M} {a1 : Int32} {a2 : Int32} {a3 : Int32} {a4 : Int32} {px : pv_M → Prop} (hM : mth l MX11_setTarget.th 106 [.ref 0, .int (a1), .int (a2), .int (a3), .int (a4)] S nIB px) : mtW l WL_setTarget 106 [.ref 0, .int (a1), .int (a2), .int (a3), .int (a4)] S (fun v S1 => v = some (.int (nI 1)) ∧ px S1) := by
  refine mtW_of (by decide) (Nat.le_of_ble_eq_true rfl) ?_
  intro x hl hR hmL C E hT hnc
  subst hl
  show GG x 106 0 0 [.ref 0, .int (a1), .int (a2), .int (a3), .int (a4), unk] [] S 0
  refine g_aload_n C dL_setTarget_0 rfl ?_
  refine g_iload_n C dL_setTarget_1 rfl ?_
  refine g_iload_n C dL_setTarget_2 rfl ?_
  refine g_iload_n C dL_setTarget_3 rfl ?_
  refine g_iload C dL_setTarget_4 rfl ?_
  refine g_catchA C hnc hT (As := [.int (a1), .int (a2), .int (a3), .int (a4)]) hM vo_L_17 dL_setTarget_6 rfl rfl (by decide) rfl (rm_ok (M' := WL_setTarget.1) hR (by decide)) (Nat.le_of_ble_eq_true rfl) [] [] ⟨0, 9, 12, 13⟩ rfl (fun _ h => absurd h List.not_mem_nil) (by decide) (by decide) clk_13 cst_IB (by rw [hmL]; decide) dL_setTarget_12 [.ref 0, .int (a1), .int (a2), .int (a3), .int (a4), unk] rfl (fun S9 h9 => ?_)
  refine n_iconst C 1 dL_setTarget_14 ?_
  exact g_iret C E dL_setTarget_15 (by rw [hR]; decide) (by rw [hR]; decide) ⟨rfl, h9⟩
theorem vo_L_21 : VO RL 21 10 MX11_setFinal 3 := ⟨_, ko_X11.1, tb_all _ [554, 555, 556, 55, 557] (by decide +kernel) (by decide +kernel), by decide +kernel⟩
abbrev WL_setFinal : MeW := ((yL_setFinal, cL_setFinal, 6, some .int, { frames := 12, cells := 1, slots := 6, locals := 247 }), [(0, 19, 22, 13)])
set_option maxRecDepth 100000 in
theorem hr_setFinal {l : Launch} {S : pv_M} {a1 : Int32} {a2 : Int32} {a3 : Bool} {P : Bool → pv_M → Prop} (hM : mt l MX11_setFinal 106 [.ref 0, .int (a1), .int (a2), .int (bI (a3))] S (fun v S' => ∃ c, v = some (.int (bI c)) ∧ P c S')) : mtW l WL_setFinal 106 [.ref 0, .int (a1), .int (a2), .int (bI (a3)), .ref 104] S (fun v S1 => v = some (.int (nI 0)) ∧ ∃ c S0, P c S0 ∧ S1 = wJ S0 104 (va_up (mJ S0 104) 0 (bL c))) := by
  refine mtW_of (by decide) (Nat.le_of_ble_eq_true rfl) ?_
  intro x hl hR hmL C E hT hnc
  subst hl
  show GG x 106 0 0 [.ref 0, .int (a1), .int (a2), .int (bI (a3)), .ref 104, unk] [] S 0
  refine g_aload C dL_setFinal_0 rfl ?_
  refine n_iconst C 0 dL_setFinal_2 ?_
  refine g_aload_n C dL_setFinal_3 rfl ?_
  refine g_iload_n C dL_setFinal_4 rfl ?_
  refine g_iload_n C dL_setFinal_5 rfl ?_
  refine g_iload_n C dL_setFinal_6 rfl ?_
  refine g_callV C (As := [.int (a1), .int (a2), .int (bI (a3))]) hM vo_L_21 dL_setFinal_7 rfl rfl (by decide) rfl (rm_ok (M' := WL_setFinal.1) hR (by decide)) (Nat.le_of_ble_eq_true rfl) (fun v9 S9 h9 => ?_)
  obtain ⟨a9, rfl, h9⟩ := h9
  refine g_n0 [.int (bI (a9)), .int (nI (0)), .ref 104] rfl rfl rfl ?_
  refine b_if_eq C 17 dL_setFinal_10 (fun h10 => ?_) (fun h10 => ?_)
  · refine g_lconst C 0 dL_setFinal_17 (by decide) ?_
    refine g_last C dL_setFinal_18 rfl (by decide) (by omega) rfl ?_
    refine g_goto C 26 dL_setFinal_19 (by decide) ?_
    refine n_iconst C 0 dL_setFinal_26 ?_
    exact g_iret C E dL_setFinal_27 (by rw [hR]; decide) (by rw [hR]; decide) ⟨rfl, a9, S9, h9, by rw [h10]; rfl⟩
  · refine g_lconst C 1 dL_setFinal_13 (by decide) ?_
    refine g_goto C 18 dL_setFinal_14 (by decide) ?_
    refine g_last C dL_setFinal_18 rfl (by decide) (by omega) rfl ?_
    refine g_goto C 26 dL_setFinal_19 (by decide) ?_
    refine n_iconst C 0 dL_setFinal_26 ?_
    exact g_iret C E dL_setFinal_27 (by rw [hR]; decide) (by rw [hR]; decide) ⟨rfl, a9, S9, h9, by rw [h10]; rfl⟩
set_option maxRecDepth 100000 in
theorem ht_setFinal_IB {l : Launch} {S : pv_M} {a1 : Int32} {a2 : Int32} {a3 : Bool} {px : pv_M → Prop} (hM : mth l MX11_setFinal.th 106 [.ref 0, .int (a1), .int (a2), .int (bI (a3))] S nIB px) : mtW l WL_setFinal 106 [.ref 0, .int (a1), .int (a2), .int (bI (a3)), .ref 104] S (fun v S1 => v = some (.int (nI 1)) ∧ px S1) := by
  refine mtW_of (by decide) (Nat.le_of_ble_eq_true rfl) ?_
  intro x hl hR hmL C E hT hnc
  subst hl
  show GG x 106 0 0 [.ref 0, .int (a1), .int (a2), .int (bI (a3)), .ref 104, unk] [] S 0
  refine g_aload C dL_setFinal_0 rfl ?_
  refine n_iconst C 0 dL_setFinal_2 ?_
  refine g_aload_n C dL_setFinal_3 rfl ?_
  refine g_iload_n C dL_setFinal_4 rfl ?_
  refine g_iload_n C dL_setFinal_5 rfl ?_
  refine g_iload_n C dL_setFinal_6 rfl ?_
  refine g_catchA C hnc hT (As := [.int (a1), .int (a2), .int (bI (a3))]) hM vo_L_21 dL_setFinal_7 rfl rfl (by decide) rfl (rm_ok (M' := WL_setFinal.1) hR (by decide)) (Nat.le_of_ble_eq_true rfl) [] [] ⟨0, 19, 22, 13⟩ rfl (fun _ h => absurd h List.not_mem_nil) (by decide) (by decide) clk_13 cst_IB (by rw [hmL]; decide) dL_setFinal_22 [.ref 0, .int (a1), .int (a2), .int (bI (a3)), .ref 104, unk] rfl (fun S9 h9 => ?_)
  refine n_iconst C 1 dL_setFinal_24 ?_
  exact g_iret C E dL_setFinal_25 (by rw [hR]; decide) (by rw [hR]; decide) ⟨rfl, h9⟩
theorem vo_L_25 : VO RL 25 10 MX11_stateCount 1 := ⟨_, ko_X11.1, tb_all _ [569, 570, 571, 55, 572] (by decide +kernel) (by decide +kernel), by decide +kernel⟩
abbrev WL_stateCount : MeW := ((yL_stateCount, cL_stateCount, 4, some .int, { frames := 11, cells := 1, slots := 6, locals := 222 }), [(0, 9, 12, 13)])
set_option maxRecDepth 100000 in
theorem hr_stateCount {l : Launch} {S : pv_M} {a1 : Int32} {P : Int32 → pv_M → Prop} (hM : mt l MX11_stateCount 106 [.ref 0, .int (a1)] S (fun v S' => ∃ a, v = some (.int a) ∧ P a S')) : mtW l WL_stateCount 106 [.ref 0, .int (a1), .ref 104] S (fun v S1 => v = some (.int (nI 0)) ∧ ∃ a S0, P a S0 ∧ S1 = wJ S0 104 (va_up (mJ S0 104) 0 a.toInt64)) := by
  refine mtW_of (by decide) (Nat.le_of_ble_eq_true rfl) ?_
  intro x hl hR hmL C E hT hnc
  subst hl
  show GG x 106 0 0 [.ref 0, .int (a1), .ref 104, unk] [] S 0
  refine g_aload_n C dL_stateCount_0 rfl ?_
  refine n_iconst C 0 dL_stateCount_1 ?_
  refine g_aload_n C dL_stateCount_2 rfl ?_
  refine g_iload_n C dL_stateCount_3 rfl ?_
  refine g_callV C (As := [.int (a1)]) hM vo_L_25 dL_stateCount_4 rfl rfl (by decide) rfl (rm_ok (M' := WL_stateCount.1) hR (by decide)) (Nat.le_of_ble_eq_true rfl) (fun v9 S9 h9 => ?_)
  obtain ⟨a9, rfl, h9⟩ := h9
  refine g_n0 [.int (a9), .int (nI (0)), .ref 104] rfl rfl rfl ?_
  refine g_i2l C dL_stateCount_7 ?_
  refine g_last C dL_stateCount_8 rfl (by decide) (by omega) rfl ?_
  refine g_goto C 15 dL_stateCount_9 (by decide) ?_
  refine n_iconst C 0 dL_stateCount_15 ?_
  exact g_iret C E dL_stateCount_16 (by rw [hR]; decide) (by rw [hR]; decide) ⟨rfl, a9, S9, h9, rfl⟩
set_option maxRecDepth 100000 in
theorem ht_stateCount_IB {l : Launch} {S : pv_M} {a1 : Int32} {px : pv_M → Prop} (hM : mth l MX11_stateCount.th 106 [.ref 0, .int (a1)] S nIB px) : mtW l WL_stateCount 106 [.ref 0, .int (a1), .ref 104] S (fun v S1 => v = some (.int (nI 1)) ∧ px S1) := by
  refine mtW_of (by decide) (Nat.le_of_ble_eq_true rfl) ?_
  intro x hl hR hmL C E hT hnc
  subst hl
  show GG x 106 0 0 [.ref 0, .int (a1), .ref 104, unk] [] S 0
  refine g_aload_n C dL_stateCount_0 rfl ?_
  refine n_iconst C 0 dL_stateCount_1 ?_
  refine g_aload_n C dL_stateCount_2 rfl ?_
  refine g_iload_n C dL_stateCount_3 rfl ?_
  refine g_catchN C hnc hT (As := [.int (a1)]) hM vo_L_25 dL_stateCount_4 rfl rfl (by decide) rfl (rm_ok (M' := WL_stateCount.1) hR (by decide)) (Nat.le_of_ble_eq_true rfl) [] [] ⟨0, 9, 12, 13⟩ rfl (fun _ h => absurd h List.not_mem_nil) (by decide) (by decide) clk_13 cst_IB (by rw [hmL]; decide) dL_stateCount_12 [.ref 0, .int (a1), .ref 104, unk] rfl (fun S9 h9 => ?_)
  refine n_iconst C 1 dL_stateCount_13 ?_
  exact g_iret C E dL_stateCount_14 (by rw [hR]; decide) (by rw [hR]; decide) ⟨rfl, h9⟩
theorem vo_L_29 : VO RL 29 10 MX11_target 3 := ⟨_, ko_X11.1, tb_all _ [576, 577, 578, 55, 579] (by decide +kernel) (by decide +kernel), by decide +kernel⟩
abbrev WL_target : MeW := ((yL_target, cL_target, 6, some .int, { frames := 12, cells := 1, slots := 6, locals := 246 }), [(0, 12, 15, 13)])
set_option maxRecDepth 100000 in
theorem hr_target {l : Launch} {S : pv_M} {a1 : Int32} {a2 : Int32} {a3 : Int32} {P : Int32 → pv_M → Prop} (hM : mt l MX11_target 106 [.ref 0, .int (a1), .int (a2), .int (a3)] S (fun v S' => ∃ a, v = some (.int a) ∧ P a S')) : mtW l WL_target 106 [.ref 0, .int (a1), .int (a2), .int (a3), .ref 104] S (fun v S1 => v = some (.int (nI 0)) ∧ ∃ a S0, P a S0 ∧ S1 = wJ S0 104 (va_up (mJ S0 104) 0 a.toInt64)) := by
  refine mtW_of (by decide) (Nat.le_of_ble_eq_true rfl) ?_
  intro x hl hR hmL C E hT hnc
  subst hl
  show GG x 106 0 0 [.ref 0, .int (a1), .int (a2), .int (a3), .ref 104, unk] [] S 0
  refine g_aload C dL_target_0 rfl ?_
  refine n_iconst C 0 dL_target_2 ?_
  refine g_aload_n C dL_target_3 rfl ?_
  refine g_iload_n C dL_target_4 rfl ?_
  refine g_iload_n C dL_target_5 rfl ?_
  refine g_iload_n C dL_target_6 rfl ?_
  refine g_callV C (As := [.int (a1), .int (a2), .int (a3)]) hM vo_L_29 dL_target_7 rfl rfl (by decide) rfl (rm_ok (M' := WL_target.1) hR (by decide)) (Nat.le_of_ble_eq_true rfl) (fun v9 S9 h9 => ?_)
  obtain ⟨a9, rfl, h9⟩ := h9
  refine g_n0 [.int (a9), .int (nI (0)), .ref 104] rfl rfl rfl ?_
  refine g_i2l C dL_target_10 ?_
  refine g_last C dL_target_11 rfl (by decide) (by omega) rfl ?_
  refine g_goto C 19 dL_target_12 (by decide) ?_
  refine n_iconst C 0 dL_target_19 ?_
  exact g_iret C E dL_target_20 (by rw [hR]; decide) (by rw [hR]; decide) ⟨rfl, a9, S9, h9, rfl⟩
set_option maxRecDepth 100000 in
theorem ht_target_IB {l : Launch} {S : pv_M} {a1 : Int32} {a2 : Int32} {a3 : Int32} {px : pv_M → Prop} (hM : mth l MX11_target.th 106 [.ref 0, .int (a1), .int (a2), .int (a3)] S nIB px) : mtW l WL_target 106 [.ref 0, .int (a1), .int (a2), .int (a3), .ref 104] S (fun v S1 => v = some (.int (nI 1)) ∧ px S1) := by
  refine mtW_of (by decide) (Nat.le_of_ble_eq_true rfl) ?_
  intro x hl hR hmL C E hT hnc
  subst hl
  show GG x 106 0 0 [.ref 0, .int (a1), .int (a2), .int (a3), .ref 104, unk] [] S 0
  refine g_aload C dL_target_0 rfl ?_
  refine n_iconst C 0 dL_target_2 ?_
  refine g_aload_n C dL_target_3 rfl ?_
  refine g_iload_n C dL_target_4 rfl ?_
  refine g_iload_n C dL_target_5 rfl ?_
  refine g_iload_n C dL_target_6 rfl ?_
  refine g_catchA C hnc hT (As := [.int (a1), .int (a2), .int (a3)]) hM vo_L_29 dL_target_7 rfl rfl (by decide) rfl (rm_ok (M' := WL_target.1) hR (by decide)) (Nat.le_of_ble_eq_true rfl) [] [] ⟨0, 12, 15, 13⟩ rfl (fun _ h => absurd h List.not_mem_nil) (by decide) (by decide) clk_13 cst_IB (by rw [hmL]; decide) dL_target_15 [.ref 0, .int (a1), .int (a2), .int (a3), .ref 104, unk] rfl (fun S9 h9 => ?_)
  refine n_iconst C 1 dL_target_17 ?_
  exact g_iret C E dL_target_18 (by rw [hR]; decide) (by rw [hR]; decide) ⟨rfl, h9⟩
theorem vo_L_33 : VO RL 33 10 MX11_isFinal 2 := ⟨_, ko_X11.1, tb_all _ [587, 588, 589, 55, 590] (by decide +kernel) (by decide +kernel), by decide +kernel⟩
abbrev WL_isFinal : MeW := ((yL_isFinal, cL_isFinal, 5, some .int, { frames := 12, cells := 1, slots := 6, locals := 245 }), [(0, 17, 20, 13)])
set_option maxRecDepth 100000 in
theorem hr_isFinal {l : Launch} {S : pv_M} {a1 : Int32} {a2 : Int32} {P : Bool → pv_M → Prop} (hM : mt l MX11_isFinal 106 [.ref 0, .int (a1), .int (a2)] S (fun v S' => ∃ c, v = some (.int (bI c)) ∧ P c S')) : mtW l WL_isFinal 106 [.ref 0, .int (a1), .int (a2), .ref 104] S (fun v S1 => v = some (.int (nI 0)) ∧ ∃ c S0, P c S0 ∧ S1 = wJ S0 104 (va_up (mJ S0 104) 0 (bL c))) := by
  refine mtW_of (by decide) (Nat.le_of_ble_eq_true rfl) ?_
  intro x hl hR hmL C E hT hnc
  subst hl
  show GG x 106 0 0 [.ref 0, .int (a1), .int (a2), .ref 104, unk] [] S 0
  refine g_aload_n C dL_isFinal_0 rfl ?_
  refine n_iconst C 0 dL_isFinal_1 ?_
  refine g_aload_n C dL_isFinal_2 rfl ?_
  refine g_iload_n C dL_isFinal_3 rfl ?_
  refine g_iload_n C dL_isFinal_4 rfl ?_
  refine g_callV C (As := [.int (a1), .int (a2)]) hM vo_L_33 dL_isFinal_5 rfl rfl (by decide) rfl (rm_ok (M' := WL_isFinal.1) hR (by decide)) (Nat.le_of_ble_eq_true rfl) (fun v9 S9 h9 => ?_)
  obtain ⟨a9, rfl, h9⟩ := h9
  refine g_n0 [.int (bI (a9)), .int (nI (0)), .ref 104] rfl rfl rfl ?_
  refine b_if_eq C 15 dL_isFinal_8 (fun h8 => ?_) (fun h8 => ?_)
  · refine g_lconst C 0 dL_isFinal_15 (by decide) ?_
    refine g_last C dL_isFinal_16 rfl (by decide) (by omega) rfl ?_
    refine g_goto C 24 dL_isFinal_17 (by decide) ?_
    refine n_iconst C 0 dL_isFinal_24 ?_
    exact g_iret C E dL_isFinal_25 (by rw [hR]; decide) (by rw [hR]; decide) ⟨rfl, a9, S9, h9, by rw [h8]; rfl⟩
  · refine g_lconst C 1 dL_isFinal_11 (by decide) ?_
    refine g_goto C 16 dL_isFinal_12 (by decide) ?_
    refine g_last C dL_isFinal_16 rfl (by decide) (by omega) rfl ?_
    refine g_goto C 24 dL_isFinal_17 (by decide) ?_
    refine n_iconst C 0 dL_isFinal_24 ?_
    exact g_iret C E dL_isFinal_25 (by rw [hR]; decide) (by rw [hR]; decide) ⟨rfl, a9, S9, h9, by rw [h8]; rfl⟩
set_option maxRecDepth 100000 in
theorem ht_isFinal_IB {l : Launch} {S : pv_M} {a1 : Int32} {a2 : Int32} {px : pv_M → Prop} (hM : mth l MX11_isFinal.th 106 [.ref 0, .int (a1), .int (a2)] S nIB px) : mtW l WL_isFinal 106 [.ref 0, .int (a1), .int (a2), .ref 104] S (fun v S1 => v = some (.int (nI 1)) ∧ px S1) := by
  refine mtW_of (by decide) (Nat.le_of_ble_eq_true rfl) ?_
  intro x hl hR hmL C E hT hnc
  subst hl
  show GG x 106 0 0 [.ref 0, .int (a1), .int (a2), .ref 104, unk] [] S 0
  refine g_aload_n C dL_isFinal_0 rfl ?_
  refine n_iconst C 0 dL_isFinal_1 ?_
  refine g_aload_n C dL_isFinal_2 rfl ?_
  refine g_iload_n C dL_isFinal_3 rfl ?_
  refine g_iload_n C dL_isFinal_4 rfl ?_
  refine g_catchA C hnc hT (As := [.int (a1), .int (a2)]) hM vo_L_33 dL_isFinal_5 rfl rfl (by decide) rfl (rm_ok (M' := WL_isFinal.1) hR (by decide)) (Nat.le_of_ble_eq_true rfl) [] [] ⟨0, 17, 20, 13⟩ rfl (fun _ h => absurd h List.not_mem_nil) (by decide) (by decide) clk_13 cst_IB (by rw [hmL]; decide) dL_isFinal_20 [.ref 0, .int (a1), .int (a2), .ref 104, unk] rfl (fun S9 h9 => ?_)
  refine n_iconst C 1 dL_isFinal_22 ?_
  exact g_iret C E dL_isFinal_23 (by rw [hR]; decide) (by rw [hR]; decide) ⟨rfl, h9⟩
theorem vo_L_37 : VO RL 37 10 MX11_randomize 2 := ⟨_, ko_X11.1, tb_all _ [594, 595, 596, 55, 597] (by decide +kernel) (by decide +kernel), by decide +kernel⟩
abbrev WL_randomize : MeW := ((yL_randomize, cL_randomize, 4, some .int, { frames := 11, cells := 1, slots := 6, locals := 223 }), [(0, 6, 9, 13)])
set_option maxRecDepth 100000 in
theorem hr_randomize {l : Launch} {S : pv_M} {a1 : Int32} {a2 : Int32} {P : pv_M → Prop} (hM : mt l MX11_randomize 106 [.ref 0, .int (a1), .int (a2)] S (fun v S' => v = none ∧ P S')) : mtW l WL_randomize 106 [.ref 0, .int (a1), .int (a2)] S (fun v S1 => v = some (.int (nI 0)) ∧ P S1) := by
  refine mtW_of (by decide) (Nat.le_of_ble_eq_true rfl) ?_
  intro x hl hR hmL C E hT hnc
  subst hl
  show GG x 106 0 0 [.ref 0, .int (a1), .int (a2), unk] [] S 0
  refine g_aload_n C dL_randomize_0 rfl ?_
  refine g_iload_n C dL_randomize_1 rfl ?_
  refine g_iload_n C dL_randomize_2 rfl ?_
  refine g_callV C (As := [.int (a1), .int (a2)]) hM vo_L_37 dL_randomize_3 rfl rfl (by decide) rfl (rm_ok (M' := WL_randomize.1) hR (by decide)) (Nat.le_of_ble_eq_true rfl) (fun v9 S9 h9 => ?_)
  obtain ⟨rfl, h9⟩ := h9
  refine g_n0 [] rfl rfl rfl ?_
  refine g_goto C 12 dL_randomize_6 (by decide) ?_
  refine n_iconst C 0 dL_randomize_12 ?_
  exact g_iret C E dL_randomize_13 (by rw [hR]; decide) (by rw [hR]; decide) ⟨rfl, h9⟩
set_option maxRecDepth 100000 in
theorem ht_randomize_IB {l : Launch} {S : pv_M} {a1 : Int32} {a2 : Int32} {px : pv_M → Prop} (hM : mth l MX11_randomize.th 106 [.ref 0, .int (a1), .int (a2)] S nIB px) : mtW l WL_randomize 106 [.ref 0, .int (a1), .int (a2)] S (fun v S1 => v = some (.int (nI 1)) ∧ px S1) := by
  refine mtW_of (by decide) (Nat.le_of_ble_eq_true rfl) ?_
  intro x hl hR hmL C E hT hnc
  subst hl
  show GG x 106 0 0 [.ref 0, .int (a1), .int (a2), unk] [] S 0
  refine g_aload_n C dL_randomize_0 rfl ?_
  refine g_iload_n C dL_randomize_1 rfl ?_
  refine g_iload_n C dL_randomize_2 rfl ?_
  refine g_catchN C hnc hT (As := [.int (a1), .int (a2)]) hM vo_L_37 dL_randomize_3 rfl rfl (by decide) rfl (rm_ok (M' := WL_randomize.1) hR (by decide)) (Nat.le_of_ble_eq_true rfl) [] [] ⟨0, 6, 9, 13⟩ rfl (fun _ h => absurd h List.not_mem_nil) (by decide) (by decide) clk_13 cst_IB (by rw [hmL]; decide) dL_randomize_9 [.ref 0, .int (a1), .int (a2), unk] rfl (fun S9 h9 => ?_)
  refine n_iconst C 1 dL_randomize_10 ?_
  exact g_iret C E dL_randomize_11 (by rw [hR]; decide) (by rw [hR]; decide) ⟨rfl, h9⟩
theorem vo_L_40 : VO RL 40 10 MX11_makeWitness 2 := ⟨_, ko_X11.1, tb_all _ [613, 614, 615, 55, 616] (by decide +kernel) (by decide +kernel), by decide +kernel⟩
abbrev WL_makeWitness : MeW := ((yL_makeWitness, cL_makeWitness, 4, some .int, { frames := 11, cells := 1, slots := 6, locals := 223 }), [(0, 6, 9, 13), (0, 6, 12, 15)])
set_option maxRecDepth 100000 in
theorem hr_makeWitness {l : Launch} {S : pv_M} {a1 : Int32} {a2 : Int32} {P : pv_M → Prop} (hM : mt l MX11_makeWitness 106 [.ref 0, .int (a1), .int (a2)] S (fun v S' => v = none ∧ P S')) : mtW l WL_makeWitness 106 [.ref 0, .int (a1), .int (a2)] S (fun v S1 => v = some (.int (nI 0)) ∧ P S1) := by
  refine mtW_of (by decide) (Nat.le_of_ble_eq_true rfl) ?_
  intro x hl hR hmL C E hT hnc
  subst hl
  show GG x 106 0 0 [.ref 0, .int (a1), .int (a2), unk] [] S 0
  refine g_aload_n C dL_makeWitness_0 rfl ?_
  refine g_iload_n C dL_makeWitness_1 rfl ?_
  refine g_iload_n C dL_makeWitness_2 rfl ?_
  refine g_callV C (As := [.int (a1), .int (a2)]) hM vo_L_40 dL_makeWitness_3 rfl rfl (by decide) rfl (rm_ok (M' := WL_makeWitness.1) hR (by decide)) (Nat.le_of_ble_eq_true rfl) (fun v9 S9 h9 => ?_)
  obtain ⟨rfl, h9⟩ := h9
  refine g_n0 [] rfl rfl rfl ?_
  refine g_goto C 15 dL_makeWitness_6 (by decide) ?_
  refine n_iconst C 0 dL_makeWitness_15 ?_
  exact g_iret C E dL_makeWitness_16 (by rw [hR]; decide) (by rw [hR]; decide) ⟨rfl, h9⟩
set_option maxRecDepth 100000 in
theorem ht_makeWitness_IB {l : Launch} {S : pv_M} {a1 : Int32} {a2 : Int32} {px : pv_M → Prop} (hM : mth l MX11_makeWitness.th 106 [.ref 0, .int (a1), .int (a2)] S nIB px) : mtW l WL_makeWitness 106 [.ref 0, .int (a1), .int (a2)] S (fun v S1 => v = some (.int (nI 1)) ∧ px S1) := by
  refine mtW_of (by decide) (Nat.le_of_ble_eq_true rfl) ?_
  intro x hl hR hmL C E hT hnc
  subst hl
  show GG x 106 0 0 [.ref 0, .int (a1), .int (a2), unk] [] S 0
  refine g_aload_n C dL_makeWitness_0 rfl ?_
  refine g_iload_n C dL_makeWitness_1 rfl ?_
  refine g_iload_n C dL_makeWitness_2 rfl ?_
  refine g_catchN C hnc hT (As := [.int (a1), .int (a2)]) hM vo_L_40 dL_makeWitness_3 rfl rfl (by decide) rfl (rm_ok (M' := WL_makeWitness.1) hR (by decide)) (Nat.le_of_ble_eq_true rfl) [] [⟨0, 6, 12, 15⟩] ⟨0, 6, 9, 13⟩ rfl (fun _ h => absurd h List.not_mem_nil) (by decide) (by decide) clk_13 cst_IB (by rw [hmL]; decide) dL_makeWitness_9 [.ref 0, .int (a1), .int (a2), unk] rfl (fun S9 h9 => ?_)
  refine n_iconst C 1 dL_makeWitness_10 ?_
  exact g_iret C E dL_makeWitness_11 (by rw [hR]; decide) (by rw [hR]; decide) ⟨rfl, h9⟩
set_option maxRecDepth 100000 in
theorem ht_makeWitness_IA {l : Launch} {S : pv_M} {a1 : Int32} {a2 : Int32} {px : pv_M → Prop} (hM : mth l MX11_makeWitness.th 106 [.ref 0, .int (a1), .int (a2)] S nIA px) : mtW l WL_makeWitness 106 [.ref 0, .int (a1), .int (a2)] S (fun v S1 => v = some (.int (nI 2)) ∧ px S1) := by
  refine mtW_of (by decide) (Nat.le_of_ble_eq_true rfl) ?_
  intro x hl hR hmL C E hT hnc
  subst hl
  show GG x 106 0 0 [.ref 0, .int (a1), .int (a2), unk] [] S 0
  refine g_aload_n C dL_makeWitness_0 rfl ?_
  refine g_iload_n C dL_makeWitness_1 rfl ?_
  refine g_iload_n C dL_makeWitness_2 rfl ?_
  refine g_catchN C hnc hT (As := [.int (a1), .int (a2)]) hM vo_L_40 dL_makeWitness_3 rfl rfl (by decide) rfl (rm_ok (M' := WL_makeWitness.1) hR (by decide)) (Nat.le_of_ble_eq_true rfl) [⟨0, 6, 9, 13⟩] [] ⟨0, 6, 12, 15⟩ rfl (List.forall_mem_cons.mpr ⟨⟨by decide, nIB, clk_13, by decide +kernel⟩, (fun _ h => absurd h List.not_mem_nil)⟩) (by decide) (by decide) clk_15 cst_IA (by rw [hmL]; decide) dL_makeWitness_12 [.ref 0, .int (a1), .int (a2), unk] rfl (fun S9 h9 => ?_)
  refine n_iconst C 2 dL_makeWitness_13 ?_
  exact g_iret C E dL_makeWitness_14 (by rw [hR]; decide) (by rw [hR]; decide) ⟨rfl, h9⟩
theorem vo_L_43 : VO RL 43 10 MX11_appendLetter 1 := ⟨_, ko_X11.1, tb_all _ [627, 628, 629, 55, 630] (by decide +kernel) (by decide +kernel), by decide +kernel⟩
abbrev WL_appendLetter : MeW := ((yL_appendLetter, cL_appendLetter, 4, some .int, { frames := 11, cells := 1, slots := 6, locals := 222 }), [(0, 9, 12, 13), (0, 9, 15, 46)])
set_option maxRecDepth 100000 in
theorem hr_appendLetter {l : Launch} {S : pv_M} {a1 : Int32} {P : Int32 → pv_M → Prop} (hM : mt l MX11_appendLetter 106 [.ref 0, .int (a1)] S (fun v S' => ∃ a, v = some (.int a) ∧ P a S')) : mtW l WL_appendLetter 106 [.ref 0, .int (a1), .ref 104] S (fun v S1 => v = some (.int (nI 0)) ∧ ∃ a S0, P a S0 ∧ S1 = wJ S0 104 (va_up (mJ S0 104) 0 a.toInt64)) := by
  refine mtW_of (by decide) (Nat.le_of_ble_eq_true rfl) ?_
  intro x hl hR hmL C E hT hnc
  subst hl
  show GG x 106 0 0 [.ref 0, .int (a1), .ref 104, unk] [] S 0
  refine g_aload_n C dL_appendLetter_0 rfl ?_
  refine n_iconst C 0 dL_appendLetter_1 ?_
  refine g_aload_n C dL_appendLetter_2 rfl ?_
  refine g_iload_n C dL_appendLetter_3 rfl ?_
  refine g_callV C (As := [.int (a1)]) hM vo_L_43 dL_appendLetter_4 rfl rfl (by decide) rfl (rm_ok (M' := WL_appendLetter.1) hR (by decide)) (Nat.le_of_ble_eq_true rfl) (fun v9 S9 h9 => ?_)
  obtain ⟨a9, rfl, h9⟩ := h9
  refine g_n0 [.int (a9), .int (nI (0)), .ref 104] rfl rfl rfl ?_
  refine g_i2l C dL_appendLetter_7 ?_
  refine g_last C dL_appendLetter_8 rfl (by decide) (by omega) rfl ?_
  refine g_goto C 18 dL_appendLetter_9 (by decide) ?_
  refine n_iconst C 0 dL_appendLetter_18 ?_
  exact g_iret C E dL_appendLetter_19 (by rw [hR]; decide) (by rw [hR]; decide) ⟨rfl, a9, S9, h9, rfl⟩
set_option maxRecDepth 100000 in
theorem ht_appendLetter_IB {l : Launch} {S : pv_M} {a1 : Int32} {px : pv_M → Prop} (hM : mth l MX11_appendLetter.th 106 [.ref 0, .int (a1)] S nIB px) : mtW l WL_appendLetter 106 [.ref 0, .int (a1), .ref 104] S (fun v S1 => v = some (.int (nI 1)) ∧ px S1) := by
  refine mtW_of (by decide) (Nat.le_of_ble_eq_true rfl) ?_
  intro x hl hR hmL C E hT hnc
  subst hl
  show GG x 106 0 0 [.ref 0, .int (a1), .ref 104, unk] [] S 0
  refine g_aload_n C dL_appendLetter_0 rfl ?_
  refine n_iconst C 0 dL_appendLetter_1 ?_
  refine g_aload_n C dL_appendLetter_2 rfl ?_
  refine g_iload_n C dL_appendLetter_3 rfl ?_
  refine g_catchN C hnc hT (As := [.int (a1)]) hM vo_L_43 dL_appendLetter_4 rfl rfl (by decide) rfl (rm_ok (M' := WL_appendLetter.1) hR (by decide)) (Nat.le_of_ble_eq_true rfl) [] [⟨0, 9, 15, 46⟩] ⟨0, 9, 12, 13⟩ rfl (fun _ h => absurd h List.not_mem_nil) (by decide) (by decide) clk_13 cst_IB (by rw [hmL]; decide) dL_appendLetter_12 [.ref 0, .int (a1), .ref 104, unk] rfl (fun S9 h9 => ?_)
  refine n_iconst C 1 dL_appendLetter_13 ?_
  exact g_iret C E dL_appendLetter_14 (by rw [hR]; decide) (by rw [hR]; decide) ⟨rfl, h9⟩
set_option maxRecDepth 100000 in
theorem ht_appendLetter_IS {l : Launch} {S : pv_M} {a1 : Int32} {px : pv_M → Prop} (hM : mth l MX11_appendLetter.th 106 [.ref 0, .int (a1)] S nIS px) : mtW l WL_appendLetter 106 [.ref 0, .int (a1), .ref 104] S (fun v S1 => v = some (.int (nI 2)) ∧ px S1) := by
  refine mtW_of (by decide) (Nat.le_of_ble_eq_true rfl) ?_
  intro x hl hR hmL C E hT hnc
  subst hl
  show GG x 106 0 0 [.ref 0, .int (a1), .ref 104, unk] [] S 0
  refine g_aload_n C dL_appendLetter_0 rfl ?_
  refine n_iconst C 0 dL_appendLetter_1 ?_
  refine g_aload_n C dL_appendLetter_2 rfl ?_
  refine g_iload_n C dL_appendLetter_3 rfl ?_
  refine g_catchN C hnc hT (As := [.int (a1)]) hM vo_L_43 dL_appendLetter_4 rfl rfl (by decide) rfl (rm_ok (M' := WL_appendLetter.1) hR (by decide)) (Nat.le_of_ble_eq_true rfl) [⟨0, 9, 12, 13⟩] [] ⟨0, 9, 15, 46⟩ rfl (List.forall_mem_cons.mpr ⟨⟨by decide, nIB, clk_13, by decide +kernel⟩, (fun _ h => absurd h List.not_mem_nil)⟩) (by decide) (by decide) clk_46 cst_IS (by rw [hmL]; decide) dL_appendLetter_15 [.ref 0, .int (a1), .ref 104, unk] rfl (fun S9 h9 => ?_)
  refine n_iconst C 2 dL_appendLetter_16 ?_
  exact g_iret C E dL_appendLetter_17 (by rw [hR]; decide) (by rw [hR]; decide) ⟨rfl, h9⟩
theorem vo_L_48 : VO RL 48 10 MX11_wordLetter 1 := ⟨_, ko_X11.1, tb_all _ [657, 658, 659, 55, 660] (by decide +kernel) (by decide +kernel), by decide +kernel⟩
abbrev WL_wordLetter : MeW := ((yL_wordLetter, cL_wordLetter, 4, some .int, { frames := 10, cells := 1, slots := 6, locals := 202 }), [(0, 9, 12, 13)])
set_option maxRecDepth 100000 in
theorem hr_wordLetter {l : Launch} {S : pv_M} {a1 : Int32} {P : Int32 → pv_M → Prop} (hM : mt l MX11_wordLetter 106 [.ref 0, .int (a1)] S (fun v S' => ∃ a, v = some (.int a) ∧ P a S')) : mtW l WL_wordLetter 106 [.ref 0, .int (a1), .ref 104] S (fun v S1 => v = some (.int (nI 0)) ∧ ∃ a S0, P a S0 ∧ S1 = wJ S0 104 (va_up (mJ S0 104) 0 a.toInt64)) := by
  refine mtW_of (by decide) (Nat.le_of_ble_eq_true rfl) ?_
  intro x hl hR hmL C E hT hnc
  subst hl
  show GG x 106 0 0 [.ref 0, .int (a1), .ref 104, unk] [] S 0
  refine g_aload_n C dL_wordLetter_0 rfl ?_
  refine n_iconst C 0 dL_wordLetter_1 ?_
  refine g_aload_n C dL_wordLetter_2 rfl ?_
  refine g_iload_n C dL_wordLetter_3 rfl ?_
  refine g_callV C (As := [.int (a1)]) hM vo_L_48 dL_wordLetter_4 rfl rfl (by decide) rfl (rm_ok (M' := WL_wordLetter.1) hR (by decide)) (Nat.le_of_ble_eq_true rfl) (fun v9 S9 h9 => ?_)
  obtain ⟨a9, rfl, h9⟩ := h9
  refine g_n0 [.int (a9), .int (nI (0)), .ref 104] rfl rfl rfl ?_
  refine g_i2l C dL_wordLetter_7 ?_
  refine g_last C dL_wordLetter_8 rfl (by decide) (by omega) rfl ?_
  refine g_goto C 15 dL_wordLetter_9 (by decide) ?_
  refine n_iconst C 0 dL_wordLetter_15 ?_
  exact g_iret C E dL_wordLetter_16 (by rw [hR]; decide) (by rw [hR]; decide) ⟨rfl, a9, S9, h9, rfl⟩
set_option maxRecDepth 100000 in
theorem ht_wordLetter_IB {l : Launch} {S : pv_M} {a1 : Int32} {px : pv_M → Prop} (hM : mth l MX11_wordLetter.th 106 [.ref 0, .int (a1)] S nIB px) : mtW l WL_wordLetter 106 [.ref 0, .int (a1), .ref 104] S (fun v S1 => v = some (.int (nI 1)) ∧ px S1) := by
  refine mtW_of (by decide) (Nat.le_of_ble_eq_true rfl) ?_
  intro x hl hR hmL C E hT hnc
  subst hl
  show GG x 106 0 0 [.ref 0, .int (a1), .ref 104, unk] [] S 0
  refine g_aload_n C dL_wordLetter_0 rfl ?_
  refine n_iconst C 0 dL_wordLetter_1 ?_
  refine g_aload_n C dL_wordLetter_2 rfl ?_
  refine g_iload_n C dL_wordLetter_3 rfl ?_
  refine g_catchN C hnc hT (As := [.int (a1)]) hM vo_L_48 dL_wordLetter_4 rfl rfl (by decide) rfl (rm_ok (M' := WL_wordLetter.1) hR (by decide)) (Nat.le_of_ble_eq_true rfl) [] [] ⟨0, 9, 12, 13⟩ rfl (fun _ h => absurd h List.not_mem_nil) (by decide) (by decide) clk_13 cst_IB (by rw [hmL]; decide) dL_wordLetter_12 [.ref 0, .int (a1), .ref 104, unk] rfl (fun S9 h9 => ?_)
  refine n_iconst C 1 dL_wordLetter_13 ?_
  exact g_iret C E dL_wordLetter_14 (by rw [hR]; decide) (by rw [hR]; decide) ⟨rfl, h9⟩
theorem vo_L_51 : VO RL 51 10 MX11_accepts 1 := ⟨_, ko_X11.1, tb_all _ [664, 665, 666, 55, 667] (by decide +kernel) (by decide +kernel), by decide +kernel⟩
abbrev WL_accepts : MeW := ((yL_accepts, cL_accepts, 4, some .int, { frames := 11, cells := 1, slots := 6, locals := 223 }), [(0, 16, 19, 13)])
set_option maxRecDepth 100000 in
theorem hr_accepts {l : Launch} {S : pv_M} {a1 : Int32} {P : Bool → pv_M → Prop} (hM : mt l MX11_accepts 106 [.ref 0, .int (a1)] S (fun v S' => ∃ c, v = some (.int (bI c)) ∧ P c S')) : mtW l WL_accepts 106 [.ref 0, .int (a1), .ref 104] S (fun v S1 => v = some (.int (nI 0)) ∧ ∃ c S0, P c S0 ∧ S1 = wJ S0 104 (va_up (mJ S0 104) 0 (bL c))) := by
  refine mtW_of (by decide) (Nat.le_of_ble_eq_true rfl) ?_
  intro x hl hR hmL C E hT hnc
  subst hl
  show GG x 106 0 0 [.ref 0, .int (a1), .ref 104, unk] [] S 0
  refine g_aload_n C dL_accepts_0 rfl ?_
  refine n_iconst C 0 dL_accepts_1 ?_
  refine g_aload_n C dL_accepts_2 rfl ?_
  refine g_iload_n C dL_accepts_3 rfl ?_
  refine g_callV C (As := [.int (a1)]) hM vo_L_51 dL_accepts_4 rfl rfl (by decide) rfl (rm_ok (M' := WL_accepts.1) hR (by decide)) (Nat.le_of_ble_eq_true rfl) (fun v9 S9 h9 => ?_)
  obtain ⟨a9, rfl, h9⟩ := h9
  refine g_n0 [.int (bI (a9)), .int (nI (0)), .ref 104] rfl rfl rfl ?_
  refine b_if_eq C 14 dL_accepts_7 (fun h7 => ?_) (fun h7 => ?_)
  · refine g_lconst C 0 dL_accepts_14 (by decide) ?_
    refine g_last C dL_accepts_15 rfl (by decide) (by omega) rfl ?_
    refine g_goto C 22 dL_accepts_16 (by decide) ?_
    refine n_iconst C 0 dL_accepts_22 ?_
    exact g_iret C E dL_accepts_23 (by rw [hR]; decide) (by rw [hR]; decide) ⟨rfl, a9, S9, h9, by rw [h7]; rfl⟩
  · refine g_lconst C 1 dL_accepts_10 (by decide) ?_
    refine g_goto C 15 dL_accepts_11 (by decide) ?_
    refine g_last C dL_accepts_15 rfl (by decide) (by omega) rfl ?_
    refine g_goto C 22 dL_accepts_16 (by decide) ?_
    refine n_iconst C 0 dL_accepts_22 ?_
    exact g_iret C E dL_accepts_23 (by rw [hR]; decide) (by rw [hR]; decide) ⟨rfl, a9, S9, h9, by rw [h7]; rfl⟩
set_option maxRecDepth 100000 in
theorem ht_accepts_IB {l : Launch} {S : pv_M} {a1 : Int32} {px : pv_M → Prop} (hM : mth l MX11_accepts.th 106 [.ref 0, .int (a1)] S nIB px) : mtW l WL_accepts 106 [.ref 0, .int (a1), .ref 104] S (fun v S1 => v = some (.int (nI 1)) ∧ px S1) := by
  refine mtW_of (by decide) (Nat.le_of_ble_eq_true rfl) ?_
  intro x hl hR hmL C E hT hnc
  subst hl
  show GG x 106 0 0 [.ref 0, .int (a1), .ref 104, unk] [] S 0
  refine g_aload_n C dL_accepts_0 rfl ?_
  refine n_iconst C 0 dL_accepts_1 ?_
  refine g_aload_n C dL_accepts_2 rfl ?_
  refine g_iload_n C dL_accepts_3 rfl ?_
  refine g_catchN C hnc hT (As := [.int (a1)]) hM vo_L_51 dL_accepts_4 rfl rfl (by decide) rfl (rm_ok (M' := WL_accepts.1) hR (by decide)) (Nat.le_of_ble_eq_true rfl) [] [] ⟨0, 16, 19, 13⟩ rfl (fun _ h => absurd h List.not_mem_nil) (by decide) (by decide) clk_13 cst_IB (by rw [hmL]; decide) dL_accepts_19 [.ref 0, .int (a1), .ref 104, unk] rfl (fun S9 h9 => ?_)
  refine n_iconst C 1 dL_accepts_20 ?_
  exact g_iret C E dL_accepts_21 (by rw [hR]; decide) (by rw [hR]; decide) ⟨rfl, h9⟩
theorem vo_L_55 : VO RL 55 10 MX11_size 1 := ⟨_, ko_X11.1, tb_all _ [676, 677, 678, 55, 679] (by decide +kernel) (by decide +kernel), by decide +kernel⟩
abbrev WL_size : MeW := ((yL_size, cL_size, 4, some .int, { frames := 11, cells := 1, slots := 6, locals := 222 }), [(0, 9, 12, 13)])
set_option maxRecDepth 100000 in
theorem hr_size {l : Launch} {S : pv_M} {a1 : Int32} {P : Int32 → pv_M → Prop} (hM : mt l MX11_size 106 [.ref 0, .int (a1)] S (fun v S' => ∃ a, v = some (.int a) ∧ P a S')) : mtW l WL_size 106 [.ref 0, .int (a1), .ref 104] S (fun v S1 => v = some (.int (nI 0)) ∧ ∃ a S0, P a S0 ∧ S1 = wJ S0 104 (va_up (mJ S0 104) 0 a.toInt64)) := by
  refine mtW_of (by decide) (Nat.le_of_ble_eq_true rfl) ?_
  intro x hl hR hmL C E hT hnc
  subst hl
  show GG x 106 0 0 [.ref 0, .int (a1), .ref 104, unk] [] S 0
  refine g_aload_n C dL_size_0 rfl ?_
  refine n_iconst C 0 dL_size_1 ?_
  refine g_aload_n C dL_size_2 rfl ?_
  refine g_iload_n C dL_size_3 rfl ?_
  refine g_callV C (As := [.int (a1)]) hM vo_L_55 dL_size_4 rfl rfl (by decide) rfl (rm_ok (M' := WL_size.1) hR (by decide)) (Nat.le_of_ble_eq_true rfl) (fun v9 S9 h9 => ?_)
  obtain ⟨a9, rfl, h9⟩ := h9
  refine g_n0 [.int (a9), .int (nI (0)), .ref 104] rfl rfl rfl ?_
  refine g_i2l C dL_size_7 ?_
  refine g_last C dL_size_8 rfl (by decide) (by omega) rfl ?_
  refine g_goto C 15 dL_size_9 (by decide) ?_
  refine n_iconst C 0 dL_size_15 ?_
  exact g_iret C E dL_size_16 (by rw [hR]; decide) (by rw [hR]; decide) ⟨rfl, a9, S9, h9, rfl⟩
set_option maxRecDepth 100000 in
theorem ht_size_IB {l : Launch} {S : pv_M} {a1 : Int32} {px : pv_M → Prop} (hM : mth l MX11_size.th 106 [.ref 0, .int (a1)] S nIB px) : mtW l WL_size 106 [.ref 0, .int (a1), .ref 104] S (fun v S1 => v = some (.int (nI 1)) ∧ px S1) := by
  refine mtW_of (by decide) (Nat.le_of_ble_eq_true rfl) ?_
  intro x hl hR hmL C E hT hnc
  subst hl
  show GG x 106 0 0 [.ref 0, .int (a1), .ref 104, unk] [] S 0
  refine g_aload_n C dL_size_0 rfl ?_
  refine n_iconst C 0 dL_size_1 ?_
  refine g_aload_n C dL_size_2 rfl ?_
  refine g_iload_n C dL_size_3 rfl ?_
  refine g_catchN C hnc hT (As := [.int (a1)]) hM vo_L_55 dL_size_4 rfl rfl (by decide) rfl (rm_ok (M' := WL_size.1) hR (by decide)) (Nat.le_of_ble_eq_true rfl) [] [] ⟨0, 9, 12, 13⟩ rfl (fun _ h => absurd h List.not_mem_nil) (by decide) (by decide) clk_13 cst_IB (by rw [hmL]; decide) dL_size_12 [.ref 0, .int (a1), .ref 104, unk] rfl (fun S9 h9 => ?_)
  refine n_iconst C 1 dL_size_13 ?_
  exact g_iret C E dL_size_14 (by rw [hR]; decide) (by rw [hR]; decide) ⟨rfl, h9⟩
theorem vo_L_58 : VO RL 58 10 MX11_minimize 1 := ⟨_, ko_X11.1, tb_all _ [799, 800, 801, 55, 802] (by decide +kernel) (by decide +kernel), by decide +kernel⟩
abbrev WL_minimize : MeW := ((yL_minimize, cL_minimize, 4, some .int, { frames := 11, cells := 1, slots := 6, locals := 222 }), [(0, 9, 12, 13)])
set_option maxRecDepth 100000 in
theorem hr_minimize {l : Launch} {S : pv_M} {a1 : Int32} {P : Int32 → pv_M → Prop} (hM : mt l MX11_minimize 106 [.ref 0, .int (a1)] S (fun v S' => ∃ a, v = some (.int a) ∧ P a S')) : mtW l WL_minimize 106 [.ref 0, .int (a1), .ref 104] S (fun v S1 => v = some (.int (nI 0)) ∧ ∃ a S0, P a S0 ∧ S1 = wJ S0 104 (va_up (mJ S0 104) 0 a.toInt64)) := by
  refine mtW_of (by decide) (Nat.le_of_ble_eq_true rfl) ?_
  intro x hl hR hmL C E hT hnc
  subst hl
  show GG x 106 0 0 [.ref 0, .int (a1), .ref 104, unk] [] S 0
  refine g_aload_n C dL_minimize_0 rfl ?_
  refine n_iconst C 0 dL_minimize_1 ?_
  refine g_aload_n C dL_minimize_2 rfl ?_
  refine g_iload_n C dL_minimize_3 rfl ?_
  refine g_callV C (As := [.int (a1)]) hM vo_L_58 dL_minimize_4 rfl rfl (by decide) rfl (rm_ok (M' := WL_minimize.1) hR (by decide)) (Nat.le_of_ble_eq_true rfl) (fun v9 S9 h9 => ?_)
  obtain ⟨a9, rfl, h9⟩ := h9
  refine g_n0 [.int (a9), .int (nI (0)), .ref 104] rfl rfl rfl ?_
  refine g_i2l C dL_minimize_7 ?_
  refine g_last C dL_minimize_8 rfl (by decide) (by omega) rfl ?_
  refine g_goto C 15 dL_minimize_9 (by decide) ?_
  refine n_iconst C 0 dL_minimize_15 ?_
  exact g_iret C E dL_minimize_16 (by rw [hR]; decide) (by rw [hR]; decide) ⟨rfl, a9, S9, h9, rfl⟩
set_option maxRecDepth 100000 in
theorem ht_minimize_IB {l : Launch} {S : pv_M} {a1 : Int32} {px : pv_M → Prop} (hM : mth l MX11_minimize.th 106 [.ref 0, .int (a1)] S nIB px) : mtW l WL_minimize 106 [.ref 0, .int (a1), .ref 104] S (fun v S1 => v = some (.int (nI 1)) ∧ px S1) := by
  refine mtW_of (by decide) (Nat.le_of_ble_eq_true rfl) ?_
  intro x hl hR hmL C E hT hnc
  subst hl
  show GG x 106 0 0 [.ref 0, .int (a1), .ref 104, unk] [] S 0
  refine g_aload_n C dL_minimize_0 rfl ?_
  refine n_iconst C 0 dL_minimize_1 ?_
  refine g_aload_n C dL_minimize_2 rfl ?_
  refine g_iload_n C dL_minimize_3 rfl ?_
  refine g_catchN C hnc hT (As := [.int (a1)]) hM vo_L_58 dL_minimize_4 rfl rfl (by decide) rfl (rm_ok (M' := WL_minimize.1) hR (by decide)) (Nat.le_of_ble_eq_true rfl) [] [] ⟨0, 9, 12, 13⟩ rfl (fun _ h => absurd h List.not_mem_nil) (by decide) (by decide) clk_13 cst_IB (by rw [hmL]; decide) dL_minimize_12 [.ref 0, .int (a1), .ref 104, unk] rfl (fun S9 h9 => ?_)
  refine n_iconst C 1 dL_minimize_13 ?_
  exact g_iret C E dL_minimize_14 (by rw [hR]; decide) (by rw [hR]; decide) ⟨rfl, h9⟩
theorem vo_L_61 : VO RL 61 10 MX11_quotientOfWord 1 := ⟨_, ko_X11.1, tb_all _ [813, 814, 815, 55, 816] (by decide +kernel) (by decide +kernel), by decide +kernel⟩
abbrev WL_quotientOfWord : MeW := ((yL_quotientOfWord, cL_quotientOfWord, 4, some .int, { frames := 11, cells := 1, slots := 6, locals := 222 }), [(0, 9, 12, 13)])
set_option maxRecDepth 100000 in
theorem hr_quotientOfWord {l : Launch} {S : pv_M} {a1 : Int32} {P : Int32 → pv_M → Prop} (hM : mt l MX11_quotientOfWord 106 [.ref 0, .int (a1)] S (fun v S' => ∃ a, v = some (.int a) ∧ P a S')) : mtW l WL_quotientOfWord 106 [.ref 0, .int (a1), .ref 104] S (fun v S1 => v = some (.int (nI 0)) ∧ ∃ a S0, P a S0 ∧ S1 = wJ S0 104 (va_up (mJ S0 104) 0 a.toInt64)) := by
  refine mtW_of (by decide) (Nat.le_of_ble_eq_true rfl) ?_
  intro x hl hR hmL C E hT hnc
  subst hl
  show GG x 106 0 0 [.ref 0, .int (a1), .ref 104, unk] [] S 0
  refine g_aload_n C dL_quotientOfWord_0 rfl ?_
  refine n_iconst C 0 dL_quotientOfWord_1 ?_
  refine g_aload_n C dL_quotientOfWord_2 rfl ?_
  refine g_iload_n C dL_quotientOfWord_3 rfl ?_
  refine g_callV C (As := [.int (a1)]) hM vo_L_61 dL_quotientOfWord_4 rfl rfl (by decide) rfl (rm_ok (M' := WL_quotientOfWord.1) hR (by decide)) (Nat.le_of_ble_eq_true rfl) (fun v9 S9 h9 => ?_)
  obtain ⟨a9, rfl, h9⟩ := h9
  refine g_n0 [.int (a9), .int (nI (0)), .ref 104] rfl rfl rfl ?_
  refine g_i2l C dL_quotientOfWord_7 ?_
  refine g_last C dL_quotientOfWord_8 rfl (by decide) (by omega) rfl ?_
  refine g_goto C 15 dL_quotientOfWord_9 (by decide) ?_
  refine n_iconst C 0 dL_quotientOfWord_15 ?_
  exact g_iret C E dL_quotientOfWord_16 (by rw [hR]; decide) (by rw [hR]; decide) ⟨rfl, a9, S9, h9, rfl⟩
set_option maxRecDepth 100000 in
theorem ht_quotientOfWord_IB {l : Launch} {S : pv_M} {a1 : Int32} {px : pv_M → Prop} (hM : mth l MX11_quotientOfWord.th 106 [.ref 0, .int (a1)] S nIB px) : mtW l WL_quotientOfWord 106 [.ref 0, .int (a1), .ref 104] S (fun v S1 => v = some (.int (nI 1)) ∧ px S1) := by
  refine mtW_of (by decide) (Nat.le_of_ble_eq_true rfl) ?_
  intro x hl hR hmL C E hT hnc
  subst hl
  show GG x 106 0 0 [.ref 0, .int (a1), .ref 104, unk] [] S 0
  refine g_aload_n C dL_quotientOfWord_0 rfl ?_
  refine n_iconst C 0 dL_quotientOfWord_1 ?_
  refine g_aload_n C dL_quotientOfWord_2 rfl ?_
  refine g_iload_n C dL_quotientOfWord_3 rfl ?_
  refine g_catchN C hnc hT (As := [.int (a1)]) hM vo_L_61 dL_quotientOfWord_4 rfl rfl (by decide) rfl (rm_ok (M' := WL_quotientOfWord.1) hR (by decide)) (Nat.le_of_ble_eq_true rfl) [] [] ⟨0, 9, 12, 13⟩ rfl (fun _ h => absurd h List.not_mem_nil) (by decide) (by decide) clk_13 cst_IB (by rw [hmL]; decide) dL_quotientOfWord_12 [.ref 0, .int (a1), .ref 104, unk] rfl (fun S9 h9 => ?_)
  refine n_iconst C 1 dL_quotientOfWord_13 ?_
  exact g_iret C E dL_quotientOfWord_14 (by rw [hR]; decide) (by rw [hR]; decide) ⟨rfl, h9⟩
theorem vo_L_64 : VO RL 64 10 MX11_atomCount 1 := ⟨_, ko_X11.1, tb_all _ [820, 821, 822, 55, 823] (by decide +kernel) (by decide +kernel), by decide +kernel⟩
abbrev WL_atomCount : MeW := ((yL_atomCount, cL_atomCount, 4, some .int, { frames := 12, cells := 1, slots := 6, locals := 243 }), [(0, 9, 12, 13)])
set_option maxRecDepth 100000 in
theorem hr_atomCount {l : Launch} {S : pv_M} {a1 : Int32} {P : Int32 → pv_M → Prop} (hM : mt l MX11_atomCount 106 [.ref 0, .int (a1)] S (fun v S' => ∃ a, v = some (.int a) ∧ P a S')) : mtW l WL_atomCount 106 [.ref 0, .int (a1), .ref 104] S (fun v S1 => v = some (.int (nI 0)) ∧ ∃ a S0, P a S0 ∧ S1 = wJ S0 104 (va_up (mJ S0 104) 0 a.toInt64)) := by
  refine mtW_of (by decide) (Nat.le_of_ble_eq_true rfl) ?_
  intro x hl hR hmL C E hT hnc
  subst hl
  show GG x 106 0 0 [.ref 0, .int (a1), .ref 104, unk] [] S 0
  refine g_aload_n C dL_atomCount_0 rfl ?_
  refine n_iconst C 0 dL_atomCount_1 ?_
  refine g_aload_n C dL_atomCount_2 rfl ?_
  refine g_iload_n C dL_atomCount_3 rfl ?_
  refine g_callV C (As := [.int (a1)]) hM vo_L_64 dL_atomCount_4 rfl rfl (by decide) rfl (rm_ok (M' := WL_atomCount.1) hR (by decide)) (Nat.le_of_ble_eq_true rfl) (fun v9 S9 h9 => ?_)
  obtain ⟨a9, rfl, h9⟩ := h9
  refine g_n0 [.int (a9), .int (nI (0)), .ref 104] rfl rfl rfl ?_
  refine g_i2l C dL_atomCount_7 ?_
  refine g_last C dL_atomCount_8 rfl (by decide) (by omega) rfl ?_
  refine g_goto C 15 dL_atomCount_9 (by decide) ?_
  refine n_iconst C 0 dL_atomCount_15 ?_
  exact g_iret C E dL_atomCount_16 (by rw [hR]; decide) (by rw [hR]; decide) ⟨rfl, a9, S9, h9, rfl⟩
set_option maxRecDepth 100000 in
theorem ht_atomCount_IB {l : Launch} {S : pv_M} {a1 : Int32} {px : pv_M → Prop} (hM : mth l MX11_atomCount.th 106 [.ref 0, .int (a1)] S nIB px) : mtW l WL_atomCount 106 [.ref 0, .int (a1), .ref 104] S (fun v S1 => v = some (.int (nI 1)) ∧ px S1) := by
  refine mtW_of (by decide) (Nat.le_of_ble_eq_true rfl) ?_
  intro x hl hR hmL C E hT hnc
  subst hl
  show GG x 106 0 0 [.ref 0, .int (a1), .ref 104, unk] [] S 0
  refine g_aload_n C dL_atomCount_0 rfl ?_
  refine n_iconst C 0 dL_atomCount_1 ?_
  refine g_aload_n C dL_atomCount_2 rfl ?_
  refine g_iload_n C dL_atomCount_3 rfl ?_
  refine g_catchN C hnc hT (As := [.int (a1)]) hM vo_L_64 dL_atomCount_4 rfl rfl (by decide) rfl (rm_ok (M' := WL_atomCount.1) hR (by decide)) (Nat.le_of_ble_eq_true rfl) [] [] ⟨0, 9, 12, 13⟩ rfl (fun _ h => absurd h List.not_mem_nil) (by decide) (by decide) clk_13 cst_IB (by rw [hmL]; decide) dL_atomCount_12 [.ref 0, .int (a1), .ref 104, unk] rfl (fun S9 h9 => ?_)
  refine n_iconst C 1 dL_atomCount_13 ?_
  exact g_iret C E dL_atomCount_14 (by rw [hR]; decide) (by rw [hR]; decide) ⟨rfl, h9⟩
theorem vo_L_67 : VO RL 67 10 MX11_atomSet 2 := ⟨_, ko_X11.1, tb_all _ [854, 855, 856, 55, 857] (by decide +kernel) (by decide +kernel), by decide +kernel⟩
abbrev WL_atomSet : MeW := ((yL_atomSet, cL_atomSet, 5, some .int, { frames := 12, cells := 1, slots := 6, locals := 244 }), [(0, 10, 13, 13)])
set_option maxRecDepth 100000 in
theorem hr_atomSet {l : Launch} {S : pv_M} {a1 : Int32} {a2 : Int32} {P : Int32 → pv_M → Prop} (hM : mt l MX11_atomSet 106 [.ref 0, .int (a1), .int (a2)] S (fun v S' => ∃ a, v = some (.int a) ∧ P a S')) : mtW l WL_atomSet 106 [.ref 0, .int (a1), .int (a2), .ref 104] S (fun v S1 => v = some (.int (nI 0)) ∧ ∃ a S0, P a S0 ∧ S1 = wJ S0 104 (va_up (mJ S0 104) 0 a.toInt64)) := by
  refine mtW_of (by decide) (Nat.le_of_ble_eq_true rfl) ?_
  intro x hl hR hmL C E hT hnc
  subst hl
  show GG x 106 0 0 [.ref 0, .int (a1), .int (a2), .ref 104, unk] [] S 0
  refine g_aload_n C dL_atomSet_0 rfl ?_
  refine n_iconst C 0 dL_atomSet_1 ?_
  refine g_aload_n C dL_atomSet_2 rfl ?_
  refine g_iload_n C dL_atomSet_3 rfl ?_
  refine g_iload_n C dL_atomSet_4 rfl ?_
  refine g_callV C (As := [.int (a1), .int (a2)]) hM vo_L_67 dL_atomSet_5 rfl rfl (by decide) rfl (rm_ok (M' := WL_atomSet.1) hR (by decide)) (Nat.le_of_ble_eq_true rfl) (fun v9 S9 h9 => ?_)
  obtain ⟨a9, rfl, h9⟩ := h9
  refine g_n0 [.int (a9), .int (nI (0)), .ref 104] rfl rfl rfl ?_
  refine g_i2l C dL_atomSet_8 ?_
  refine g_last C dL_atomSet_9 rfl (by decide) (by omega) rfl ?_
  refine g_goto C 17 dL_atomSet_10 (by decide) ?_
  refine n_iconst C 0 dL_atomSet_17 ?_
  exact g_iret C E dL_atomSet_18 (by rw [hR]; decide) (by rw [hR]; decide) ⟨rfl, a9, S9, h9, rfl⟩
set_option maxRecDepth 100000 in
theorem ht_atomSet_IB {l : Launch} {S : pv_M} {a1 : Int32} {a2 : Int32} {px : pv_M → Prop} (hM : mth l MX11_atomSet.th 106 [.ref 0, .int (a1), .int (a2)] S nIB px) : mtW l WL_atomSet 106 [.ref 0, .int (a1), .int (a2), .ref 104] S (fun v S1 => v = some (.int (nI 1)) ∧ px S1) := by
  refine mtW_of (by decide) (Nat.le_of_ble_eq_true rfl) ?_
  intro x hl hR hmL C E hT hnc
  subst hl
  show GG x 106 0 0 [.ref 0, .int (a1), .int (a2), .ref 104, unk] [] S 0
  refine g_aload_n C dL_atomSet_0 rfl ?_
  refine n_iconst C 0 dL_atomSet_1 ?_
  refine g_aload_n C dL_atomSet_2 rfl ?_
  refine g_iload_n C dL_atomSet_3 rfl ?_
  refine g_iload_n C dL_atomSet_4 rfl ?_
  refine g_catchA C hnc hT (As := [.int (a1), .int (a2)]) hM vo_L_67 dL_atomSet_5 rfl rfl (by decide) rfl (rm_ok (M' := WL_atomSet.1) hR (by decide)) (Nat.le_of_ble_eq_true rfl) [] [] ⟨0, 10, 13, 13⟩ rfl (fun _ h => absurd h List.not_mem_nil) (by decide) (by decide) clk_13 cst_IB (by rw [hmL]; decide) dL_atomSet_13 [.ref 0, .int (a1), .int (a2), .ref 104, unk] rfl (fun S9 h9 => ?_)
  refine n_iconst C 1 dL_atomSet_15 ?_
  exact g_iret C E dL_atomSet_16 (by rw [hR]; decide) (by rw [hR]; decide) ⟨rfl, h9⟩
theorem vo_L_71 : VO RL 71 10 MX11_atomOfWord 1 := ⟨_, ko_X11.1, tb_all _ [865, 866, 867, 55, 868] (by decide +kernel) (by decide +kernel), by decide +kernel⟩
abbrev WL_atomOfWord : MeW := ((yL_atomOfWord, cL_atomOfWord, 4, some .int, { frames := 12, cells := 1, slots := 6, locals := 243 }), [(0, 9, 12, 13)])
set_option maxRecDepth 100000 in
theorem hr_atomOfWord {l : Launch} {S : pv_M} {a1 : Int32} {P : Int32 → pv_M → Prop} (hM : mt l MX11_atomOfWord 106 [.ref 0, .int (a1)] S (fun v S' => ∃ a, v = some (.int a) ∧ P a S')) : mtW l WL_atomOfWord 106 [.ref 0, .int (a1), .ref 104] S (fun v S1 => v = some (.int (nI 0)) ∧ ∃ a S0, P a S0 ∧ S1 = wJ S0 104 (va_up (mJ S0 104) 0 a.toInt64)) := by
  refine mtW_of (by decide) (Nat.le_of_ble_eq_true rfl) ?_
  intro x hl hR hmL C E hT hnc
  subst hl
  show GG x 106 0 0 [.ref 0, .int (a1), .ref 104, unk] [] S 0
  refine g_aload_n C dL_atomOfWord_0 rfl ?_
  refine n_iconst C 0 dL_atomOfWord_1 ?_
  refine g_aload_n C dL_atomOfWord_2 rfl ?_
  refine g_iload_n C dL_atomOfWord_3 rfl ?_
  refine g_callV C (As := [.int (a1)]) hM vo_L_71 dL_atomOfWord_4 rfl rfl (by decide) rfl (rm_ok (M' := WL_atomOfWord.1) hR (by decide)) (Nat.le_of_ble_eq_true rfl) (fun v9 S9 h9 => ?_)
  obtain ⟨a9, rfl, h9⟩ := h9
  refine g_n0 [.int (a9), .int (nI (0)), .ref 104] rfl rfl rfl ?_
  refine g_i2l C dL_atomOfWord_7 ?_
  refine g_last C dL_atomOfWord_8 rfl (by decide) (by omega) rfl ?_
  refine g_goto C 15 dL_atomOfWord_9 (by decide) ?_
  refine n_iconst C 0 dL_atomOfWord_15 ?_
  exact g_iret C E dL_atomOfWord_16 (by rw [hR]; decide) (by rw [hR]; decide) ⟨rfl, a9, S9, h9, rfl⟩
set_option maxRecDepth 100000 in
theorem ht_atomOfWord_IB {l : Launch} {S : pv_M} {a1 : Int32} {px : pv_M → Prop} (hM : mth l MX11_atomOfWord.th 106 [.ref 0, .int (a1)] S nIB px) : mtW l WL_atomOfWord 106 [.ref 0, .int (a1), .ref 104] S (fun v S1 => v = some (.int (nI 1)) ∧ px S1) := by
  refine mtW_of (by decide) (Nat.le_of_ble_eq_true rfl) ?_
  intro x hl hR hmL C E hT hnc
  subst hl
  show GG x 106 0 0 [.ref 0, .int (a1), .ref 104, unk] [] S 0
  refine g_aload_n C dL_atomOfWord_0 rfl ?_
  refine n_iconst C 0 dL_atomOfWord_1 ?_
  refine g_aload_n C dL_atomOfWord_2 rfl ?_
  refine g_iload_n C dL_atomOfWord_3 rfl ?_
  refine g_catchN C hnc hT (As := [.int (a1)]) hM vo_L_71 dL_atomOfWord_4 rfl rfl (by decide) rfl (rm_ok (M' := WL_atomOfWord.1) hR (by decide)) (Nat.le_of_ble_eq_true rfl) [] [] ⟨0, 9, 12, 13⟩ rfl (fun _ h => absurd h List.not_mem_nil) (by decide) (by decide) clk_13 cst_IB (by rw [hmL]; decide) dL_atomOfWord_12 [.ref 0, .int (a1), .ref 104, unk] rfl (fun S9 h9 => ?_)
  refine n_iconst C 1 dL_atomOfWord_13 ?_
  exact g_iret C E dL_atomOfWord_14 (by rw [hR]; decide) (by rw [hR]; decide) ⟨rfl, h9⟩
theorem vo_L_74 : VO RL 74 10 MX11_atomTargets 3 := ⟨_, ko_X11.1, tb_all _ [886, 887, 888, 55, 889] (by decide +kernel) (by decide +kernel), by decide +kernel⟩
abbrev WL_atomTargets : MeW := ((yL_atomTargets, cL_atomTargets, 6, some .int, { frames := 12, cells := 1, slots := 6, locals := 245 }), [(0, 11, 14, 13)])
set_option maxRecDepth 100000 in
theorem hr_atomTargets {l : Launch} {S : pv_M} {a1 : Int32} {a2 : Int32} {a3 : Int32} {P : Int64 → pv_M → Prop} (hM : mt l MX11_atomTargets 106 [.ref 0, .int (a1), .int (a2), .int (a3)] S (fun v S' => ∃ a, v = some (.long a) ∧ P a S')) : mtW l WL_atomTargets 106 [.ref 0, .int (a1), .int (a2), .int (a3), .ref 104] S (fun v S1 => v = some (.int (nI 0)) ∧ ∃ a S0, P a S0 ∧ S1 = wJ S0 104 (va_up (mJ S0 104) 0 a)) := by
  refine mtW_of (by decide) (Nat.le_of_ble_eq_true rfl) ?_
  intro x hl hR hmL C E hT hnc
  subst hl
  show GG x 106 0 0 [.ref 0, .int (a1), .int (a2), .int (a3), .ref 104, unk] [] S 0
  refine g_aload C dL_atomTargets_0 rfl ?_
  refine n_iconst C 0 dL_atomTargets_2 ?_
  refine g_aload_n C dL_atomTargets_3 rfl ?_
  refine g_iload_n C dL_atomTargets_4 rfl ?_
  refine g_iload_n C dL_atomTargets_5 rfl ?_
  refine g_iload_n C dL_atomTargets_6 rfl ?_
  refine g_callV C (As := [.int (a1), .int (a2), .int (a3)]) hM vo_L_74 dL_atomTargets_7 rfl rfl (by decide) rfl (rm_ok (M' := WL_atomTargets.1) hR (by decide)) (Nat.le_of_ble_eq_true rfl) (fun v9 S9 h9 => ?_)
  obtain ⟨a9, rfl, h9⟩ := h9
  refine g_n0 [.long (a9), .int (nI (0)), .ref 104] rfl rfl rfl ?_
  refine g_last C dL_atomTargets_10 rfl (by decide) (by omega) rfl ?_
  refine g_goto C 18 dL_atomTargets_11 (by decide) ?_
  refine n_iconst C 0 dL_atomTargets_18 ?_
  exact g_iret C E dL_atomTargets_19 (by rw [hR]; decide) (by rw [hR]; decide) ⟨rfl, a9, S9, h9, rfl⟩
set_option maxRecDepth 100000 in
theorem ht_atomTargets_IB {l : Launch} {S : pv_M} {a1 : Int32} {a2 : Int32} {a3 : Int32} {px : pv_M → Prop} (hM : mth l MX11_atomTargets.th 106 [.ref 0, .int (a1), .int (a2), .int (a3)] S nIB px) : mtW l WL_atomTargets 106 [.ref 0, .int (a1), .int (a2), .int (a3), .ref 104] S (fun v S1 => v = some (.int (nI 1)) ∧ px S1) := by
  refine mtW_of (by decide) (Nat.le_of_ble_eq_true rfl) ?_
  intro x hl hR hmL C E hT hnc
  subst hl
  show GG x 106 0 0 [.ref 0, .int (a1), .int (a2), .int (a3), .ref 104, unk] [] S 0
  refine g_aload C dL_atomTargets_0 rfl ?_
  refine n_iconst C 0 dL_atomTargets_2 ?_
  refine g_aload_n C dL_atomTargets_3 rfl ?_
  refine g_iload_n C dL_atomTargets_4 rfl ?_
  refine g_iload_n C dL_atomTargets_5 rfl ?_
  refine g_iload_n C dL_atomTargets_6 rfl ?_
  refine g_catchA C hnc hT (As := [.int (a1), .int (a2), .int (a3)]) hM vo_L_74 dL_atomTargets_7 rfl rfl (by decide) rfl (rm_ok (M' := WL_atomTargets.1) hR (by decide)) (Nat.le_of_ble_eq_true rfl) [] [] ⟨0, 11, 14, 13⟩ rfl (fun _ h => absurd h List.not_mem_nil) (by decide) (by decide) clk_13 cst_IB (by rw [hmL]; decide) dL_atomTargets_14 [.ref 0, .int (a1), .int (a2), .int (a3), .ref 104, unk] rfl (fun S9 h9 => ?_)
  refine n_iconst C 1 dL_atomTargets_16 ?_
  exact g_iret C E dL_atomTargets_17 (by rw [hR]; decide) (by rw [hR]; decide) ⟨rfl, h9⟩
theorem vo_L_78 : VO RL 78 10 MX11_initialAtoms 1 := ⟨_, ko_X11.1, tb_all _ [898, 899, 900, 55, 901] (by decide +kernel) (by decide +kernel), by decide +kernel⟩
abbrev WL_initialAtoms : MeW := ((yL_initialAtoms, cL_initialAtoms, 4, some .int, { frames := 12, cells := 1, slots := 6, locals := 243 }), [(0, 8, 11, 13)])
set_option maxRecDepth 100000 in
theorem hr_initialAtoms {l : Launch} {S : pv_M} {a1 : Int32} {P : Int64 → pv_M → Prop} (hM : mt l MX11_initialAtoms 106 [.ref 0, .int (a1)] S (fun v S' => ∃ a, v = some (.long a) ∧ P a S')) : mtW l WL_initialAtoms 106 [.ref 0, .int (a1), .ref 104] S (fun v S1 => v = some (.int (nI 0)) ∧ ∃ a S0, P a S0 ∧ S1 = wJ S0 104 (va_up (mJ S0 104) 0 a)) := by
  refine mtW_of (by decide) (Nat.le_of_ble_eq_true rfl) ?_
  intro x hl hR hmL C E hT hnc
  subst hl
  show GG x 106 0 0 [.ref 0, .int (a1), .ref 104, unk] [] S 0
  refine g_aload_n C dL_initialAtoms_0 rfl ?_
  refine n_iconst C 0 dL_initialAtoms_1 ?_
  refine g_aload_n C dL_initialAtoms_2 rfl ?_
  refine g_iload_n C dL_initialAtoms_3 rfl ?_
  refine g_callV C (As := [.int (a1)]) hM vo_L_78 dL_initialAtoms_4 rfl rfl (by decide) rfl (rm_ok (M' := WL_initialAtoms.1) hR (by decide)) (Nat.le_of_ble_eq_true rfl) (fun v9 S9 h9 => ?_)
  obtain ⟨a9, rfl, h9⟩ := h9
  refine g_n0 [.long (a9), .int (nI (0)), .ref 104] rfl rfl rfl ?_
  refine g_last C dL_initialAtoms_7 rfl (by decide) (by omega) rfl ?_
  refine g_goto C 14 dL_initialAtoms_8 (by decide) ?_
  refine n_iconst C 0 dL_initialAtoms_14 ?_
  exact g_iret C E dL_initialAtoms_15 (by rw [hR]; decide) (by rw [hR]; decide) ⟨rfl, a9, S9, h9, rfl⟩
set_option maxRecDepth 100000 in
theorem ht_initialAtoms_IB {l : Launch} {S : pv_M} {a1 : Int32} {px : pv_M → Prop} (hM : mth l MX11_initialAtoms.th 106 [.ref 0, .int (a1)] S nIB px) : mtW l WL_initialAtoms 106 [.ref 0, .int (a1), .ref 104] S (fun v S1 => v = some (.int (nI 1)) ∧ px S1) := by
  refine mtW_of (by decide) (Nat.le_of_ble_eq_true rfl) ?_
  intro x hl hR hmL C E hT hnc
  subst hl
  show GG x 106 0 0 [.ref 0, .int (a1), .ref 104, unk] [] S 0
  refine g_aload_n C dL_initialAtoms_0 rfl ?_
  refine n_iconst C 0 dL_initialAtoms_1 ?_
  refine g_aload_n C dL_initialAtoms_2 rfl ?_
  refine g_iload_n C dL_initialAtoms_3 rfl ?_
  refine g_catchN C hnc hT (As := [.int (a1)]) hM vo_L_78 dL_initialAtoms_4 rfl rfl (by decide) rfl (rm_ok (M' := WL_initialAtoms.1) hR (by decide)) (Nat.le_of_ble_eq_true rfl) [] [] ⟨0, 8, 11, 13⟩ rfl (fun _ h => absurd h List.not_mem_nil) (by decide) (by decide) clk_13 cst_IB (by rw [hmL]; decide) dL_initialAtoms_11 [.ref 0, .int (a1), .ref 104, unk] rfl (fun S9 h9 => ?_)
  refine n_iconst C 1 dL_initialAtoms_12 ?_
  exact g_iret C E dL_initialAtoms_13 (by rw [hR]; decide) (by rw [hR]; decide) ⟨rfl, h9⟩
theorem vo_L_82 : VO RL 82 10 MX11_finalAtom 1 := ⟨_, ko_X11.1, tb_all _ [910, 911, 912, 55, 913] (by decide +kernel) (by decide +kernel), by decide +kernel⟩
abbrev WL_finalAtom : MeW := ((yL_finalAtom, cL_finalAtom, 4, some .int, { frames := 12, cells := 1, slots := 6, locals := 243 }), [(0, 9, 12, 13)])
set_option maxRecDepth 100000 in
theorem hr_finalAtom {l : Launch} {S : pv_M} {a1 : Int32} {P : Int32 → pv_M → Prop} (hM : mt l MX11_finalAtom 106 [.ref 0, .int (a1)] S (fun v S' => ∃ a, v = some (.int a) ∧ P a S')) : mtW l WL_finalAtom 106 [.ref 0, .int (a1), .ref 104] S (fun v S1 => v = some (.int (nI 0)) ∧ ∃ a S0, P a S0 ∧ S1 = wJ S0 104 (va_up (mJ S0 104) 0 a.toInt64)) := by
  refine mtW_of (by decide) (Nat.le_of_ble_eq_true rfl) ?_
  intro x hl hR hmL C E hT hnc
  subst hl
  show GG x 106 0 0 [.ref 0, .int (a1), .ref 104, unk] [] S 0
  refine g_aload_n C dL_finalAtom_0 rfl ?_
  refine n_iconst C 0 dL_finalAtom_1 ?_
  refine g_aload_n C dL_finalAtom_2 rfl ?_
  refine g_iload_n C dL_finalAtom_3 rfl ?_
  refine g_callV C (As := [.int (a1)]) hM vo_L_82 dL_finalAtom_4 rfl rfl (by decide) rfl (rm_ok (M' := WL_finalAtom.1) hR (by decide)) (Nat.le_of_ble_eq_true rfl) (fun v9 S9 h9 => ?_)
  obtain ⟨a9, rfl, h9⟩ := h9
  refine g_n0 [.int (a9), .int (nI (0)), .ref 104] rfl rfl rfl ?_
  refine g_i2l C dL_finalAtom_7 ?_
  refine g_last C dL_finalAtom_8 rfl (by decide) (by omega) rfl ?_
  refine g_goto C 15 dL_finalAtom_9 (by decide) ?_
  refine n_iconst C 0 dL_finalAtom_15 ?_
  exact g_iret C E dL_finalAtom_16 (by rw [hR]; decide) (by rw [hR]; decide) ⟨rfl, a9, S9, h9, rfl⟩
set_option maxRecDepth 100000 in
theorem ht_finalAtom_IB {l : Launch} {S : pv_M} {a1 : Int32} {px : pv_M → Prop} (hM : mth l MX11_finalAtom.th 106 [.ref 0, .int (a1)] S nIB px) : mtW l WL_finalAtom 106 [.ref 0, .int (a1), .ref 104] S (fun v S1 => v = some (.int (nI 1)) ∧ px S1) := by
  refine mtW_of (by decide) (Nat.le_of_ble_eq_true rfl) ?_
  intro x hl hR hmL C E hT hnc
  subst hl
  show GG x 106 0 0 [.ref 0, .int (a1), .ref 104, unk] [] S 0
  refine g_aload_n C dL_finalAtom_0 rfl ?_
  refine n_iconst C 0 dL_finalAtom_1 ?_
  refine g_aload_n C dL_finalAtom_2 rfl ?_
  refine g_iload_n C dL_finalAtom_3 rfl ?_
  refine g_catchN C hnc hT (As := [.int (a1)]) hM vo_L_82 dL_finalAtom_4 rfl rfl (by decide) rfl (rm_ok (M' := WL_finalAtom.1) hR (by decide)) (Nat.le_of_ble_eq_true rfl) [] [] ⟨0, 9, 12, 13⟩ rfl (fun _ h => absurd h List.not_mem_nil) (by decide) (by decide) clk_13 cst_IB (by rw [hmL]; decide) dL_finalAtom_12 [.ref 0, .int (a1), .ref 104, unk] rfl (fun S9 h9 => ?_)
  refine n_iconst C 1 dL_finalAtom_13 ?_
  exact g_iret C E dL_finalAtom_14 (by rw [hR]; decide) (by rw [hR]; decide) ⟨rfl, h9⟩
theorem vo_L_85 : VO RL 85 10 MX11_takeAtomWord 2 := ⟨_, ko_X11.1, tb_all _ [918, 919, 920, 55, 921] (by decide +kernel) (by decide +kernel), by decide +kernel⟩
abbrev WL_takeAtomWord : MeW := ((yL_takeAtomWord, cL_takeAtomWord, 5, some .int, { frames := 12, cells := 1, slots := 6, locals := 245 }), [(0, 10, 13, 13), (0, 10, 17, 46)])
set_option maxRecDepth 100000 in
theorem hr_takeAtomWord {l : Launch} {S : pv_M} {a1 : Int32} {a2 : Int32} {P : Int32 → pv_M → Prop} (hM : mt l MX11_takeAtomWord 106 [.ref 0, .int (a1), .int (a2)] S (fun v S' => ∃ a, v = some (.int a) ∧ P a S')) : mtW l WL_takeAtomWord 106 [.ref 0, .int (a1), .int (a2), .ref 104] S (fun v S1 => v = some (.int (nI 0)) ∧ ∃ a S0, P a S0 ∧ S1 = wJ S0 104 (va_up (mJ S0 104) 0 a.toInt64)) := by
  refine mtW_of (by decide) (Nat.le_of_ble_eq_true rfl) ?_
  intro x hl hR hmL C E hT hnc
  subst hl
  show GG x 106 0 0 [.ref 0, .int (a1), .int (a2), .ref 104, unk] [] S 0
  refine g_aload_n C dL_takeAtomWord_0 rfl ?_
  refine n_iconst C 0 dL_takeAtomWord_1 ?_
  refine g_aload_n C dL_takeAtomWord_2 rfl ?_
  refine g_iload_n C dL_takeAtomWord_3 rfl ?_
  refine g_iload_n C dL_takeAtomWord_4 rfl ?_
  refine g_callV C (As := [.int (a1), .int (a2)]) hM vo_L_85 dL_takeAtomWord_5 rfl rfl (by decide) rfl (rm_ok (M' := WL_takeAtomWord.1) hR (by decide)) (Nat.le_of_ble_eq_true rfl) (fun v9 S9 h9 => ?_)
  obtain ⟨a9, rfl, h9⟩ := h9
  refine g_n0 [.int (a9), .int (nI (0)), .ref 104] rfl rfl rfl ?_
  refine g_i2l C dL_takeAtomWord_8 ?_
  refine g_last C dL_takeAtomWord_9 rfl (by decide) (by omega) rfl ?_
  refine g_goto C 21 dL_takeAtomWord_10 (by decide) ?_
  refine n_iconst C 0 dL_takeAtomWord_21 ?_
  exact g_iret C E dL_takeAtomWord_22 (by rw [hR]; decide) (by rw [hR]; decide) ⟨rfl, a9, S9, h9, rfl⟩
set_option maxRecDepth 100000 in
theorem ht_takeAtomWord_IB {l : Launch} {S : pv_M} {a1 : Int32} {a2 : Int32} {px : pv_M → Prop} (hM : mth l MX11_takeAtomWord.th 106 [.ref 0, .int (a1), .int (a2)] S nIB px) : mtW l WL_takeAtomWord 106 [.ref 0, .int (a1), .int (a2), .ref 104] S (fun v S1 => v = some (.int (nI 1)) ∧ px S1) := by
  refine mtW_of (by decide) (Nat.le_of_ble_eq_true rfl) ?_
  intro x hl hR hmL C E hT hnc
  subst hl
  show GG x 106 0 0 [.ref 0, .int (a1), .int (a2), .ref 104, unk] [] S 0
  refine g_aload_n C dL_takeAtomWord_0 rfl ?_
  refine n_iconst C 0 dL_takeAtomWord_1 ?_
  refine g_aload_n C dL_takeAtomWord_2 rfl ?_
  refine g_iload_n C dL_takeAtomWord_3 rfl ?_
  refine g_iload_n C dL_takeAtomWord_4 rfl ?_
  refine g_catchA C hnc hT (As := [.int (a1), .int (a2)]) hM vo_L_85 dL_takeAtomWord_5 rfl rfl (by decide) rfl (rm_ok (M' := WL_takeAtomWord.1) hR (by decide)) (Nat.le_of_ble_eq_true rfl) [] [⟨0, 10, 17, 46⟩] ⟨0, 10, 13, 13⟩ rfl (fun _ h => absurd h List.not_mem_nil) (by decide) (by decide) clk_13 cst_IB (by rw [hmL]; decide) dL_takeAtomWord_13 [.ref 0, .int (a1), .int (a2), .ref 104, unk] rfl (fun S9 h9 => ?_)
  refine n_iconst C 1 dL_takeAtomWord_15 ?_
  exact g_iret C E dL_takeAtomWord_16 (by rw [hR]; decide) (by rw [hR]; decide) ⟨rfl, h9⟩
set_option maxRecDepth 100000 in
theorem ht_takeAtomWord_IS {l : Launch} {S : pv_M} {a1 : Int32} {a2 : Int32} {px : pv_M → Prop} (hM : mth l MX11_takeAtomWord.th 106 [.ref 0, .int (a1), .int (a2)] S nIS px) : mtW l WL_takeAtomWord 106 [.ref 0, .int (a1), .int (a2), .ref 104] S (fun v S1 => v = some (.int (nI 2)) ∧ px S1) := by
  refine mtW_of (by decide) (Nat.le_of_ble_eq_true rfl) ?_
  intro x hl hR hmL C E hT hnc
  subst hl
  show GG x 106 0 0 [.ref 0, .int (a1), .int (a2), .ref 104, unk] [] S 0
  refine g_aload_n C dL_takeAtomWord_0 rfl ?_
  refine n_iconst C 0 dL_takeAtomWord_1 ?_
  refine g_aload_n C dL_takeAtomWord_2 rfl ?_
  refine g_iload_n C dL_takeAtomWord_3 rfl ?_
  refine g_iload_n C dL_takeAtomWord_4 rfl ?_
  refine g_catchA C hnc hT (As := [.int (a1), .int (a2)]) hM vo_L_85 dL_takeAtomWord_5 rfl rfl (by decide) rfl (rm_ok (M' := WL_takeAtomWord.1) hR (by decide)) (Nat.le_of_ble_eq_true rfl) [⟨0, 10, 13, 13⟩] [] ⟨0, 10, 17, 46⟩ rfl (List.forall_mem_cons.mpr ⟨⟨by decide, nIB, clk_13, by decide +kernel⟩, (fun _ h => absurd h List.not_mem_nil)⟩) (by decide) (by decide) clk_46 cst_IS (by rw [hmL]; decide) dL_takeAtomWord_17 [.ref 0, .int (a1), .int (a2), .ref 104, unk] rfl (fun S9 h9 => ?_)
  refine n_iconst C 2 dL_takeAtomWord_19 ?_
  exact g_iret C E dL_takeAtomWord_20 (by rw [hR]; decide) (by rw [hR]; decide) ⟨rfl, h9⟩
theorem vo_L_88 : VO RL 88 10 MX11_atomSize 2 := ⟨_, ko_X11.1, tb_all _ [935, 936, 937, 55, 938] (by decide +kernel) (by decide +kernel), by decide +kernel⟩
abbrev WL_atomSize : MeW := ((yL_atomSize, cL_atomSize, 5, some .int, { frames := 12, cells := 1, slots := 6, locals := 244 }), [(0, 10, 13, 13)])
set_option maxRecDepth 100000 in
theorem hr_atomSize {l : Launch} {S : pv_M} {a1 : Int32} {a2 : Int32} {P : Int32 → pv_M → Prop} (hM : mt l MX11_atomSize 106 [.ref 0, .int (a1), .int (a2)] S (fun v S' => ∃ a, v = some (.int a) ∧ P a S')) : mtW l WL_atomSize 106 [.ref 0, .int (a1), .int (a2), .ref 104] S (fun v S1 => v = some (.int (nI 0)) ∧ ∃ a S0, P a S0 ∧ S1 = wJ S0 104 (va_up (mJ S0 104) 0 a.toInt64)) := by
  refine mtW_of (by decide) (Nat.le_of_ble_eq_true rfl) ?_
  intro x hl hR hmL C E hT hnc
  subst hl
  show GG x 106 0 0 [.ref 0, .int (a1), .int (a2), .ref 104, unk] [] S 0
  refine g_aload_n C dL_atomSize_0 rfl ?_
  refine n_iconst C 0 dL_atomSize_1 ?_
  refine g_aload_n C dL_atomSize_2 rfl ?_
  refine g_iload_n C dL_atomSize_3 rfl ?_
  refine g_iload_n C dL_atomSize_4 rfl ?_
  refine g_callV C (As := [.int (a1), .int (a2)]) hM vo_L_88 dL_atomSize_5 rfl rfl (by decide) rfl (rm_ok (M' := WL_atomSize.1) hR (by decide)) (Nat.le_of_ble_eq_true rfl) (fun v9 S9 h9 => ?_)
  obtain ⟨a9, rfl, h9⟩ := h9
  refine g_n0 [.int (a9), .int (nI (0)), .ref 104] rfl rfl rfl ?_
  refine g_i2l C dL_atomSize_8 ?_
  refine g_last C dL_atomSize_9 rfl (by decide) (by omega) rfl ?_
  refine g_goto C 17 dL_atomSize_10 (by decide) ?_
  refine n_iconst C 0 dL_atomSize_17 ?_
  exact g_iret C E dL_atomSize_18 (by rw [hR]; decide) (by rw [hR]; decide) ⟨rfl, a9, S9, h9, rfl⟩
set_option maxRecDepth 100000 in
theorem ht_atomSize_IB {l : Launch} {S : pv_M} {a1 : Int32} {a2 : Int32} {px : pv_M → Prop} (hM : mth l MX11_atomSize.th 106 [.ref 0, .int (a1), .int (a2)] S nIB px) : mtW l WL_atomSize 106 [.ref 0, .int (a1), .int (a2), .ref 104] S (fun v S1 => v = some (.int (nI 1)) ∧ px S1) := by
  refine mtW_of (by decide) (Nat.le_of_ble_eq_true rfl) ?_
  intro x hl hR hmL C E hT hnc
  subst hl
  show GG x 106 0 0 [.ref 0, .int (a1), .int (a2), .ref 104, unk] [] S 0
  refine g_aload_n C dL_atomSize_0 rfl ?_
  refine n_iconst C 0 dL_atomSize_1 ?_
  refine g_aload_n C dL_atomSize_2 rfl ?_
  refine g_iload_n C dL_atomSize_3 rfl ?_
  refine g_iload_n C dL_atomSize_4 rfl ?_
  refine g_catchA C hnc hT (As := [.int (a1), .int (a2)]) hM vo_L_88 dL_atomSize_5 rfl rfl (by decide) rfl (rm_ok (M' := WL_atomSize.1) hR (by decide)) (Nat.le_of_ble_eq_true rfl) [] [] ⟨0, 10, 13, 13⟩ rfl (fun _ h => absurd h List.not_mem_nil) (by decide) (by decide) clk_13 cst_IB (by rw [hmL]; decide) dL_atomSize_13 [.ref 0, .int (a1), .int (a2), .ref 104, unk] rfl (fun S9 h9 => ?_)
  refine n_iconst C 1 dL_atomSize_15 ?_
  exact g_iret C E dL_atomSize_16 (by rw [hR]; decide) (by rw [hR]; decide) ⟨rfl, h9⟩
theorem vo_L_91 : VO RL 91 10 MX11_resultSize 3 := ⟨_, ko_X11.1, tb_all _ [965, 966, 967, 55, 968] (by decide +kernel) (by decide +kernel), by decide +kernel⟩
abbrev WL_resultSize : MeW := ((yL_resultSize, cL_resultSize, 6, some .int, { frames := 11, cells := 1, slots := 6, locals := 224 }), [(0, 12, 15, 15), (0, 12, 19, 13)])
set_option maxRecDepth 100000 in
theorem hr_resultSize {l : Launch} {S : pv_M} {a1 : Int32} {a2 : Int32} {a3 : Int32} {P : Int32 → pv_M → Prop} (hM : mt l MX11_resultSize 106 [.ref 0, .int (a1), .int (a2), .int (a3)] S (fun v S' => ∃ a, v = some (.int a) ∧ P a S')) : mtW l WL_resultSize 106 [.ref 0, .int (a1), .int (a2), .int (a3), .ref 104] S (fun v S1 => v = some (.int (nI 0)) ∧ ∃ a S0, P a S0 ∧ S1 = wJ S0 104 (va_up (mJ S0 104) 0 a.toInt64)) := by
  refine mtW_of (by decide) (Nat.le_of_ble_eq_true rfl) ?_
  intro x hl hR hmL C E hT hnc
  subst hl
  show GG x 106 0 0 [.ref 0, .int (a1), .int (a2), .int (a3), .ref 104, unk] [] S 0
  refine g_aload C dL_resultSize_0 rfl ?_
  refine n_iconst C 0 dL_resultSize_2 ?_
  refine g_aload_n C dL_resultSize_3 rfl ?_
  refine g_iload_n C dL_resultSize_4 rfl ?_
  refine g_iload_n C dL_resultSize_5 rfl ?_
  refine g_iload_n C dL_resultSize_6 rfl ?_
  refine g_callV C (As := [.int (a1), .int (a2), .int (a3)]) hM vo_L_91 dL_resultSize_7 rfl rfl (by decide) rfl (rm_ok (M' := WL_resultSize.1) hR (by decide)) (Nat.le_of_ble_eq_true rfl) (fun v9 S9 h9 => ?_)
  obtain ⟨a9, rfl, h9⟩ := h9
  refine g_n0 [.int (a9), .int (nI (0)), .ref 104] rfl rfl rfl ?_
  refine g_i2l C dL_resultSize_10 ?_
  refine g_last C dL_resultSize_11 rfl (by decide) (by omega) rfl ?_
  refine g_goto C 23 dL_resultSize_12 (by decide) ?_
  refine n_iconst C 0 dL_resultSize_23 ?_
  exact g_iret C E dL_resultSize_24 (by rw [hR]; decide) (by rw [hR]; decide) ⟨rfl, a9, S9, h9, rfl⟩
set_option maxRecDepth 100000 in
theorem ht_resultSize_IA {l : Launch} {S : pv_M} {a1 : Int32} {a2 : Int32} {a3 : Int32} {px : pv_M → Prop} (hM : mth l MX11_resultSize.th 106 [.ref 0, .int (a1), .int (a2), .int (a3)] S nIA px) : mtW l WL_resultSize 106 [.ref 0, .int (a1), .int (a2), .int (a3), .ref 104] S (fun v S1 => v = some (.int (nI 1)) ∧ px S1) := by
  refine mtW_of (by decide) (Nat.le_of_ble_eq_true rfl) ?_
  intro x hl hR hmL C E hT hnc
  subst hl
  show GG x 106 0 0 [.ref 0, .int (a1), .int (a2), .int (a3), .ref 104, unk] [] S 0
  refine g_aload C dL_resultSize_0 rfl ?_
  refine n_iconst C 0 dL_resultSize_2 ?_
  refine g_aload_n C dL_resultSize_3 rfl ?_
  refine g_iload_n C dL_resultSize_4 rfl ?_
  refine g_iload_n C dL_resultSize_5 rfl ?_
  refine g_iload_n C dL_resultSize_6 rfl ?_
  refine g_catchA C hnc hT (As := [.int (a1), .int (a2), .int (a3)]) hM vo_L_91 dL_resultSize_7 rfl rfl (by decide) rfl (rm_ok (M' := WL_resultSize.1) hR (by decide)) (Nat.le_of_ble_eq_true rfl) [] [⟨0, 12, 19, 13⟩] ⟨0, 12, 15, 15⟩ rfl (fun _ h => absurd h List.not_mem_nil) (by decide) (by decide) clk_15 cst_IA (by rw [hmL]; decide) dL_resultSize_15 [.ref 0, .int (a1), .int (a2), .int (a3), .ref 104, unk] rfl (fun S9 h9 => ?_)
  refine n_iconst C 1 dL_resultSize_17 ?_
  exact g_iret C E dL_resultSize_18 (by rw [hR]; decide) (by rw [hR]; decide) ⟨rfl, h9⟩
set_option maxRecDepth 100000 in
theorem ht_resultSize_IB {l : Launch} {S : pv_M} {a1 : Int32} {a2 : Int32} {a3 : Int32} {px : pv_M → Prop} (hM : mth l MX11_resultSize.th 106 [.ref 0, .int (a1), .int (a2), .int (a3)] S nIB px) : mtW l WL_resultSize 106 [.ref 0, .int (a1), .int (a2), .int (a3), .ref 104] S (fun v S1 => v = some (.int (nI 2)) ∧ px S1) := by
  refine mtW_of (by decide) (Nat.le_of_ble_eq_true rfl) ?_
  intro x hl hR hmL C E hT hnc
  subst hl
  show GG x 106 0 0 [.ref 0, .int (a1), .int (a2), .int (a3), .ref 104, unk] [] S 0
  refine g_aload C dL_resultSize_0 rfl ?_
  refine n_iconst C 0 dL_resultSize_2 ?_
  refine g_aload_n C dL_resultSize_3 rfl ?_
  refine g_iload_n C dL_resultSize_4 rfl ?_
  refine g_iload_n C dL_resultSize_5 rfl ?_
  refine g_iload_n C dL_resultSize_6 rfl ?_
  refine g_catchA C hnc hT (As := [.int (a1), .int (a2), .int (a3)]) hM vo_L_91 dL_resultSize_7 rfl rfl (by decide) rfl (rm_ok (M' := WL_resultSize.1) hR (by decide)) (Nat.le_of_ble_eq_true rfl) [⟨0, 12, 15, 15⟩] [] ⟨0, 12, 19, 13⟩ rfl (List.forall_mem_cons.mpr ⟨⟨by decide, nIA, clk_15, by decide +kernel⟩, (fun _ h => absurd h List.not_mem_nil)⟩) (by decide) (by decide) clk_13 cst_IB (by rw [hmL]; decide) dL_resultSize_19 [.ref 0, .int (a1), .int (a2), .int (a3), .ref 104, unk] rfl (fun S9 h9 => ?_)
  refine n_iconst C 2 dL_resultSize_21 ?_
  exact g_iret C E dL_resultSize_22 (by rw [hR]; decide) (by rw [hR]; decide) ⟨rfl, h9⟩
theorem vo_L_94 : VO RL 94 10 MX11_starSize 1 := ⟨_, ko_X11.1, tb_all _ [989, 990, 991, 55, 992] (by decide +kernel) (by decide +kernel), by decide +kernel⟩
abbrev WL_starSize : MeW := ((yL_starSize, cL_starSize, 4, some .int, { frames := 11, cells := 1, slots := 6, locals := 222 }), [(0, 9, 12, 13)])
set_option maxRecDepth 100000 in
theorem hr_starSize {l : Launch} {S : pv_M} {a1 : Int32} {P : Int32 → pv_M → Prop} (hM : mt l MX11_starSize 106 [.ref 0, .int (a1)] S (fun v S' => ∃ a, v = some (.int a) ∧ P a S')) : mtW l WL_starSize 106 [.ref 0, .int (a1), .ref 104] S (fun v S1 => v = some (.int (nI 0)) ∧ ∃ a S0, P a S0 ∧ S1 = wJ S0 104 (va_up (mJ S0 104) 0 a.toInt64)) := by
  refine mtW_of (by decide) (Nat.le_of_ble_eq_true rfl) ?_
  intro x hl hR hmL C E hT hnc
  subst hl
  show GG x 106 0 0 [.ref 0, .int (a1), .ref 104, unk] [] S 0
  refine g_aload_n C dL_starSize_0 rfl ?_
  refine n_iconst C 0 dL_starSize_1 ?_
  refine g_aload_n C dL_starSize_2 rfl ?_
  refine g_iload_n C dL_starSize_3 rfl ?_
  refine g_callV C (As := [.int (a1)]) hM vo_L_94 dL_starSize_4 rfl rfl (by decide) rfl (rm_ok (M' := WL_starSize.1) hR (by decide)) (Nat.le_of_ble_eq_true rfl) (fun v9 S9 h9 => ?_)
  obtain ⟨a9, rfl, h9⟩ := h9
  refine g_n0 [.int (a9), .int (nI (0)), .ref 104] rfl rfl rfl ?_
  refine g_i2l C dL_starSize_7 ?_
  refine g_last C dL_starSize_8 rfl (by decide) (by omega) rfl ?_
  refine g_goto C 15 dL_starSize_9 (by decide) ?_
  refine n_iconst C 0 dL_starSize_15 ?_
  exact g_iret C E dL_starSize_16 (by rw [hR]; decide) (by rw [hR]; decide) ⟨rfl, a9, S9, h9, rfl⟩
set_option maxRecDepth 100000 in
theorem ht_starSize_IB {l : Launch} {S : pv_M} {a1 : Int32} {px : pv_M → Prop} (hM : mth l MX11_starSize.th 106 [.ref 0, .int (a1)] S nIB px) : mtW l WL_starSize 106 [.ref 0, .int (a1), .ref 104] S (fun v S1 => v = some (.int (nI 1)) ∧ px S1) := by
  refine mtW_of (by decide) (Nat.le_of_ble_eq_true rfl) ?_
  intro x hl hR hmL C E hT hnc
  subst hl
  show GG x 106 0 0 [.ref 0, .int (a1), .ref 104, unk] [] S 0
  refine g_aload_n C dL_starSize_0 rfl ?_
  refine n_iconst C 0 dL_starSize_1 ?_
  refine g_aload_n C dL_starSize_2 rfl ?_
  refine g_iload_n C dL_starSize_3 rfl ?_
  refine g_catchN C hnc hT (As := [.int (a1)]) hM vo_L_94 dL_starSize_4 rfl rfl (by decide) rfl (rm_ok (M' := WL_starSize.1) hR (by decide)) (Nat.le_of_ble_eq_true rfl) [] [] ⟨0, 9, 12, 13⟩ rfl (fun _ h => absurd h List.not_mem_nil) (by decide) (by decide) clk_13 cst_IB (by rw [hmL]; decide) dL_starSize_12 [.ref 0, .int (a1), .ref 104, unk] rfl (fun S9 h9 => ?_)
  refine n_iconst C 1 dL_starSize_13 ?_
  exact g_iret C E dL_starSize_14 (by rw [hR]; decide) (by rw [hR]; decide) ⟨rfl, h9⟩
theorem vo_L_97 : VO RL 97 10 MX11_combine 4 := ⟨_, ko_X11.1, tb_all _ [1001, 1002, 1003, 55, 1004] (by decide +kernel) (by decide +kernel), by decide +kernel⟩
abbrev WL_combine : MeW := ((yL_combine, cL_combine, 7, some .int, { frames := 11, cells := 1, slots := 6, locals := 225 }), [(0, 14, 17, 15), (0, 14, 21, 13), (0, 14, 25, 46)])
set_option maxRecDepth 100000 in
theorem hr_combine {l : Launch} {S : pv_M} {a1 : Int32} {a2 : Int32} {a3 : Int32} {a4 : Int32} {P : Int32 → pv_M → Prop} (hM : mt l MX11_combine 106 [.ref 0, .int (a1), .int (a2), .int (a3), .int (a4)] S (fun v S' => ∃ a, v = some (.int a) ∧ P a S')) : mtW l WL_combine 106 [.ref 0, .int (a1), .int (a2), .int (a3), .int (a4), .ref 104] S (fun v S1 => v = some (.int (nI 0)) ∧ ∃ a S0, P a S0 ∧ S1 = wJ S0 104 (va_up (mJ S0 104) 0 a.toInt64)) := by
  refine mtW_of (by decide) (Nat.le_of_ble_eq_true rfl) ?_
  intro x hl hR hmL C E hT hnc
  subst hl
  show GG x 106 0 0 [.ref 0, .int (a1), .int (a2), .int (a3), .int (a4), .ref 104, unk] [] S 0
  refine g_aload C dL_combine_0 rfl ?_
  refine n_iconst C 0 dL_combine_2 ?_
  refine g_aload_n C dL_combine_3 rfl ?_
  refine g_iload_n C dL_combine_4 rfl ?_
  refine g_iload_n C dL_combine_5 rfl ?_
  refine g_iload_n C dL_combine_6 rfl ?_
  refine g_iload C dL_combine_7 rfl ?_
  refine g_callV C (As := [.int (a1), .int (a2), .int (a3), .int (a4)]) hM vo_L_97 dL_combine_9 rfl rfl (by decide) rfl (rm_ok (M' := WL_combine.1) hR (by decide)) (Nat.le_of_ble_eq_true rfl) (fun v9 S9 h9 => ?_)
  obtain ⟨a9, rfl, h9⟩ := h9
  refine g_n0 [.int (a9), .int (nI (0)), .ref 104] rfl rfl rfl ?_
  refine g_i2l C dL_combine_12 ?_
  refine g_last C dL_combine_13 rfl (by decide) (by omega) rfl ?_
  refine g_goto C 29 dL_combine_14 (by decide) ?_
  refine n_iconst C 0 dL_combine_29 ?_
  exact g_iret C E dL_combine_30 (by rw [hR]; decide) (by rw [hR]; decide) ⟨rfl, a9, S9, h9, rfl⟩
set_option maxRecDepth 100000 in
theorem ht_combine_IA {l : Launch} {S : pv_M} {a1 : Int32} {a2 : Int32} {a3 : Int32} {a4 : Int32} {px : pv_M → Prop} (hM : mth l MX11_combine.th 106 [.ref 0, .int (a1), .int (a2), .int (a3), .int (a4)] S nIA px) : mtW l WL_combine 106 [.ref 0, .int (a1), .int (a2), .int (a3), .int (a4), .ref 104] S (fun v S1 => v = some (.int (nI 1)) ∧ px S1) := by
  refine mtW_of (by decide) (Nat.le_of_ble_eq_true rfl) ?_
  intro x hl hR hmL C E hT hnc
  subst hl
  show GG x 106 0 0 [.ref 0, .int (a1), .int (a2), .int (a3), .int (a4), .ref 104, unk] [] S 0
  refine g_aload C dL_combine_0 rfl ?_
  refine n_iconst C 0 dL_combine_2 ?_
  refine g_aload_n C dL_combine_3 rfl ?_
  refine g_iload_n C dL_combine_4 rfl ?_
  refine g_iload_n C dL_combine_5 rfl ?_
  refine g_iload_n C dL_combine_6 rfl ?_
  refine g_iload C dL_combine_7 rfl ?_
  refine g_catchA C hnc hT (As := [.int (a1), .int (a2), .int (a3), .int (a4)]) hM vo_L_97 dL_combine_9 rfl rfl (by decide) rfl (rm_ok (M' := WL_combine.1) hR (by decide)) (Nat.le_of_ble_eq_true rfl) [] [⟨0, 14, 21, 13⟩, ⟨0, 14, 25, 46⟩] ⟨0, 14, 17, 15⟩ rfl (fun _ h => absurd h List.not_mem_nil) (by decide) (by decide) clk_15 cst_IA (by rw [hmL]; decide) dL_combine_17 [.ref 0, .int (a1), .int (a2), .int (a3), .int (a4), .ref 104, unk] rfl (fun S9 h9 => ?_)
  refine n_iconst C 1 dL_combine_19 ?_
  exact g_iret C E dL_combine_20 (by rw [hR]; decide) (by rw [hR]; decide) ⟨rfl, h9⟩
set_option maxRecDepth 100000 in
theorem ht_combine_IB {l : Launch} {S : pv_M} {a1 : Int32} {a2 : Int32} {a3 : Int32} {a4 : Int32} {px : pv_M → Prop} (hM : mth l MX11_combine.th 106 [.ref 0, .int (a1), .int (a2), .int (a3), .int (a4)] S nIB px) : mtW l WL_combine 106 [.ref 0, .int (a1), .int (a2), .int (a3), .int (a4), .ref 104] S (fun v S1 => v = some (.int (nI 2)) ∧ px S1) := by
  refine mtW_of (by decide) (Nat.le_of_ble_eq_true rfl) ?_
  intro x hl hR hmL C E hT hnc
  subst hl
  show GG x 106 0 0 [.ref 0, .int (a1), .int (a2), .int (a3), .int (a4), .ref 104, unk] [] S 0
  refine g_aload C dL_combine_0 rfl ?_
  refine n_iconst C 0 dL_combine_2 ?_
  refine g_aload_n C dL_combine_3 rfl ?_
  refine g_iload_n C dL_combine_4 rfl ?_
  refine g_iload_n C dL_combine_5 rfl ?_
  refine g_iload_n C dL_combine_6 rfl ?_
  refine g_iload C dL_combine_7 rfl ?_
  refine g_catchA C hnc hT (As := [.int (a1), .int (a2), .int (a3), .int (a4)]) hM vo_L_97 dL_combine_9 rfl rfl (by decide) rfl (rm_ok (M' := WL_combine.1) hR (by decide)) (Nat.le_of_ble_eq_true rfl) [⟨0, 14, 17, 15⟩] [⟨0, 14, 25, 46⟩] ⟨0, 14, 21, 13⟩ rfl (List.forall_mem_cons.mpr ⟨⟨by decide, nIA, clk_15, by decide +kernel⟩, (fun _ h => absurd h List.not_mem_nil)⟩) (by decide) (by decide) clk_13 cst_IB (by rw [hmL]; decide) dL_combine_21 [.ref 0, .int (a1), .int (a2), .int (a3), .int (a4), .ref 104, unk] rfl (fun S9 h9 => ?_)
  refine n_iconst C 2 dL_combine_23 ?_
  exact g_iret C E dL_combine_24 (by rw [hR]; decide) (by rw [hR]; decide) ⟨rfl, h9⟩
set_option maxRecDepth 100000 in
theorem ht_combine_IS {l : Launch} {S : pv_M} {a1 : Int32} {a2 : Int32} {a3 : Int32} {a4 : Int32} {px : pv_M → Prop} (hM : mth l MX11_combine.th 106 [.ref 0, .int (a1), .int (a2), .int (a3), .int (a4)] S nIS px) : mtW l WL_combine 106 [.ref 0, .int (a1), .int (a2), .int (a3), .int (a4), .ref 104] S (fun v S1 => v = some (.int (nI 3)) ∧ px S1) := by
  refine mtW_of (by decide) (Nat.le_of_ble_eq_true rfl) ?_
  intro x hl hR hmL C E hT hnc
  subst hl
  show GG x 106 0 0 [.ref 0, .int (a1), .int (a2), .int (a3), .int (a4), .ref 104, unk] [] S 0
  refine g_aload C dL_combine_0 rfl ?_
  refine n_iconst C 0 dL_combine_2 ?_
  refine g_aload_n C dL_combine_3 rfl ?_
  refine g_iload_n C dL_combine_4 rfl ?_
  refine g_iload_n C dL_combine_5 rfl ?_
  refine g_iload_n C dL_combine_6 rfl ?_
  refine g_iload C dL_combine_7 rfl ?_
  refine g_catchA C hnc hT (As := [.int (a1), .int (a2), .int (a3), .int (a4)]) hM vo_L_97 dL_combine_9 rfl rfl (by decide) rfl (rm_ok (M' := WL_combine.1) hR (by decide)) (Nat.le_of_ble_eq_true rfl) [⟨0, 14, 17, 15⟩, ⟨0, 14, 21, 13⟩] [] ⟨0, 14, 25, 46⟩ rfl (List.forall_mem_cons.mpr ⟨⟨by decide, nIA, clk_15, by decide +kernel⟩, (List.forall_mem_cons.mpr ⟨⟨by decide, nIB, clk_13, by decide +kernel⟩, (fun _ h => absurd h List.not_mem_nil)⟩)⟩) (by decide) (by decide) clk_46 cst_IS (by rw [hmL]; decide) dL_combine_25 [.ref 0, .int (a1), .int (a2), .int (a3), .int (a4), .ref 104, unk] rfl (fun S9 h9 => ?_)
  refine n_iconst C 3 dL_combine_27 ?_
  exact g_iret C E dL_combine_28 (by rw [hR]; decide) (by rw [hR]; decide) ⟨rfl, h9⟩
theorem vo_L_101 : VO RL 101 10 MX11_star 2 := ⟨_, ko_X11.1, tb_all _ [1012, 1013, 1014, 55, 1015] (by decide +kernel) (by decide +kernel), by decide +kernel⟩
abbrev WL_star : MeW := ((yL_star, cL_star, 5, some .int, { frames := 11, cells := 1, slots := 6, locals := 223 }), [(0, 10, 13, 13), (0, 10, 17, 46)])
set_option maxRecDepth 100000 in
theorem hr_star {l : Launch} {S : pv_M} {a1 : Int32} {a2 : Int32} {P : Int32 → pv_M → Prop} (hM : mt l MX11_star 106 [.ref 0, .int (a1), .int (a2)] S (fun v S' => ∃ a, v = some (.int a) ∧ P a S')) : mtW l WL_star 106 [.ref 0, .int (a1), .int (a2), .ref 104] S (fun v S1 => v = some (.int (nI 0)) ∧ ∃ a S0, P a S0 ∧ S1 = wJ S0 104 (va_up (mJ S0 104) 0 a.toInt64)) := by
  refine mtW_of (by decide) (Nat.le_of_ble_eq_true rfl) ?_
  intro x hl hR hmL C E hT hnc
  subst hl
  show GG x 106 0 0 [.ref 0, .int (a1), .int (a2), .ref 104, unk] [] S 0
  refine g_aload_n C dL_star_0 rfl ?_
  refine n_iconst C 0 dL_star_1 ?_
  refine g_aload_n C dL_star_2 rfl ?_
  refine g_iload_n C dL_star_3 rfl ?_
  refine g_iload_n C dL_star_4 rfl ?_
  refine g_callV C (As := [.int (a1), .int (a2)]) hM vo_L_101 dL_star_5 rfl rfl (by decide) rfl (rm_ok (M' := WL_star.1) hR (by decide)) (Nat.le_of_ble_eq_true rfl) (fun v9 S9 h9 => ?_)
  obtain ⟨a9, rfl, h9⟩ := h9
  refine g_n0 [.int (a9), .int (nI (0)), .ref 104] rfl rfl rfl ?_
  refine g_i2l C dL_star_8 ?_
  refine g_last C dL_star_9 rfl (by decide) (by omega) rfl ?_
  refine g_goto C 21 dL_star_10 (by decide) ?_
  refine n_iconst C 0 dL_star_21 ?_
  exact g_iret C E dL_star_22 (by rw [hR]; decide) (by rw [hR]; decide) ⟨rfl, a9, S9, h9, rfl⟩
set_option maxRecDepth 100000 in
theorem ht_star_IB {l : Launch} {S : pv_M} {a1 : Int32} {a2 : Int32} {px : pv_M → Prop} (hM : mth l MX11_star.th 106 [.ref 0, .int (a1), .int (a2)] S nIB px) : mtW l WL_star 106 [.ref 0, .int (a1), .int (a2), .ref 104] S (fun v S1 => v = some (.int (nI 1)) ∧ px S1) := by
  refine mtW_of (by decide) (Nat.le_of_ble_eq_true rfl) ?_
  intro x hl hR hmL C E hT hnc
  subst hl
  show GG x 106 0 0 [.ref 0, .int (a1), .int (a2), .ref 104, unk] [] S 0
  refine g_aload_n C dL_star_0 rfl ?_
  refine n_iconst C 0 dL_star_1 ?_
  refine g_aload_n C dL_star_2 rfl ?_
  refine g_iload_n C dL_star_3 rfl ?_
  refine g_iload_n C dL_star_4 rfl ?_
  refine g_catchA C hnc hT (As := [.int (a1), .int (a2)]) hM vo_L_101 dL_star_5 rfl rfl (by decide) rfl (rm_ok (M' := WL_star.1) hR (by decide)) (Nat.le_of_ble_eq_true rfl) [] [⟨0, 10, 17, 46⟩] ⟨0, 10, 13, 13⟩ rfl (fun _ h => absurd h List.not_mem_nil) (by decide) (by decide) clk_13 cst_IB (by rw [hmL]; decide) dL_star_13 [.ref 0, .int (a1), .int (a2), .ref 104, unk] rfl (fun S9 h9 => ?_)
  refine n_iconst C 1 dL_star_15 ?_
  exact g_iret C E dL_star_16 (by rw [hR]; decide) (by rw [hR]; decide) ⟨rfl, h9⟩
set_option maxRecDepth 100000 in
theorem ht_star_IS {l : Launch} {S : pv_M} {a1 : Int32} {a2 : Int32} {px : pv_M → Prop} (hM : mth l MX11_star.th 106 [.ref 0, .int (a1), .int (a2)] S nIS px) : mtW l WL_star 106 [.ref 0, .int (a1), .int (a2), .ref 104] S (fun v S1 => v = some (.int (nI 2)) ∧ px S1) := by
  refine mtW_of (by decide) (Nat.le_of_ble_eq_true rfl) ?_
  intro x hl hR hmL C E hT hnc
  subst hl
  show GG x 106 0 0 [.ref 0, .int (a1), .int (a2), .ref 104, unk] [] S 0
  refine g_aload_n C dL_star_0 rfl ?_
  refine n_iconst C 0 dL_star_1 ?_
  refine g_aload_n C dL_star_2 rfl ?_
  refine g_iload_n C dL_star_3 rfl ?_
  refine g_iload_n C dL_star_4 rfl ?_
  refine g_catchA C hnc hT (As := [.int (a1), .int (a2)]) hM vo_L_101 dL_star_5 rfl rfl (by decide) rfl (rm_ok (M' := WL_star.1) hR (by decide)) (Nat.le_of_ble_eq_true rfl) [⟨0, 10, 13, 13⟩] [] ⟨0, 10, 17, 46⟩ rfl (List.forall_mem_cons.mpr ⟨⟨by decide, nIB, clk_13, by decide +kernel⟩, (fun _ h => absurd h List.not_mem_nil)⟩) (by decide) (by decide) clk_46 cst_IS (by rw [hmL]; decide) dL_star_17 [.ref 0, .int (a1), .int (a2), .ref 104, unk] rfl (fun S9 h9 => ?_)
  refine n_iconst C 2 dL_star_19 ?_
  exact g_iret C E dL_star_20 (by rw [hR]; decide) (by rw [hR]; decide) ⟨rfl, h9⟩
theorem vo_L_104 : VO RL 104 10 MX11_reverse 2 := ⟨_, ko_X11.1, tb_all _ [1019, 1020, 1021, 55, 1022] (by decide +kernel) (by decide +kernel), by decide +kernel⟩
abbrev WL_reverse : MeW := ((yL_reverse, cL_reverse, 5, some .int, { frames := 12, cells := 1, slots := 6, locals := 244 }), [(0, 10, 13, 13), (0, 10, 17, 46)])
set_option maxRecDepth 100000 in
theorem hr_reverse {l : Launch} {S : pv_M} {a1 : Int32} {a2 : Int32} {P : Int32 → pv_M → Prop} (hM : mt l MX11_reverse 106 [.ref 0, .int (a1), .int (a2)] S (fun v S' => ∃ a, v = some (.int a) ∧ P a S')) : mtW l WL_reverse 106 [.ref 0, .int (a1), .int (a2), .ref 104] S (fun v S1 => v = some (.int (nI 0)) ∧ ∃ a S0, P a S0 ∧ S1 = wJ S0 104 (va_up (mJ S0 104) 0 a.toInt64)) := by
  refine mtW_of (by decide) (Nat.le_of_ble_eq_true rfl) ?_
  intro x hl hR hmL C E hT hnc
  subst hl
  show GG x 106 0 0 [.ref 0, .int (a1), .int (a2), .ref 104, unk] [] S 0
  refine g_aload_n C dL_reverse_0 rfl ?_
  refine n_iconst C 0 dL_reverse_1 ?_
  refine g_aload_n C dL_reverse_2 rfl ?_
  refine g_iload_n C dL_reverse_3 rfl ?_
  refine g_iload_n C dL_reverse_4 rfl ?_
  refine g_callV C (As := [.int (a1), .int (a2)]) hM vo_L_104 dL_reverse_5 rfl rfl (by decide) rfl (rm_ok (M' := WL_reverse.1) hR (by decide)) (Nat.le_of_ble_eq_true rfl) (fun v9 S9 h9 => ?_)
  obtain ⟨a9, rfl, h9⟩ := h9
  refine g_n0 [.int (a9), .int (nI (0)), .ref 104] rfl rfl rfl ?_
  refine g_i2l C dL_reverse_8 ?_
  refine g_last C dL_reverse_9 rfl (by decide) (by omega) rfl ?_
  refine g_goto C 21 dL_reverse_10 (by decide) ?_
  refine n_iconst C 0 dL_reverse_21 ?_
  exact g_iret C E dL_reverse_22 (by rw [hR]; decide) (by rw [hR]; decide) ⟨rfl, a9, S9, h9, rfl⟩
set_option maxRecDepth 100000 in
theorem ht_reverse_IB {l : Launch} {S : pv_M} {a1 : Int32} {a2 : Int32} {px : pv_M → Prop} (hM : mth l MX11_reverse.th 106 [.ref 0, .int (a1), .int (a2)] S nIB px) : mtW l WL_reverse 106 [.ref 0, .int (a1), .int (a2), .ref 104] S (fun v S1 => v = some (.int (nI 1)) ∧ px S1) := by
  refine mtW_of (by decide) (Nat.le_of_ble_eq_true rfl) ?_
  intro x hl hR hmL C E hT hnc
  subst hl
  show GG x 106 0 0 [.ref 0, .int (a1), .int (a2), .ref 104, unk] [] S 0
  refine g_aload_n C dL_reverse_0 rfl ?_
  refine n_iconst C 0 dL_reverse_1 ?_
  refine g_aload_n C dL_reverse_2 rfl ?_
  refine g_iload_n C dL_reverse_3 rfl ?_
  refine g_iload_n C dL_reverse_4 rfl ?_
  refine g_catchA C hnc hT (As := [.int (a1), .int (a2)]) hM vo_L_104 dL_reverse_5 rfl rfl (by decide) rfl (rm_ok (M' := WL_reverse.1) hR (by decide)) (Nat.le_of_ble_eq_true rfl) [] [⟨0, 10, 17, 46⟩] ⟨0, 10, 13, 13⟩ rfl (fun _ h => absurd h List.not_mem_nil) (by decide) (by decide) clk_13 cst_IB (by rw [hmL]; decide) dL_reverse_13 [.ref 0, .int (a1), .int (a2), .ref 104, unk] rfl (fun S9 h9 => ?_)
  refine n_iconst C 1 dL_reverse_15 ?_
  exact g_iret C E dL_reverse_16 (by rw [hR]; decide) (by rw [hR]; decide) ⟨rfl, h9⟩
set_option maxRecDepth 100000 in
theorem ht_reverse_IS {l : Launch} {S : pv_M} {a1 : Int32} {a2 : Int32} {px : pv_M → Prop} (hM : mth l MX11_reverse.th 106 [.ref 0, .int (a1), .int (a2)] S nIS px) : mtW l WL_reverse 106 [.ref 0, .int (a1), .int (a2), .ref 104] S (fun v S1 => v = some (.int (nI 2)) ∧ px S1) := by
  refine mtW_of (by decide) (Nat.le_of_ble_eq_true rfl) ?_
  intro x hl hR hmL C E hT hnc
  subst hl
  show GG x 106 0 0 [.ref 0, .int (a1), .int (a2), .ref 104, unk] [] S 0
  refine g_aload_n C dL_reverse_0 rfl ?_
  refine n_iconst C 0 dL_reverse_1 ?_
  refine g_aload_n C dL_reverse_2 rfl ?_
  refine g_iload_n C dL_reverse_3 rfl ?_
  refine g_iload_n C dL_reverse_4 rfl ?_
  refine g_catchA C hnc hT (As := [.int (a1), .int (a2)]) hM vo_L_104 dL_reverse_5 rfl rfl (by decide) rfl (rm_ok (M' := WL_reverse.1) hR (by decide)) (Nat.le_of_ble_eq_true rfl) [⟨0, 10, 13, 13⟩] [] ⟨0, 10, 17, 46⟩ rfl (List.forall_mem_cons.mpr ⟨⟨by decide, nIB, clk_13, by decide +kernel⟩, (fun _ h => absurd h List.not_mem_nil)⟩) (by decide) (by decide) clk_46 cst_IS (by rw [hmL]; decide) dL_reverse_17 [.ref 0, .int (a1), .int (a2), .ref 104, unk] rfl (fun S9 h9 => ?_)
  refine n_iconst C 2 dL_reverse_19 ?_
  exact g_iret C E dL_reverse_20 (by rw [hR]; decide) (by rw [hR]; decide) ⟨rfl, h9⟩
theorem vo_L_107 : VO RL 107 10 MX11_uniteAtoms 3 := ⟨_, ko_X11.1, tb_all _ [1026, 1027, 1028, 55, 1029] (by decide +kernel) (by decide +kernel), by decide +kernel⟩
abbrev WL_uniteAtoms : MeW := ((yL_uniteAtoms, cL_uniteAtoms, 7, some .int, { frames := 12, cells := 1, slots := 6, locals := 246 }), [(0, 13, 16, 13), (0, 13, 20, 15), (0, 13, 24, 46)])
set_option maxRecDepth 100000 in
theorem hr_uniteAtoms {l : Launch} {S : pv_M} {a1 : Int32} {a2 : Int64} {a3 : Int32} {P : Int32 → pv_M → Prop} (hM : mt l MX11_uniteAtoms 106 [.ref 0, .int (a1), .long (a2), .int (a3)] S (fun v S' => ∃ a, v = some (.int a) ∧ P a S')) : mtW l WL_uniteAtoms 106 [.ref 0, .int (a1), .long (a2), .int (a3), .ref 104] S (fun v S1 => v = some (.int (nI 0)) ∧ ∃ a S0, P a S0 ∧ S1 = wJ S0 104 (va_up (mJ S0 104) 0 a.toInt64)) := by
  refine mtW_of (by decide) (Nat.le_of_ble_eq_true rfl) ?_
  intro x hl hR hmL C E hT hnc
  subst hl
  show GG x 106 0 0 [.ref 0, .int (a1), .long (a2), unk, .int (a3), .ref 104, unk] [] S 0
  refine g_aload C dL_uniteAtoms_0 rfl ?_
  refine n_iconst C 0 dL_uniteAtoms_2 ?_
  refine g_aload_n C dL_uniteAtoms_3 rfl ?_
  refine g_iload_n C dL_uniteAtoms_4 rfl ?_
  refine g_lload_n C dL_uniteAtoms_5 rfl ?_
  refine g_iload C dL_uniteAtoms_6 rfl ?_
  refine g_callV C (As := [.int (a1), .long (a2), .int (a3)]) hM vo_L_107 dL_uniteAtoms_8 rfl rfl (by decide) rfl (rm_ok (M' := WL_uniteAtoms.1) hR (by decide)) (Nat.le_of_ble_eq_true rfl) (fun v9 S9 h9 => ?_)
  obtain ⟨a9, rfl, h9⟩ := h9
  refine g_n0 [.int (a9), .int (nI (0)), .ref 104] rfl rfl rfl ?_
  refine g_i2l C dL_uniteAtoms_11 ?_
  refine g_last C dL_uniteAtoms_12 rfl (by decide) (by omega) rfl ?_
  refine g_goto C 28 dL_uniteAtoms_13 (by decide) ?_
  refine n_iconst C 0 dL_uniteAtoms_28 ?_
  exact g_iret C E dL_uniteAtoms_29 (by rw [hR]; decide) (by rw [hR]; decide) ⟨rfl, a9, S9, h9, rfl⟩
set_option maxRecDepth 100000 in
theorem ht_uniteAtoms_IB {l : Launch} {S : pv_M} {a1 : Int32} {a2 : Int64} {a3 : Int32} {px : pv_M → Prop} (hM : mth l MX11_uniteAtoms.th 106 [.ref 0, .int (a1), .long (a2), .int (a3)] S nIB px) : mtW l WL_uniteAtoms 106 [.ref 0, .int (a1), .long (a2), .int (a3), .ref 104] S (fun v S1 => v = some (.int (nI 1)) ∧ px S1) := by
  refine mtW_of (by decide) (Nat.le_of_ble_eq_true rfl) ?_
  intro x hl hR hmL C E hT hnc
  subst hl
  show GG x 106 0 0 [.ref 0, .int (a1), .long (a2), unk, .int (a3), .ref 104, unk] [] S 0
  refine g_aload C dL_uniteAtoms_0 rfl ?_
  refine n_iconst C 0 dL_uniteAtoms_2 ?_
  refine g_aload_n C dL_uniteAtoms_3 rfl ?_
  refine g_iload_n C dL_uniteAtoms_4 rfl ?_
  refine g_lload_n C dL_uniteAtoms_5 rfl ?_
  refine g_iload C dL_uniteAtoms_6 rfl ?_
  refine g_catchA C hnc hT (As := [.int (a1), .long (a2), .int (a3)]) hM vo_L_107 dL_uniteAtoms_8 rfl rfl (by decide) rfl (rm_ok (M' := WL_uniteAtoms.1) hR (by decide)) (Nat.le_of_ble_eq_true rfl) [] [⟨0, 13, 20, 15⟩, ⟨0, 13, 24, 46⟩] ⟨0, 13, 16, 13⟩ rfl (fun _ h => absurd h List.not_mem_nil) (by decide) (by decide) clk_13 cst_IB (by rw [hmL]; decide) dL_uniteAtoms_16 [.ref 0, .int (a1), .long (a2), unk, .int (a3), .ref 104, unk] rfl (fun S9 h9 => ?_)
  refine n_iconst C 1 dL_uniteAtoms_18 ?_
  exact g_iret C E dL_uniteAtoms_19 (by rw [hR]; decide) (by rw [hR]; decide) ⟨rfl, h9⟩
set_option maxRecDepth 100000 in
theorem ht_uniteAtoms_IA {l : Launch} {S : pv_M} {a1 : Int32} {a2 : Int64} {a3 : Int32} {px : pv_M → Prop} (hM : mth l MX11_uniteAtoms.th 106 [.ref 0, .int (a1), .long (a2), .int (a3)] S nIA px) : mtW l WL_uniteAtoms 106 [.ref 0, .int (a1), .long (a2), .int (a3), .ref 104] S (fun v S1 => v = some (.int (nI 2)) ∧ px S1) := by
  refine mtW_of (by decide) (Nat.le_of_ble_eq_true rfl) ?_
  intro x hl hR hmL C E hT hnc
  subst hl
  show GG x 106 0 0 [.ref 0, .int (a1), .long (a2), unk, .int (a3), .ref 104, unk] [] S 0
  refine g_aload C dL_uniteAtoms_0 rfl ?_
  refine n_iconst C 0 dL_uniteAtoms_2 ?_
  refine g_aload_n C dL_uniteAtoms_3 rfl ?_
  refine g_iload_n C dL_uniteAtoms_4 rfl ?_
  refine g_lload_n C dL_uniteAtoms_5 rfl ?_
  refine g_iload C dL_uniteAtoms_6 rfl ?_
  refine g_catchA C hnc hT (As := [.int (a1), .long (a2), .int (a3)]) hM vo_L_107 dL_uniteAtoms_8 rfl rfl (by decide) rfl (rm_ok (M' := WL_uniteAtoms.1) hR (by decide)) (Nat.le_of_ble_eq_true rfl) [⟨0, 13, 16, 13⟩] [⟨0, 13, 24, 46⟩] ⟨0, 13, 20, 15⟩ rfl (List.forall_mem_cons.mpr ⟨⟨by decide, nIB, clk_13, by decide +kernel⟩, (fun _ h => absurd h List.not_mem_nil)⟩) (by decide) (by decide) clk_15 cst_IA (by rw [hmL]; decide) dL_uniteAtoms_20 [.ref 0, .int (a1), .long (a2), unk, .int (a3), .ref 104, unk] rfl (fun S9 h9 => ?_)
  refine n_iconst C 2 dL_uniteAtoms_22 ?_
  exact g_iret C E dL_uniteAtoms_23 (by rw [hR]; decide) (by rw [hR]; decide) ⟨rfl, h9⟩
set_option maxRecDepth 100000 in
theorem ht_uniteAtoms_IS {l : Launch} {S : pv_M} {a1 : Int32} {a2 : Int64} {a3 : Int32} {px : pv_M → Prop} (hM : mth l MX11_uniteAtoms.th 106 [.ref 0, .int (a1), .long (a2), .int (a3)] S nIS px) : mtW l WL_uniteAtoms 106 [.ref 0, .int (a1), .long (a2), .int (a3), .ref 104] S (fun v S1 => v = some (.int (nI 3)) ∧ px S1) := by
  refine mtW_of (by decide) (Nat.le_of_ble_eq_true rfl) ?_
  intro x hl hR hmL C E hT hnc
  subst hl
  show GG x 106 0 0 [.ref 0, .int (a1), .long (a2), unk, .int (a3), .ref 104, unk] [] S 0
  refine g_aload C dL_uniteAtoms_0 rfl ?_
  refine n_iconst C 0 dL_uniteAtoms_2 ?_
  refine g_aload_n C dL_uniteAtoms_3 rfl ?_
  refine g_iload_n C dL_uniteAtoms_4 rfl ?_
  refine g_lload_n C dL_uniteAtoms_5 rfl ?_
  refine g_iload C dL_uniteAtoms_6 rfl ?_
  refine g_catchA C hnc hT (As := [.int (a1), .long (a2), .int (a3)]) hM vo_L_107 dL_uniteAtoms_8 rfl rfl (by decide) rfl (rm_ok (M' := WL_uniteAtoms.1) hR (by decide)) (Nat.le_of_ble_eq_true rfl) [⟨0, 13, 16, 13⟩, ⟨0, 13, 20, 15⟩] [] ⟨0, 13, 24, 46⟩ rfl (List.forall_mem_cons.mpr ⟨⟨by decide, nIB, clk_13, by decide +kernel⟩, (List.forall_mem_cons.mpr ⟨⟨by decide, nIA, clk_15, by decide +kernel⟩, (fun _ h => absurd h List.not_mem_nil)⟩)⟩) (by decide) (by decide) clk_46 cst_IS (by rw [hmL]; decide) dL_uniteAtoms_24 [.ref 0, .int (a1), .long (a2), unk, .int (a3), .ref 104, unk] rfl (fun S9 h9 => ?_)
  refine n_iconst C 3 dL_uniteAtoms_26 ?_
  exact g_iret C E dL_uniteAtoms_27 (by rw [hR]; decide) (by rw [hR]; decide) ⟨rfl, h9⟩
theorem vo_L_111 : VO RL 111 10 MX11_isUnionOfAtoms 2 := ⟨_, ko_X11.1, tb_all _ [1053, 1054, 1055, 55, 1056] (by decide +kernel) (by decide +kernel), by decide +kernel⟩
abbrev WL_isUnionOfAtoms : MeW := ((yL_isUnionOfAtoms, cL_isUnionOfAtoms, 5, some .int, { frames := 12, cells := 1, slots := 6, locals := 244 }), [(0, 17, 20, 13)])
set_option maxRecDepth 100000 in
theorem hr_isUnionOfAtoms {l : Launch} {S : pv_M} {a1 : Int32} {a2 : Int32} {P : Bool → pv_M → Prop} (hM : mt l MX11_isUnionOfAtoms 106 [.ref 0, .int (a1), .int (a2)] S (fun v S' => ∃ c, v = some (.int (bI c)) ∧ P c S')) : mtW l WL_isUnionOfAtoms 106 [.ref 0, .int (a1), .int (a2), .ref 104] S (fun v S1 => v = some (.int (nI 0)) ∧ ∃ c S0, P c S0 ∧ S1 = wJ S0 104 (va_up (mJ S0 104) 0 (bL c))) := by
  refine mtW_of (by decide) (Nat.le_of_ble_eq_true rfl) ?_
  intro x hl hR hmL C E hT hnc
  subst hl
  show GG x 106 0 0 [.ref 0, .int (a1), .int (a2), .ref 104, unk] [] S 0
  refine g_aload_n C dL_isUnionOfAtoms_0 rfl ?_
  refine n_iconst C 0 dL_isUnionOfAtoms_1 ?_
  refine g_aload_n C dL_isUnionOfAtoms_2 rfl ?_
  refine g_iload_n C dL_isUnionOfAtoms_3 rfl ?_
  refine g_iload_n C dL_isUnionOfAtoms_4 rfl ?_
  refine g_callV C (As := [.int (a1), .int (a2)]) hM vo_L_111 dL_isUnionOfAtoms_5 rfl rfl (by decide) rfl (rm_ok (M' := WL_isUnionOfAtoms.1) hR (by decide)) (Nat.le_of_ble_eq_true rfl) (fun v9 S9 h9 => ?_)
  obtain ⟨a9, rfl, h9⟩ := h9
  refine g_n0 [.int (bI (a9)), .int (nI (0)), .ref 104] rfl rfl rfl ?_
  refine b_if_eq C 15 dL_isUnionOfAtoms_8 (fun h8 => ?_) (fun h8 => ?_)
  · refine g_lconst C 0 dL_isUnionOfAtoms_15 (by decide) ?_
    refine g_last C dL_isUnionOfAtoms_16 rfl (by decide) (by omega) rfl ?_
    refine g_goto C 24 dL_isUnionOfAtoms_17 (by decide) ?_
    refine n_iconst C 0 dL_isUnionOfAtoms_24 ?_
    exact g_iret C E dL_isUnionOfAtoms_25 (by rw [hR]; decide) (by rw [hR]; decide) ⟨rfl, a9, S9, h9, by rw [h8]; rfl⟩
  · refine g_lconst C 1 dL_isUnionOfAtoms_11 (by decide) ?_
    refine g_goto C 16 dL_isUnionOfAtoms_12 (by decide) ?_
    refine g_last C dL_isUnionOfAtoms_16 rfl (by decide) (by omega) rfl ?_
    refine g_goto C 24 dL_isUnionOfAtoms_17 (by decide) ?_
    refine n_iconst C 0 dL_isUnionOfAtoms_24 ?_
    exact g_iret C E dL_isUnionOfAtoms_25 (by rw [hR]; decide) (by rw [hR]; decide) ⟨rfl, a9, S9, h9, by rw [h8]; rfl⟩
set_option maxRecDepth 100000 in
theorem ht_isUnionOfAtoms_IB {l : Launch} {S : pv_M} {a1 : Int32} {a2 : Int32} {px : pv_M → Prop} (hM : mth l MX11_isUnionOfAtoms.th 106 [.ref 0, .int (a1), .int (a2)] S nIB px) : mtW l WL_isUnionOfAtoms 106 [.ref 0, .int (a1), .int (a2), .ref 104] S (fun v S1 => v = some (.int (nI 1)) ∧ px S1) := by
  refine mtW_of (by decide) (Nat.le_of_ble_eq_true rfl) ?_
  intro x hl hR hmL C E hT hnc
  subst hl
  show GG x 106 0 0 [.ref 0, .int (a1), .int (a2), .ref 104, unk] [] S 0
  refine g_aload_n C dL_isUnionOfAtoms_0 rfl ?_
  refine n_iconst C 0 dL_isUnionOfAtoms_1 ?_
  refine g_aload_n C dL_isUnionOfAtoms_2 rfl ?_
  refine g_iload_n C dL_isUnionOfAtoms_3 rfl ?_
  refine g_iload_n C dL_isUnionOfAtoms_4 rfl ?_
  refine g_catchA C hnc hT (As := [.int (a1), .int (a2)]) hM vo_L_111 dL_isUnionOfAtoms_5 rfl rfl (by decide) rfl (rm_ok (M' := WL_isUnionOfAtoms.1) hR (by decide)) (Nat.le_of_ble_eq_true rfl) [] [] ⟨0, 17, 20, 13⟩ rfl (fun _ h => absurd h List.not_mem_nil) (by decide) (by decide) clk_13 cst_IB (by rw [hmL]; decide) dL_isUnionOfAtoms_20 [.ref 0, .int (a1), .int (a2), .ref 104, unk] rfl (fun S9 h9 => ?_)
  refine n_iconst C 1 dL_isUnionOfAtoms_22 ?_
  exact g_iret C E dL_isUnionOfAtoms_23 (by rw [hR]; decide) (by rw [hR]; decide) ⟨rfl, h9⟩
theorem vo_L_114 : VO RL 114 10 MX11_takeDifference 2 := ⟨_, ko_X11.1, tb_all _ [1065, 1066, 1067, 55, 1068] (by decide +kernel) (by decide +kernel), by decide +kernel⟩
abbrev WL_takeDifference : MeW := ((yL_takeDifference, cL_takeDifference, 5, some .int, { frames := 11, cells := 1, slots := 6, locals := 224 }), [(0, 10, 13, 13), (0, 10, 17, 117), (0, 10, 21, 46)])
set_option maxRecDepth 100000 in
theorem hr_takeDifference {l : Launch} {S : pv_M} {a1 : Int32} {a2 : Int32} {P : Int32 → pv_M → Prop} (hM : mt l MX11_takeDifference 106 [.ref 0, .int (a1), .int (a2)] S (fun v S' => ∃ a, v = some (.int a) ∧ P a S')) : mtW l WL_takeDifference 106 [.ref 0, .int (a1), .int (a2), .ref 104] S (fun v S1 => v = some (.int (nI 0)) ∧ ∃ a S0, P a S0 ∧ S1 = wJ S0 104 (va_up (mJ S0 104) 0 a.toInt64)) := by
  refine mtW_of (by decide) (Nat.le_of_ble_eq_true rfl) ?_
  intro x hl hR hmL C E hT hnc
  subst hl
  show GG x 106 0 0 [.ref 0, .int (a1), .int (a2), .ref 104, unk] [] S 0
  refine g_aload_n C dL_takeDifference_0 rfl ?_
  refine n_iconst C 0 dL_takeDifference_1 ?_
  refine g_aload_n C dL_takeDifference_2 rfl ?_
  refine g_iload_n C dL_takeDifference_3 rfl ?_
  refine g_iload_n C dL_takeDifference_4 rfl ?_
  refine g_callV C (As := [.int (a1), .int (a2)]) hM vo_L_114 dL_takeDifference_5 rfl rfl (by decide) rfl (rm_ok (M' := WL_takeDifference.1) hR (by decide)) (Nat.le_of_ble_eq_true rfl) (fun v9 S9 h9 => ?_)
  obtain ⟨a9, rfl, h9⟩ := h9
  refine g_n0 [.int (a9), .int (nI (0)), .ref 104] rfl rfl rfl ?_
  refine g_i2l C dL_takeDifference_8 ?_
  refine g_last C dL_takeDifference_9 rfl (by decide) (by omega) rfl ?_
  refine g_goto C 25 dL_takeDifference_10 (by decide) ?_
  refine n_iconst C 0 dL_takeDifference_25 ?_
  exact g_iret C E dL_takeDifference_26 (by rw [hR]; decide) (by rw [hR]; decide) ⟨rfl, a9, S9, h9, rfl⟩
set_option maxRecDepth 100000 in
theorem ht_takeDifference_IB {l : Launch} {S : pv_M} {a1 : Int32} {a2 : Int32} {px : pv_M → Prop} (hM : mth l MX11_takeDifference.th 106 [.ref 0, .int (a1), .int (a2)] S nIB px) : mtW l WL_takeDifference 106 [.ref 0, .int (a1), .int (a2), .ref 104] S (fun v S1 => v = some (.int (nI 1)) ∧ px S1) := by
  refine mtW_of (by decide) (Nat.le_of_ble_eq_true rfl) ?_
  intro x hl hR hmL C E hT hnc
  subst hl
  show GG x 106 0 0 [.ref 0, .int (a1), .int (a2), .ref 104, unk] [] S 0
  refine g_aload_n C dL_takeDifference_0 rfl ?_
  refine n_iconst C 0 dL_takeDifference_1 ?_
  refine g_aload_n C dL_takeDifference_2 rfl ?_
  refine g_iload_n C dL_takeDifference_3 rfl ?_
  refine g_iload_n C dL_takeDifference_4 rfl ?_
  refine g_catchA C hnc hT (As := [.int (a1), .int (a2)]) hM vo_L_114 dL_takeDifference_5 rfl rfl (by decide) rfl (rm_ok (M' := WL_takeDifference.1) hR (by decide)) (Nat.le_of_ble_eq_true rfl) [] [⟨0, 10, 17, 117⟩, ⟨0, 10, 21, 46⟩] ⟨0, 10, 13, 13⟩ rfl (fun _ h => absurd h List.not_mem_nil) (by decide) (by decide) clk_13 cst_IB (by rw [hmL]; decide) dL_takeDifference_13 [.ref 0, .int (a1), .int (a2), .ref 104, unk] rfl (fun S9 h9 => ?_)
  refine n_iconst C 1 dL_takeDifference_15 ?_
  exact g_iret C E dL_takeDifference_16 (by rw [hR]; decide) (by rw [hR]; decide) ⟨rfl, h9⟩
set_option maxRecDepth 100000 in
theorem ht_takeDifference_NS {l : Launch} {S : pv_M} {a1 : Int32} {a2 : Int32} {px : pv_M → Prop} (hM : mth l MX11_takeDifference.th 106 [.ref 0, .int (a1), .int (a2)] S nNS px) : mtW l WL_takeDifference 106 [.ref 0, .int (a1), .int (a2), .ref 104] S (fun v S1 => v = some (.int (nI 2)) ∧ px S1) := by
  refine mtW_of (by decide) (Nat.le_of_ble_eq_true rfl) ?_
  intro x hl hR hmL C E hT hnc
  subst hl
  show GG x 106 0 0 [.ref 0, .int (a1), .int (a2), .ref 104, unk] [] S 0
  refine g_aload_n C dL_takeDifference_0 rfl ?_
  refine n_iconst C 0 dL_takeDifference_1 ?_
  refine g_aload_n C dL_takeDifference_2 rfl ?_
  refine g_iload_n C dL_takeDifference_3 rfl ?_
  refine g_iload_n C dL_takeDifference_4 rfl ?_
  refine g_catchA C hnc hT (As := [.int (a1), .int (a2)]) hM vo_L_114 dL_takeDifference_5 rfl rfl (by decide) rfl (rm_ok (M' := WL_takeDifference.1) hR (by decide)) (Nat.le_of_ble_eq_true rfl) [⟨0, 10, 13, 13⟩] [⟨0, 10, 21, 46⟩] ⟨0, 10, 17, 117⟩ rfl (List.forall_mem_cons.mpr ⟨⟨by decide, nIB, clk_13, by decide +kernel⟩, (fun _ h => absurd h List.not_mem_nil)⟩) (by decide) (by decide) clk_117 cst_NS (by rw [hmL]; decide) dL_takeDifference_17 [.ref 0, .int (a1), .int (a2), .ref 104, unk] rfl (fun S9 h9 => ?_)
  refine n_iconst C 2 dL_takeDifference_19 ?_
  exact g_iret C E dL_takeDifference_20 (by rw [hR]; decide) (by rw [hR]; decide) ⟨rfl, h9⟩
set_option maxRecDepth 100000 in
theorem ht_takeDifference_IS {l : Launch} {S : pv_M} {a1 : Int32} {a2 : Int32} {px : pv_M → Prop} (hM : mth l MX11_takeDifference.th 106 [.ref 0, .int (a1), .int (a2)] S nIS px) : mtW l WL_takeDifference 106 [.ref 0, .int (a1), .int (a2), .ref 104] S (fun v S1 => v = some (.int (nI 3)) ∧ px S1) := by
  refine mtW_of (by decide) (Nat.le_of_ble_eq_true rfl) ?_
  intro x hl hR hmL C E hT hnc
  subst hl
  show GG x 106 0 0 [.ref 0, .int (a1), .int (a2), .ref 104, unk] [] S 0
  refine g_aload_n C dL_takeDifference_0 rfl ?_
  refine n_iconst C 0 dL_takeDifference_1 ?_
  refine g_aload_n C dL_takeDifference_2 rfl ?_
  refine g_iload_n C dL_takeDifference_3 rfl ?_
  refine g_iload_n C dL_takeDifference_4 rfl ?_
  refine g_catchA C hnc hT (As := [.int (a1), .int (a2)]) hM vo_L_114 dL_takeDifference_5 rfl rfl (by decide) rfl (rm_ok (M' := WL_takeDifference.1) hR (by decide)) (Nat.le_of_ble_eq_true rfl) [⟨0, 10, 13, 13⟩, ⟨0, 10, 17, 117⟩] [] ⟨0, 10, 21, 46⟩ rfl (List.forall_mem_cons.mpr ⟨⟨by decide, nIB, clk_13, by decide +kernel⟩, (List.forall_mem_cons.mpr ⟨⟨by decide, nNS, clk_117, by decide +kernel⟩, (fun _ h => absurd h List.not_mem_nil)⟩)⟩) (by decide) (by decide) clk_46 cst_IS (by rw [hmL]; decide) dL_takeDifference_21 [.ref 0, .int (a1), .int (a2), .ref 104, unk] rfl (fun S9 h9 => ?_)
  refine n_iconst C 3 dL_takeDifference_23 ?_
  exact g_iret C E dL_takeDifference_24 (by rw [hR]; decide) (by rw [hR]; decide) ⟨rfl, h9⟩
theorem vo_L_119 : VO RL 119 10 MX11_share 2 := ⟨_, ko_X11.1, tb_all _ [1102, 1103, 1104, 55, 1105] (by decide +kernel) (by decide +kernel), by decide +kernel⟩
abbrev WL_share : MeW := ((yL_share, cL_share, 5, some .int, { frames := 11, cells := 1, slots := 6, locals := 223 }), [(0, 9, 12, 13), (0, 9, 16, 15)])
set_option maxRecDepth 100000 in
theorem hr_share {l : Launch} {S : pv_M} {a1 : Int32} {a2 : Int32} {P : UInt64 → pv_M → Prop} (hM : mt l MX11_share 106 [.ref 0, .int (a1), .int (a2)] S (fun v S' => ∃ a, v = some (.double a) ∧ P a S')) : mtW l WL_share 106 [.ref 0, .int (a1), .int (a2), .ref 105] S (fun v S1 => v = some (.int (nI 0)) ∧ ∃ a S0, P a S0 ∧ S1 = wD S0 105 (va_up (mD S0 105) 0 a)) := by
  refine mtW_of (by decide) (Nat.le_of_ble_eq_true rfl) ?_
  intro x hl hR hmL C E hT hnc
  subst hl
  show GG x 106 0 0 [.ref 0, .int (a1), .int (a2), .ref 105, unk] [] S 0
  refine g_aload_n C dL_share_0 rfl ?_
  refine n_iconst C 0 dL_share_1 ?_
  refine g_aload_n C dL_share_2 rfl ?_
  refine g_iload_n C dL_share_3 rfl ?_
  refine g_iload_n C dL_share_4 rfl ?_
  refine g_callV C (As := [.int (a1), .int (a2)]) hM vo_L_119 dL_share_5 rfl rfl (by decide) rfl (rm_ok (M' := WL_share.1) hR (by decide)) (Nat.le_of_ble_eq_true rfl) (fun v9 S9 h9 => ?_)
  obtain ⟨a9, rfl, h9⟩ := h9
  refine g_n0 [.double (a9), .int (nI (0)), .ref 105] rfl rfl rfl ?_
  refine g_dast C dL_share_8 rfl (by decide) (by omega) rfl ?_
  refine g_goto C 20 dL_share_9 (by decide) ?_
  refine n_iconst C 0 dL_share_20 ?_
  exact g_iret C E dL_share_21 (by rw [hR]; decide) (by rw [hR]; decide) ⟨rfl, a9, S9, h9, rfl⟩
set_option maxRecDepth 100000 in
theorem ht_share_IB {l : Launch} {S : pv_M} {a1 : Int32} {a2 : Int32} {px : pv_M → Prop} (hM : mth l MX11_share.th 106 [.ref 0, .int (a1), .int (a2)] S nIB px) : mtW l WL_share 106 [.ref 0, .int (a1), .int (a2), .ref 105] S (fun v S1 => v = some (.int (nI 1)) ∧ px S1) := by
  refine mtW_of (by decide) (Nat.le_of_ble_eq_true rfl) ?_
  intro x hl hR hmL C E hT hnc
  subst hl
  show GG x 106 0 0 [.ref 0, .int (a1), .int (a2), .ref 105, unk] [] S 0
  refine g_aload_n C dL_share_0 rfl ?_
  refine n_iconst C 0 dL_share_1 ?_
  refine g_aload_n C dL_share_2 rfl ?_
  refine g_iload_n C dL_share_3 rfl ?_
  refine g_iload_n C dL_share_4 rfl ?_
  refine g_catchA C hnc hT (As := [.int (a1), .int (a2)]) hM vo_L_119 dL_share_5 rfl rfl (by decide) rfl (rm_ok (M' := WL_share.1) hR (by decide)) (Nat.le_of_ble_eq_true rfl) [] [⟨0, 9, 16, 15⟩] ⟨0, 9, 12, 13⟩ rfl (fun _ h => absurd h List.not_mem_nil) (by decide) (by decide) clk_13 cst_IB (by rw [hmL]; decide) dL_share_12 [.ref 0, .int (a1), .int (a2), .ref 105, unk] rfl (fun S9 h9 => ?_)
  refine n_iconst C 1 dL_share_14 ?_
  exact g_iret C E dL_share_15 (by rw [hR]; decide) (by rw [hR]; decide) ⟨rfl, h9⟩
set_option maxRecDepth 100000 in
theorem ht_share_IA {l : Launch} {S : pv_M} {a1 : Int32} {a2 : Int32} {px : pv_M → Prop} (hM : mth l MX11_share.th 106 [.ref 0, .int (a1), .int (a2)] S nIA px) : mtW l WL_share 106 [.ref 0, .int (a1), .int (a2), .ref 105] S (fun v S1 => v = some (.int (nI 2)) ∧ px S1) := by
  refine mtW_of (by decide) (Nat.le_of_ble_eq_true rfl) ?_
  intro x hl hR hmL C E hT hnc
  subst hl
  show GG x 106 0 0 [.ref 0, .int (a1), .int (a2), .ref 105, unk] [] S 0
  refine g_aload_n C dL_share_0 rfl ?_
  refine n_iconst C 0 dL_share_1 ?_
  refine g_aload_n C dL_share_2 rfl ?_
  refine g_iload_n C dL_share_3 rfl ?_
  refine g_iload_n C dL_share_4 rfl ?_
  refine g_catchA C hnc hT (As := [.int (a1), .int (a2)]) hM vo_L_119 dL_share_5 rfl rfl (by decide) rfl (rm_ok (M' := WL_share.1) hR (by decide)) (Nat.le_of_ble_eq_true rfl) [⟨0, 9, 12, 13⟩] [] ⟨0, 9, 16, 15⟩ rfl (List.forall_mem_cons.mpr ⟨⟨by decide, nIB, clk_13, by decide +kernel⟩, (fun _ h => absurd h List.not_mem_nil)⟩) (by decide) (by decide) clk_15 cst_IA (by rw [hmL]; decide) dL_share_16 [.ref 0, .int (a1), .int (a2), .ref 105, unk] rfl (fun S9 h9 => ?_)
  refine n_iconst C 2 dL_share_18 ?_
  exact g_iret C E dL_share_19 (by rw [hR]; decide) (by rw [hR]; decide) ⟨rfl, h9⟩
theorem vo_L_123 : VO RL 123 10 MX11_keepShares 4 := ⟨_, ko_X11.1, tb_all _ [1128, 1129, 1130, 55, 1131] (by decide +kernel) (by decide +kernel), by decide +kernel⟩
abbrev WL_keepShares : MeW := ((yL_keepShares, cL_keepShares, 6, some .int, { frames := 11, cells := 1, slots := 6, locals := 225 }), [(0, 9, 12, 13), (0, 9, 16, 15)])
set_option maxRecDepth 100000 in
theorem hr_keepShares {l : Launch} {S : pv_M} {a1 : Int32} {a2 : Int32} {a3 : Int32} {a4 : Bool} {P : pv_M → Prop} (hM : mt l MX11_keepShares 106 [.ref 0, .int (a1), .int (a2), .int (a3), .int (bI (a4))] S (fun v S' => v = none ∧ P S')) : mtW l WL_keepShares 106 [.ref 0, .int (a1), .int (a2), .int (a3), .int (bI (a4))] S (fun v S1 => v = some (.int (nI 0)) ∧ P S1) := by
  refine mtW_of (by decide) (Nat.le_of_ble_eq_true rfl) ?_
  intro x hl hR hmL C E hT hnc
  subst hl
  show GG x 106 0 0 [.ref 0, .int (a1), .int (a2), .int (a3), .int (bI (a4)), unk] [] S 0
  refine g_aload_n C dL_keepShares_0 rfl ?_
  refine g_iload_n C dL_keepShares_1 rfl ?_
  refine g_iload_n C dL_keepShares_2 rfl ?_
  refine g_iload_n C dL_keepShares_3 rfl ?_
  refine g_iload C dL_keepShares_4 rfl ?_
  refine g_callV C (As := [.int (a1), .int (a2), .int (a3), .int (bI (a4))]) hM vo_L_123 dL_keepShares_6 rfl rfl (by decide) rfl (rm_ok (M' := WL_keepShares.1) hR (by decide)) (Nat.le_of_ble_eq_true rfl) (fun v9 S9 h9 => ?_)
  obtain ⟨rfl, h9⟩ := h9
  refine g_n0 [] rfl rfl rfl ?_
  refine g_goto C 20 dL_keepShares_9 (by decide) ?_
  refine n_iconst C 0 dL_keepShares_20 ?_
  exact g_iret C E dL_keepShares_21 (by rw [hR]; decide) (by rw [hR]; decide) ⟨rfl, h9⟩
set_option maxRecDepth 100000 in
theorem ht_keepShares_IB {l : Launch} {S : pv_M} {a1 : Int32} {a2 : Int32} {a3 : Int32} {a4 : Bool} {px : pv_M → Prop} (hM : mth l MX11_keepShares.th 106 [.ref 0, .int (a1), .int (a2), .int (a3), .int (bI (a4))] S nIB px) : mtW l WL_keepShares 106 [.ref 0, .int (a1), .int (a2), .int (a3), .int (bI (a4))] S (fun v S1 => v = some (.int (nI 1)) ∧ px S1) := by
  refine mtW_of (by decide) (Nat.le_of_ble_eq_true rfl) ?_
  intro x hl hR hmL C E hT hnc
  subst hl
  show GG x 106 0 0 [.ref 0, .int (a1), .int (a2), .int (a3), .int (bI (a4)), unk] [] S 0
  refine g_aload_n C dL_keepShares_0 rfl ?_
  refine g_iload_n C dL_keepShares_1 rfl ?_
  refine g_iload_n C dL_keepShares_2 rfl ?_
  refine g_iload_n C dL_keepShares_3 rfl ?_
  refine g_iload C dL_keepShares_4 rfl ?_
  refine g_catchA C hnc hT (As := [.int (a1), .int (a2), .int (a3), .int (bI (a4))]) hM vo_L_123 dL_keepShares_6 rfl rfl (by decide) rfl (rm_ok (M' := WL_keepShares.1) hR (by decide)) (Nat.le_of_ble_eq_true rfl) [] [⟨0, 9, 16, 15⟩] ⟨0, 9, 12, 13⟩ rfl (fun _ h => absurd h List.not_mem_nil) (by decide) (by decide) clk_13 cst_IB (by rw [hmL]; decide) dL_keepShares_12 [.ref 0, .int (a1), .int (a2), .int (a3), .int (bI (a4)), unk] rfl (fun S9 h9 => ?_)
  refine n_iconst C 1 dL_keepShares_14 ?_
  exact g_iret C E dL_keepShares_15 (by rw [hR]; decide) (by rw [hR]; decide) ⟨rfl, h9⟩
set_option maxRecDepth 100000 in
theorem ht_keepShares_IA {l : Launch} {S : pv_M} {a1 : Int32} {a2 : Int32} {a3 : Int32} {a4 : Bool} {px : pv_M → Prop} (hM : mth l MX11_keepShares.th 106 [.ref 0, .int (a1), .int (a2), .int (a3), .int (bI (a4))] S nIA px) : mtW l WL_keepShares 106 [.ref 0, .int (a1), .int (a2), .int (a3), .int (bI (a4))] S (fun v S1 => v = some (.int (nI 2)) ∧ px S1) := by
  refine mtW_of (by decide) (Nat.le_of_ble_eq_true rfl) ?_
  intro x hl hR hmL C E hT hnc
  subst hl
  show GG x 106 0 0 [.ref 0, .int (a1), .int (a2), .int (a3), .int (bI (a4)), unk] [] S 0
  refine g_aload_n C dL_keepShares_0 rfl ?_
  refine g_iload_n C dL_keepShares_1 rfl ?_
  refine g_iload_n C dL_keepShares_2 rfl ?_
  refine g_iload_n C dL_keepShares_3 rfl ?_
  refine g_iload C dL_keepShares_4 rfl ?_
  refine g_catchA C hnc hT (As := [.int (a1), .int (a2), .int (a3), .int (bI (a4))]) hM vo_L_123 dL_keepShares_6 rfl rfl (by decide) rfl (rm_ok (M' := WL_keepShares.1) hR (by decide)) (Nat.le_of_ble_eq_true rfl) [⟨0, 9, 12, 13⟩] [] ⟨0, 9, 16, 15⟩ rfl (List.forall_mem_cons.mpr ⟨⟨by decide, nIB, clk_13, by decide +kernel⟩, (fun _ h => absurd h List.not_mem_nil)⟩) (by decide) (by decide) clk_15 cst_IA (by rw [hmL]; decide) dL_keepShares_16 [.ref 0, .int (a1), .int (a2), .int (a3), .int (bI (a4)), unk] rfl (fun S9 h9 => ?_)
  refine n_iconst C 2 dL_keepShares_18 ?_
  exact g_iret C E dL_keepShares_19 (by rw [hR]; decide) (by rw [hR]; decide) ⟨rfl, h9⟩
theorem vo_L_127 : VO RL 127 10 MX11_remainder 3 := ⟨_, ko_X11.1, tb_all _ [1149, 1150, 1151, 55, 1152] (by decide +kernel) (by decide +kernel), by decide +kernel⟩
abbrev WL_remainder : MeW := ((yL_remainder, cL_remainder, 6, some .int, { frames := 10, cells := 1, slots := 6, locals := 204 }), [(0, 11, 14, 15), (0, 11, 18, 46), (0, 11, 22, 13), (0, 11, 26, 131)])
set_option maxRecDepth 100000 in
theorem hr_remainder {l : Launch} {S : pv_M} {a1 : Int32} {a2 : Int32} {a3 : Int32} {P : UInt64 → pv_M → Prop} (hM : mt l MX11_remainder 106 [.ref 0, .int (a1), .int (a2), .int (a3)] S (fun v S' => ∃ a, v = some (.double a) ∧ P a S')) : mtW l WL_remainder 106 [.ref 0, .int (a1), .int (a2), .int (a3), .ref 105] S (fun v S1 => v = some (.int (nI 0)) ∧ ∃ a S0, P a S0 ∧ S1 = wD S0 105 (va_up (mD S0 105) 0 a)) := by
  refine mtW_of (by decide) (Nat.le_of_ble_eq_true rfl) ?_
  intro x hl hR hmL C E hT hnc
  subst hl
  show GG x 106 0 0 [.ref 0, .int (a1), .int (a2), .int (a3), .ref 105, unk] [] S 0
  refine g_aload C dL_remainder_0 rfl ?_
  refine n_iconst C 0 dL_remainder_2 ?_
  refine g_aload_n C dL_remainder_3 rfl ?_
  refine g_iload_n C dL_remainder_4 rfl ?_
  refine g_iload_n C dL_remainder_5 rfl ?_
  refine g_iload_n C dL_remainder_6 rfl ?_
  refine g_callV C (As := [.int (a1), .int (a2), .int (a3)]) hM vo_L_127 dL_remainder_7 rfl rfl (by decide) rfl (rm_ok (M' := WL_remainder.1) hR (by decide)) (Nat.le_of_ble_eq_true rfl) (fun v9 S9 h9 => ?_)
  obtain ⟨a9, rfl, h9⟩ := h9
  refine g_n0 [.double (a9), .int (nI (0)), .ref 105] rfl rfl rfl ?_
  refine g_dast C dL_remainder_10 rfl (by decide) (by omega) rfl ?_
  refine g_goto C 30 dL_remainder_11 (by decide) ?_
  refine n_iconst C 0 dL_remainder_30 ?_
  exact g_iret C E dL_remainder_31 (by rw [hR]; decide) (by rw [hR]; decide) ⟨rfl, a9, S9, h9, rfl⟩
set_option maxRecDepth 100000 in
theorem ht_remainder_IA {l : Launch} {S : pv_M} {a1 : Int32} {a2 : Int32} {a3 : Int32} {px : pv_M → Prop} (hM : mth l MX11_remainder.th 106 [.ref 0, .int (a1), .int (a2), .int (a3)] S nIA px) : mtW l WL_remainder 106 [.ref 0, .int (a1), .int (a2), .int (a3), .ref 105] S (fun v S1 => v = some (.int (nI 1)) ∧ px S1) := by
  refine mtW_of (by decide) (Nat.le_of_ble_eq_true rfl) ?_
  intro x hl hR hmL C E hT hnc
  subst hl
  show GG x 106 0 0 [.ref 0, .int (a1), .int (a2), .int (a3), .ref 105, unk] [] S 0
  refine g_aload C dL_remainder_0 rfl ?_
  refine n_iconst C 0 dL_remainder_2 ?_
  refine g_aload_n C dL_remainder_3 rfl ?_
  refine g_iload_n C dL_remainder_4 rfl ?_
  refine g_iload_n C dL_remainder_5 rfl ?_
  refine g_iload_n C dL_remainder_6 rfl ?_
  refine g_catchA C hnc hT (As := [.int (a1), .int (a2), .int (a3)]) hM vo_L_127 dL_remainder_7 rfl rfl (by decide) rfl (rm_ok (M' := WL_remainder.1) hR (by decide)) (Nat.le_of_ble_eq_true rfl) [] [⟨0, 11, 18, 46⟩, ⟨0, 11, 22, 13⟩, ⟨0, 11, 26, 131⟩] ⟨0, 11, 14, 15⟩ rfl (fun _ h => absurd h List.not_mem_nil) (by decide) (by decide) clk_15 cst_IA (by rw [hmL]; decide) dL_remainder_14 [.ref 0, .int (a1), .int (a2), .int (a3), .ref 105, unk] rfl (fun S9 h9 => ?_)
  refine n_iconst C 1 dL_remainder_16 ?_
  exact g_iret C E dL_remainder_17 (by rw [hR]; decide) (by rw [hR]; decide) ⟨rfl, h9⟩
set_option maxRecDepth 100000 in
theorem ht_remainder_IS {l : Launch} {S : pv_M} {a1 : Int32} {a2 : Int32} {a3 : Int32} {px : pv_M → Prop} (hM : mth l MX11_remainder.th 106 [.ref 0, .int (a1), .int (a2), .int (a3)] S nIS px) : mtW l WL_remainder 106 [.ref 0, .int (a1), .int (a2), .int (a3), .ref 105] S (fun v S1 => v = some (.int (nI 2)) ∧ px S1) := by
  refine mtW_of (by decide) (Nat.le_of_ble_eq_true rfl) ?_
  intro x hl hR hmL C E hT hnc
  subst hl
  show GG x 106 0 0 [.ref 0, .int (a1), .int (a2), .int (a3), .ref 105, unk] [] S 0
  refine g_aload C dL_remainder_0 rfl ?_
  refine n_iconst C 0 dL_remainder_2 ?_
  refine g_aload_n C dL_remainder_3 rfl ?_
  refine g_iload_n C dL_remainder_4 rfl ?_
  refine g_iload_n C dL_remainder_5 rfl ?_
  refine g_iload_n C dL_remainder_6 rfl ?_
  refine g_catchA C hnc hT (As := [.int (a1), .int (a2), .int (a3)]) hM vo_L_127 dL_remainder_7 rfl rfl (by decide) rfl (rm_ok (M' := WL_remainder.1) hR (by decide)) (Nat.le_of_ble_eq_true rfl) [⟨0, 11, 14, 15⟩] [⟨0, 11, 22, 13⟩, ⟨0, 11, 26, 131⟩] ⟨0, 11, 18, 46⟩ rfl (List.forall_mem_cons.mpr ⟨⟨by decide, nIA, clk_15, by decide +kernel⟩, (fun _ h => absurd h List.not_mem_nil)⟩) (by decide) (by decide) clk_46 cst_IS (by rw [hmL]; decide) dL_remainder_18 [.ref 0, .int (a1), .int (a2), .int (a3), .ref 105, unk] rfl (fun S9 h9 => ?_)
  refine n_iconst C 2 dL_remainder_20 ?_
  exact g_iret C E dL_remainder_21 (by rw [hR]; decide) (by rw [hR]; decide) ⟨rfl, h9⟩
set_option maxRecDepth 100000 in
theorem ht_remainder_IB {l : Launch} {S : pv_M} {a1 : Int32} {a2 : Int32} {a3 : Int32} {px : pv_M → Prop} (hM : mth l MX11_remainder.th 106 [.ref 0, .int (a1), .int (a2), .int (a3)] S nIB px) : mtW l WL_remainder 106 [.ref 0, .int (a1), .int (a2), .int (a3), .ref 105] S (fun v S1 => v = some (.int (nI 3)) ∧ px S1) := by
  refine mtW_of (by decide) (Nat.le_of_ble_eq_true rfl) ?_
  intro x hl hR hmL C E hT hnc
  subst hl
  show GG x 106 0 0 [.ref 0, .int (a1), .int (a2), .int (a3), .ref 105, unk] [] S 0
  refine g_aload C dL_remainder_0 rfl ?_
  refine n_iconst C 0 dL_remainder_2 ?_
  refine g_aload_n C dL_remainder_3 rfl ?_
  refine g_iload_n C dL_remainder_4 rfl ?_
  refine g_iload_n C dL_remainder_5 rfl ?_
  refine g_iload_n C dL_remainder_6 rfl ?_
  refine g_catchA C hnc hT (As := [.int (a1), .int (a2), .int (a3)]) hM vo_L_127 dL_remainder_7 rfl rfl (by decide) rfl (rm_ok (M' := WL_remainder.1) hR (by decide)) (Nat.le_of_ble_eq_true rfl) [⟨0, 11, 14, 15⟩, ⟨0, 11, 18, 46⟩] [⟨0, 11, 26, 131⟩] ⟨0, 11, 22, 13⟩ rfl (List.forall_mem_cons.mpr ⟨⟨by decide, nIA, clk_15, by decide +kernel⟩, (List.forall_mem_cons.mpr ⟨⟨by decide, nIS, clk_46, by decide +kernel⟩, (fun _ h => absurd h List.not_mem_nil)⟩)⟩) (by decide) (by decide) clk_13 cst_IB (by rw [hmL]; decide) dL_remainder_22 [.ref 0, .int (a1), .int (a2), .int (a3), .ref 105, unk] rfl (fun S9 h9 => ?_)
  refine n_iconst C 3 dL_remainder_24 ?_
  exact g_iret C E dL_remainder_25 (by rw [hR]; decide) (by rw [hR]; decide) ⟨rfl, h9⟩
set_option maxRecDepth 100000 in
theorem ht_remainder_AR {l : Launch} {S : pv_M} {a1 : Int32} {a2 : Int32} {a3 : Int32} {px : pv_M → Prop} (hM : mth l MX11_remainder.th 106 [.ref 0, .int (a1), .int (a2), .int (a3)] S nAR px) : mtW l WL_remainder 106 [.ref 0, .int (a1), .int (a2), .int (a3), .ref 105] S (fun v S1 => v = some (.int (nI 4)) ∧ px S1) := by
  refine mtW_of (by decide) (Nat.le_of_ble_eq_true rfl) ?_
  intro x hl hR hmL C E hT hnc
  subst hl
  show GG x 106 0 0 [.ref 0, .int (a1), .int (a2), .int (a3), .ref 105, unk] [] S 0
  refine g_aload C dL_remainder_0 rfl ?_
  refine n_iconst C 0 dL_remainder_2 ?_
  refine g_aload_n C dL_remainder_3 rfl ?_
  refine g_iload_n C dL_remainder_4 rfl ?_
  refine g_iload_n C dL_remainder_5 rfl ?_
  refine g_iload_n C dL_remainder_6 rfl ?_
  refine g_catchA C hnc hT (As := [.int (a1), .int (a2), .int (a3)]) hM vo_L_127 dL_remainder_7 rfl rfl (by decide) rfl (rm_ok (M' := WL_remainder.1) hR (by decide)) (Nat.le_of_ble_eq_true rfl) [⟨0, 11, 14, 15⟩, ⟨0, 11, 18, 46⟩, ⟨0, 11, 22, 13⟩] [] ⟨0, 11, 26, 131⟩ rfl (List.forall_mem_cons.mpr ⟨⟨by decide, nIA, clk_15, by decide +kernel⟩, (List.forall_mem_cons.mpr ⟨⟨by decide, nIS, clk_46, by decide +kernel⟩, (List.forall_mem_cons.mpr ⟨⟨by decide, nIB, clk_13, by decide +kernel⟩, (fun _ h => absurd h List.not_mem_nil)⟩)⟩)⟩) (by decide) (by decide) clk_131 cst_AR (by rw [hmL]; decide) dL_remainder_26 [.ref 0, .int (a1), .int (a2), .int (a3), .ref 105, unk] rfl (fun S9 h9 => ?_)
  refine n_iconst C 4 dL_remainder_28 ?_
  exact g_iret C E dL_remainder_29 (by rw [hR]; decide) (by rw [hR]; decide) ⟨rfl, h9⟩
theorem vo_L_133 : VO RL 133 10 MX11_restore 0 := ⟨_, ko_X11.1, tb_all _ [1175, 1176, 1177, 55, 1178] (by decide +kernel) (by decide +kernel), by decide +kernel⟩
abbrev WL_restore : MeW := ((yL_restore, cL_restore, 2, some .int, { frames := 9, cells := 1, slots := 6, locals := 181 }), [(0, 4, 7, 46)])
set_option maxRecDepth 100000 in
theorem hr_restore {l : Launch} {S : pv_M}  {P : pv_M → Prop} (hM : mt l MX11_restore 106 [.ref 0] S (fun v S' => v = none ∧ P S')) : mtW l WL_restore 106 [.ref 0] S (fun v S1 => v = some (.int (nI 0)) ∧ P S1) := by
  refine mtW_of (by decide) (Nat.le_of_ble_eq_true rfl) ?_
  intro x hl hR hmL C E hT hnc
  subst hl
  show GG x 106 0 0 [.ref 0, unk] [] S 0
  refine g_aload_n C dL_restore_0 rfl ?_
  refine g_callV C (As := []) hM vo_L_133 dL_restore_1 rfl rfl (by decide) rfl (rm_ok (M' := WL_restore.1) hR (by decide)) (Nat.le_of_ble_eq_true rfl) (fun v9 S9 h9 => ?_)
  obtain ⟨rfl, h9⟩ := h9
  refine g_n0 [] rfl rfl rfl ?_
  refine g_goto C 10 dL_restore_4 (by decide) ?_
  refine n_iconst C 0 dL_restore_10 ?_
  exact g_iret C E dL_restore_11 (by rw [hR]; decide) (by rw [hR]; decide) ⟨rfl, h9⟩
set_option maxRecDepth 100000 in
theorem ht_restore_IS {l : Launch} {S : pv_M}  {px : pv_M → Prop} (hM : mth l MX11_restore.th 106 [.ref 0] S nIS px) : mtW l WL_restore 106 [.ref 0] S (fun v S1 => v = some (.int (nI 1)) ∧ px S1) := by
  refine mtW_of (by decide) (Nat.le_of_ble_eq_true rfl) ?_
  intro x hl hR hmL C E hT hnc
  subst hl
  show GG x 106 0 0 [.ref 0, unk] [] S 0
  refine g_aload_n C dL_restore_0 rfl ?_
  refine g_catchN C hnc hT (As := []) hM vo_L_133 dL_restore_1 rfl rfl (by decide) rfl (rm_ok (M' := WL_restore.1) hR (by decide)) (Nat.le_of_ble_eq_true rfl) [] [] ⟨0, 4, 7, 46⟩ rfl (fun _ h => absurd h List.not_mem_nil) (by decide) (by decide) clk_46 cst_IS (by rw [hmL]; decide) dL_restore_7 [.ref 0, unk] rfl (fun S9 h9 => ?_)
  refine n_iconst C 1 dL_restore_8 ?_
  exact g_iret C E dL_restore_9 (by rw [hR]; decide) (by rw [hR]; decide) ⟨rfl, h9⟩
