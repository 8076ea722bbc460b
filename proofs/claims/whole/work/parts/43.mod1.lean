set_option maxRecDepth 100000 in
theorem k_in (l : Launch) {S : pv_M} {v lo hi : Int32} (a1 : ¬ v < lo) (a2 : ¬ hi < v) : mt l MX12_in 106 [.int (v), .int (lo), .int (hi)] S (fun v S' => v = some (.int (bI true)) ∧ S' = S) := by
  refine mt_of (by decide) (Nat.le_of_ble_eq_true rfl) ?_
  intro x hl hR hmL C E
  show GG x 106 0 0 [.int (v), .int (lo), .int (hi)] [] S 0
  refine g_iload_n C dX12_in_0 rfl ?_
  refine g_iload_n C dX12_in_1 rfl ?_
  refine g_ic_lt C 14 dX12_in_2 (by decide) (fun h2 => absurd h2 a1) (fun h2 => ?_)
  refine g_iload_n C dX12_in_5 rfl ?_
  refine g_iload_n C dX12_in_6 rfl ?_
  refine g_ic_gt C 14 dX12_in_7 (by decide) (fun h7 => absurd h7 a2) (fun h7 => ?_)
  refine n_iconst C 1 dX12_in_10 ?_
  refine g_goto C 15 dX12_in_11 (by decide) ?_
  exact g_zret C E dX12_in_15 (Or.inr rfl) (by rw [hR]; decide) (by rw [hR]; decide) ⟨rfl, rfl⟩

set_option maxRecDepth 100000 in
theorem k_inF (l : Launch) {S : pv_M} {v lo hi : Int32} (a1 : v < lo ∨ hi < v) : mt l MX12_in 106 [.int (v), .int (lo), .int (hi)] S (fun v S' => v = some (.int (bI false)) ∧ S' = S) := by
  refine mt_of (by decide) (Nat.le_of_ble_eq_true rfl) ?_
  intro x hl hR hmL C E
  show GG x 106 0 0 [.int (v), .int (lo), .int (hi)] [] S 0
  refine g_iload_n C dX12_in_0 rfl ?_
  refine g_iload_n C dX12_in_1 rfl ?_
  refine g_ic_lt C 14 dX12_in_2 (by decide) (fun h2 => ?_) (fun h2 => ?_)
  · refine n_iconst C 0 dX12_in_14 ?_
    exact g_zret C E dX12_in_15 (Or.inl rfl) (by rw [hR]; decide) (by rw [hR]; decide) ⟨rfl, rfl⟩
  · refine g_iload_n C dX12_in_5 rfl ?_
    refine g_iload_n C dX12_in_6 rfl ?_
    refine g_ic_gt C 14 dX12_in_7 (by decide) (fun h7 => ?_) (fun h7 => absurd (a1.resolve_left h2) h7)
    refine n_iconst C 0 dX12_in_14 ?_
    exact g_zret C E dX12_in_15 (Or.inl rfl) (by rw [hR]; decide) (by rw [hR]; decide) ⟨rfl, rfl⟩

set_option maxRecDepth 100000 in
theorem k_fails (l : Launch) {S : pv_M} (hS : GS S) {c : Nat} : mt l MX12_fails 106 [.ref 75, .int (nI (c))] S (fun v S' => v = some (.int (nI 0)) ∧ S' = th S c) := by
  refine mt_of (by decide) (Nat.le_of_ble_eq_true rfl) ?_
  intro x hl hR hmL C E
  show GG x 106 0 0 [.ref 75, .int (nI (c))] [] S 0
  refine g_aload_n C dX12_fails_0 rfl ?_
  refine g_iload_n C dX12_fails_1 rfl ?_
  refine g_putI C fo_X12_98 dX12_fails_2 rfl (by decide) rfl ?_
  refine n_iconst C 0 dX12_fails_5 ?_
  exact g_iret C E dX12_fails_6 (by rw [hR]; decide) (by rw [hR]; decide) ⟨rfl, rfl⟩

set_option maxRecDepth 100000 in
theorem k_not (l : Launch) {S : pv_M} (hS : GS S) {c : Nat} : mt l MX12_not 106 [.ref 75, .int (nI (c))] S (fun v S' => v = some (.int (bI false)) ∧ S' = th S c) := by
  refine mt_of (by decide) (Nat.le_of_ble_eq_true rfl) ?_
  intro x hl hR hmL C E
  show GG x 106 0 0 [.ref 75, .int (nI (c))] [] S 0
  refine g_aload_n C dX12_not_0 rfl ?_
  refine g_iload_n C dX12_not_1 rfl ?_
  refine g_putI C fo_X12_98 dX12_not_2 rfl (by decide) rfl ?_
  refine n_iconst C 0 dX12_not_5 ?_
  exact g_zret C E dX12_not_6 (Or.inl rfl) (by rw [hR]; decide) (by rw [hR]; decide) ⟨rfl, rfl⟩

set_option maxRecDepth 100000 in
theorem k_done (l : Launch) {S : pv_M} (hS : GS S) {c : Int32} : mt l MX12_done 106 [.ref 75, .int (c)] S (fun v S' => v = some (.int c) ∧ S' = th S 0) := by
  refine mt_of (by decide) (Nat.le_of_ble_eq_true rfl) ?_
  intro x hl hR hmL C E
  show GG x 106 0 0 [.ref 75, .int (c)] [] S 0
  refine g_aload_n C dX12_done_0 rfl ?_
  refine n_iconst C 0 dX12_done_1 ?_
  refine g_putI C fo_X12_98 dX12_done_2 rfl (by decide) rfl ?_
  refine g_iload_n C dX12_done_5 rfl ?_
  exact g_iret C E dX12_done_6 (by rw [hR]; decide) (by rw [hR]; decide) ⟨rfl, rfl⟩

set_option maxRecDepth 100000 in
theorem k_so (l : Launch) {S : pv_M} (hS : GS S) {c : Bool} : mt l MX12_so 106 [.ref 75, .int (bI (c))] S (fun v S' => v = some (.int (bI c)) ∧ S' = th S 0) := by
  refine mt_of (by decide) (Nat.le_of_ble_eq_true rfl) ?_
  intro x hl hR hmL C E
  show GG x 106 0 0 [.ref 75, .int (bI (c))] [] S 0
  refine g_aload_n C dX12_so_0 rfl ?_
  refine n_iconst C 0 dX12_so_1 ?_
  refine g_putI C fo_X12_98 dX12_so_2 rfl (by decide) rfl ?_
  refine g_iload_n C dX12_so_5 rfl ?_
  exact g_zret C E dX12_so_6 (bI_01 _) (by rw [hR]; decide) (by rw [hR]; decide) ⟨rfl, rfl⟩

set_option maxRecDepth 100000 in
theorem k_thrown (l : Launch) {S : pv_M} (hS : GS S) {c : Int32} (h : mI S 75 0 = c) : mt l MX12_thrown 106 [.ref 75] S (fun v S' => v = some (.int c) ∧ S' = S) := by
  refine mt_of (by decide) (Nat.le_of_ble_eq_true rfl) ?_
  intro x hl hR hmL C E
  show GG x 106 0 0 [.ref 75] [] S 0
  refine g_aload_n C dX12_thrown_0 rfl ?_
  refine g_getI C (a := (c)) fo_X12_98 dX12_thrown_1 rfl (by decide) (fun _ => rfl) h ?_
  exact g_iret C E dX12_thrown_4 (by rw [hR]; decide) (by rw [hR]; decide) ⟨rfl, rfl⟩

set_option maxRecDepth 100000 in
theorem k_isRegister (l : Launch) {S : pv_M} {j : Nat} (hj : j < 3) : mt l MX12_isRegister 106 [.int (nI (j))] S (fun v S' => v = some (.int (bI true)) ∧ S' = S) := by
  refine mt_of (by decide) (Nat.le_of_ble_eq_true rfl) ?_
  intro x hl hR hmL C E
  show GG x 106 0 0 [.int (nI (j))] [] S 0
  refine g_iload_n C dX12_isRegister_0 rfl ?_
  refine n_iconst C 0 dX12_isRegister_1 ?_
  refine n_iconst C 2 dX12_isRegister_2 ?_
  refine g_callS C (k_in _ (in_lo (by omega)) (in_hi (m := 3) hj (by decide))) so_X12_102 dX12_isRegister_3 rfl rfl (rm_ok (M' := MX12_isRegister) hR (by decide)) (Nat.le_of_ble_eq_true rfl) (fun v9 S9 h9 => ?_)
  obtain ⟨rfl, h9⟩ := h9
  refine g_S S h9 ?_
  refine g_n0 [.int (bI (true))] rfl rfl rfl ?_
  exact g_zret C E dX12_isRegister_6 (bI_01 _) (by rw [hR]; decide) (by rw [hR]; decide) ⟨rfl, rfl⟩

set_option maxRecDepth 100000 in
theorem k_isRegisterF (l : Launch) {S : pv_M} {p : Int32} (h : badI p 3) : mt l MX12_isRegister 106 [.int (p)] S (fun v S' => v = some (.int (bI false)) ∧ S' = S) := by
  refine mt_of (by decide) (Nat.le_of_ble_eq_true rfl) ?_
  intro x hl hR hmL C E
  show GG x 106 0 0 [.int (p)] [] S 0
  refine g_iload_n C dX12_isRegister_0 rfl ?_
  refine n_iconst C 0 dX12_isRegister_1 ?_
  refine n_iconst C 2 dX12_isRegister_2 ?_
  refine g_callS C (k_inF _ (in_badP h (by decide) (by decide))) so_X12_102 dX12_isRegister_3 rfl rfl (rm_ok (M' := MX12_isRegister) hR (by decide)) (Nat.le_of_ble_eq_true rfl) (fun v9 S9 h9 => ?_)
  obtain ⟨rfl, h9⟩ := h9
  refine g_S S h9 ?_
  refine g_n0 [.int (bI (false))] rfl rfl rfl ?_
  exact g_zret C E dX12_isRegister_6 (bI_01 _) (by rw [hR]; decide) (by rw [hR]; decide) ⟨rfl, rfl⟩

set_option maxRecDepth 100000 in
theorem k_isLetter (l : Launch) {S : pv_M} {j : Nat} (hj : j < 3) : mt l MX12_isLetter 106 [.int (nI (j))] S (fun v S' => v = some (.int (bI true)) ∧ S' = S) := by
  refine mt_of (by decide) (Nat.le_of_ble_eq_true rfl) ?_
  intro x hl hR hmL C E
  show GG x 106 0 0 [.int (nI (j))] [] S 0
  refine g_iload_n C dX12_isLetter_0 rfl ?_
  refine n_iconst C 0 dX12_isLetter_1 ?_
  refine n_iconst C 2 dX12_isLetter_2 ?_
  refine g_callS C (k_in _ (in_lo (by omega)) (in_hi (m := 3) hj (by decide))) so_X12_102 dX12_isLetter_3 rfl rfl (rm_ok (M' := MX12_isLetter) hR (by decide)) (Nat.le_of_ble_eq_true rfl) (fun v9 S9 h9 => ?_)
  obtain ⟨rfl, h9⟩ := h9
  refine g_S S h9 ?_
  refine g_n0 [.int (bI (true))] rfl rfl rfl ?_
  exact g_zret C E dX12_isLetter_6 (bI_01 _) (by rw [hR]; decide) (by rw [hR]; decide) ⟨rfl, rfl⟩

set_option maxRecDepth 100000 in
theorem k_isLetterF (l : Launch) {S : pv_M} {p : Int32} (h : badI p 3) : mt l MX12_isLetter 106 [.int (p)] S (fun v S' => v = some (.int (bI false)) ∧ S' = S) := by
  refine mt_of (by decide) (Nat.le_of_ble_eq_true rfl) ?_
  intro x hl hR hmL C E
  show GG x 106 0 0 [.int (p)] [] S 0
  refine g_iload_n C dX12_isLetter_0 rfl ?_
  refine n_iconst C 0 dX12_isLetter_1 ?_
  refine n_iconst C 2 dX12_isLetter_2 ?_
  refine g_callS C (k_inF _ (in_badP h (by decide) (by decide))) so_X12_102 dX12_isLetter_3 rfl rfl (rm_ok (M' := MX12_isLetter) hR (by decide)) (Nat.le_of_ble_eq_true rfl) (fun v9 S9 h9 => ?_)
  obtain ⟨rfl, h9⟩ := h9
  refine g_S S h9 ?_
  refine g_n0 [.int (bI (false))] rfl rfl rfl ?_
  exact g_zret C E dX12_isLetter_6 (bI_01 _) (by rw [hR]; decide) (by rw [hR]; decide) ⟨rfl, rfl⟩

set_option maxRecDepth 100000 in
theorem k_isState (l : Launch) {S : pv_M} {A : Ab} {j : Nat} (hS : GS S) (hM : MSt S A) (hj : j < 3) (hG : gdR (A.1.1 j)) {s : Nat} (hs : s < rN A j) : mt l MX12_isState 106 [.ref 75, .int (nI (j)), .int (nI (s))] S (fun v S' => v = some (.int (bI true)) ∧ S' = S) := by
  refine mt_of (by decide) (Nat.le_of_ble_eq_true rfl) ?_
  intro x hl hR hmL C E
  show GG x 106 0 0 [.ref 75, .int (nI (j)), .int (nI (s))] [] S 0
  have hn6 : rN A j ≤ 6 := hG.2.1
  have hn0 : 0 < rN A j := hG.1
  have hrn : rN A j = (A.1.1 j).1 := rfl
  refine g_iload_n C dX12_isState_0 rfl ?_
  refine g_callS C (k_isRegister _ hj) so_X12_106 dX12_isState_1 rfl rfl (rm_ok (M' := MX12_isState) hR (by decide)) (Nat.le_of_ble_eq_true rfl) (fun v9 S9 h9 => ?_)
  obtain ⟨rfl, h9⟩ := h9
  refine g_S S h9 ?_
  refine g_n0 [.int (bI (true))] rfl rfl rfl ?_
  refine b_if_eq C 38 dX12_isState_4 (fun h4 => absurd h4 (by decide)) (fun h4 => ?_)
  refine g_iload_n C dX12_isState_7 rfl ?_
  refine n_iconst C 0 dX12_isState_8 ?_
  refine g_aload_n C dX12_isState_9 rfl ?_
  refine g_getR C fo_X12_7 dX12_isState_10 rfl (by decide) (fun _ => rfl) (gs_75_1 hS) ?_
  refine g_iload_n C dX12_isState_13 rfl ?_
  refine g_callS C (k_isRegister _ hj) so_X12_106 dX12_isState_14 rfl rfl (rm_ok (M' := MX12_isState) hR (by decide)) (Nat.le_of_ble_eq_true rfl) (fun v9 S9 h9 => ?_)
  obtain ⟨rfl, h9⟩ := h9
  refine g_S S h9 ?_
  refine g_n0 [.int (bI (true)), .ref 76, .int (nI (0)), .int (nI (s))] rfl rfl rfl ?_
  refine b_if_eq C 24 dX12_isState_17 (fun h17 => absurd h17 (by decide)) (fun h17 => ?_)
  refine g_iload_n C dX12_isState_20 rfl ?_
  refine g_goto C 25 dX12_isState_21 (by decide) ?_
  refine n_iald C (v := (nI (rN A j))) dX12_isState_25 rfl (by decide) (hM.1.n hj) ?_ (by omega)
  refine n_iconst C 1 dX12_isState_26 ?_
  refine n_isub C dX12_isState_27 ?_ hn0
  refine g_callS C (k_in _ (in_lo (by omega)) (in_hi hs (by omega))) so_X12_102 dX12_isState_28 rfl rfl (rm_ok (M' := MX12_isState) hR (by decide)) (Nat.le_of_ble_eq_true rfl) (fun v9 S9 h9 => ?_)
  obtain ⟨rfl, h9⟩ := h9
  refine g_S S h9 ?_
  refine g_n0 [.int (bI (true))] rfl rfl rfl ?_
  refine b_if_eq C 38 dX12_isState_31 (fun h31 => absurd h31 (by decide)) (fun h31 => ?_)
  refine n_iconst C 1 dX12_isState_34 ?_
  refine g_goto C 39 dX12_isState_35 (by decide) ?_
  exact g_zret C E dX12_isState_39 (Or.inr rfl) (by rw [hR]; decide) (by rw [hR]; decide) ⟨rfl, rfl⟩

set_option maxRecDepth 100000 in
theorem k_isStateF (l : Launch) {S : pv_M} {A : Ab} {j : Nat} (hS : GS S) (hM : MSt S A) (hj : j < 3) (hG : gdR (A.1.1 j)) {p : Int32} (hs : badI p (rN A j)) : mt l MX12_isState 106 [.ref 75, .int (nI (j)), .int (p)] S (fun v S' => v = some (.int (bI false)) ∧ S' = S) := by
  refine mt_of (by decide) (Nat.le_of_ble_eq_true rfl) ?_
  intro x hl hR hmL C E
  show GG x 106 0 0 [.ref 75, .int (nI (j)), .int (p)] [] S 0
  have hn6 : rN A j ≤ 6 := hG.2.1
  have hn0 : 0 < rN A j := hG.1
  have hrn : rN A j = (A.1.1 j).1 := rfl
  refine g_iload_n C dX12_isState_0 rfl ?_
  refine g_callS C (k_isRegister _ hj) so_X12_106 dX12_isState_1 rfl rfl (rm_ok (M' := MX12_isState) hR (by decide)) (Nat.le_of_ble_eq_true rfl) (fun v9 S9 h9 => ?_)
  obtain ⟨rfl, h9⟩ := h9
  refine g_S S h9 ?_
  refine g_n0 [.int (bI (true))] rfl rfl rfl ?_
  refine b_if_eq C 38 dX12_isState_4 (fun h4 => absurd h4 (by decide)) (fun h4 => ?_)
  refine g_iload_n C dX12_isState_7 rfl ?_
  refine n_iconst C 0 dX12_isState_8 ?_
  refine g_aload_n C dX12_isState_9 rfl ?_
  refine g_getR C fo_X12_7 dX12_isState_10 rfl (by decide) (fun _ => rfl) (gs_75_1 hS) ?_
  refine g_iload_n C dX12_isState_13 rfl ?_
  refine g_callS C (k_isRegister _ hj) so_X12_106 dX12_isState_14 rfl rfl (rm_ok (M' := MX12_isState) hR (by decide)) (Nat.le_of_ble_eq_true rfl) (fun v9 S9 h9 => ?_)
  obtain ⟨rfl, h9⟩ := h9
  refine g_S S h9 ?_
  refine g_n0 [.int (bI (true)), .ref 76, .int (nI (0)), .int (p)] rfl rfl rfl ?_
  refine b_if_eq C 24 dX12_isState_17 (fun h17 => absurd h17 (by decide)) (fun h17 => ?_)
  refine g_iload_n C dX12_isState_20 rfl ?_
  refine g_goto C 25 dX12_isState_21 (by decide) ?_
  refine n_iald C (v := (nI (rN A j))) dX12_isState_25 rfl (by decide) (hM.1.n hj) ?_ (by omega)
  refine n_iconst C 1 dX12_isState_26 ?_
  refine n_isub C dX12_isState_27 ?_ hn0
  refine g_callS C (k_inF _ (in_badP hs hn0 (by omega))) so_X12_102 dX12_isState_28 rfl rfl (rm_ok (M' := MX12_isState) hR (by decide)) (Nat.le_of_ble_eq_true rfl) (fun v9 S9 h9 => ?_)
  obtain ⟨rfl, h9⟩ := h9
  refine g_S S h9 ?_
  refine g_n0 [.int (bI (false))] rfl rfl rfl ?_
  refine b_if_eq C 38 dX12_isState_31 (fun h31 => ?_) (fun h31 => absurd h31 (by decide))
  refine n_iconst C 0 dX12_isState_38 ?_
  exact g_zret C E dX12_isState_39 (Or.inl rfl) (by rw [hR]; decide) (by rw [hR]; decide) ⟨rfl, rfl⟩

set_option maxRecDepth 100000 in
theorem k_isStateR (l : Launch) {S : pv_M} {p : Int32} (hS : GS S) (h : badI p 3) {q : Int32} : mt l MX12_isState 106 [.ref 75, .int (p), .int (q)] S (fun v S' => v = some (.int (bI false)) ∧ S' = S) := by
  refine mt_of (by decide) (Nat.le_of_ble_eq_true rfl) ?_
  intro x hl hR hmL C E
  show GG x 106 0 0 [.ref 75, .int (p), .int (q)] [] S 0
  refine g_iload_n C dX12_isState_0 rfl ?_
  refine g_callS C (k_isRegisterF _ h) so_X12_106 dX12_isState_1 rfl rfl (rm_ok (M' := MX12_isState) hR (by decide)) (Nat.le_of_ble_eq_true rfl) (fun v9 S9 h9 => ?_)
  obtain ⟨rfl, h9⟩ := h9
  refine g_S S h9 ?_
  refine g_n0 [.int (bI (false))] rfl rfl rfl ?_
  refine b_if_eq C 38 dX12_isState_4 (fun h4 => ?_) (fun h4 => absurd h4 (by decide))
  refine n_iconst C 0 dX12_isState_38 ?_
  exact g_zret C E dX12_isState_39 (Or.inl rfl) (by rw [hR]; decide) (by rw [hR]; decide) ⟨rfl, rfl⟩

set_option maxRecDepth 100000 in
theorem k_place (l : Launch) {S : pv_M} {j s q : Nat} : mt l MX12_place 106 [.int (nI (j)), .int (nI (s)), .int (nI (q))] S (fun v S' => v = some (.int (nI (18 * j + 3 * s + q))) ∧ S' = S) := by
  refine mt_of (by decide) (Nat.le_of_ble_eq_true rfl) ?_
  intro x hl hR hmL C E
  show GG x 106 0 0 [.int (nI (j)), .int (nI (s)), .int (nI (q))] [] S 0
  refine n_bipush C 18 dX12_place_0 ?_
  refine g_iload_n C dX12_place_2 rfl ?_
  refine n_imul C dX12_place_3 ?_
  refine n_iconst C 3 dX12_place_4 ?_
  refine g_iload_n C dX12_place_5 rfl ?_
  refine n_imul C dX12_place_6 ?_
  refine n_iadd C dX12_place_7 ?_
  refine g_iload_n C dX12_place_8 rfl ?_
  refine n_iadd C dX12_place_9 ?_
  exact g_iret C E dX12_place_10 (by rw [hR]; decide) (by rw [hR]; decide) ⟨rfl, rfl⟩

set_option maxRecDepth 100000 in
theorem lq_clears {x : Cx} (hR : xR x = MX12_clears.rm) (hmL : (xc x).maxLocals = MX12_clears.nL) (C : BX x cX12_clears RX12) {S0 : pv_M} {g6 g8 : Nat → Int32} {j m s : Nat} (hj : j < 3) (hs : s < 6) (kk : ∀ S : pv_M, GS S → FN r3 S0 S → mI S 76 = g6 → mI S 77 = reg (18 * j) (3 * s + 3) (fun _ => nI 0) (mI S0 77) → mI S 78 = g8 → GG x 106 0 0 [.ref 75, .int (nI (j)), .int (nI (m)), .int (nI (s)), .int (nI (3))] [] (S) 55) : ∀ z i (S : pv_M), i + z = 3 → GS S → FN r3 S0 S → mI S 76 = g6 → mI S 77 = reg (18 * j) (3 * s + i) (fun _ => nI 0) (mI S0 77) → mI S 78 = g8 → GG x 106 0 0 [.ref 75, .int (nI (j)), .int (nI (m)), .int (nI (s)), .int (nI (i))] [] (S) 30 := by
  intro z
  induction z with
  | zero =>
    intro i S hz hS hf h6 h7 h8
    obtain rfl : 3 = i := by omega
    refine g_iload C dX12_clears_30 rfl ?_
    refine n_iconst C 3 dX12_clears_32 ?_
    refine n_ic_ge C 55 dX12_clears_33 (fun h33 => ?_) (fun h33 => absurd h33 (by omega))
    exact kk S hS hf h6 h7 h8
  | succ z ih =>
    intro i S hz hS hf h6 h7 h8
    refine g_iload C dX12_clears_30 rfl ?_
    refine n_iconst C 3 dX12_clears_32 ?_
    refine n_ic_ge C 55 dX12_clears_33 (fun h33 => absurd h33 (by omega)) (fun h33 => ?_)
    refine g_aload_n C dX12_clears_36 rfl ?_
    refine g_getR C fo_X12_13 dX12_clears_37 rfl (by decide) (fun _ => rfl) (gs_75_2 hS) ?_
    refine g_iload_n C dX12_clears_40 rfl ?_
    refine g_iload_n C dX12_clears_41 rfl ?_
    refine g_iload C dX12_clears_42 rfl ?_
    refine g_callS C (k_place _) so_X12_110 dX12_clears_44 rfl rfl (rm_ok (M' := MX12_clears) hR (by decide)) (Nat.le_of_ble_eq_true rfl) (fun v9 S9 h9 => ?_)
    obtain ⟨rfl, h9⟩ := h9
    refine g_S S h9 ?_
    refine g_n0 [.int (nI (18 * j + 3 * s + i)), .ref 77] rfl rfl rfl ?_
    refine n_iconst C 0 dX12_clears_47 ?_
    refine g_iast C dX12_clears_48 rfl (by decide) (by omega) rfl ?_
    refine n_iinc C (by rw [hmL]; decide) dX12_clears_49 rfl (n_i1 _) [.ref 75, .int (nI (j)), .int (nI (m)), .int (nI (s)), .int (nI (i + 1))] ?_
    refine g_goto C 30 dX12_clears_52 (by decide) ?_
    refine ih (i + 1) _ (by omega) (hS.fn (FN.wI (P := r3) (by decide))) (hf.tr (FN.wI (by decide))) h6 (reg_I (i := 3 * s + i) h7 (by omega) rfl) h8

set_option maxRecDepth 100000 in
theorem lp_clears {x : Cx} (hR : xR x = MX12_clears.rm) (hmL : (xc x).maxLocals = MX12_clears.nL) (C : BX x cX12_clears RX12) {S0 : pv_M} {g6 : Nat → Int32} {j m : Nat} (hj : j < 3) (kk : ∀ S : pv_M, GS S → FN r3 S0 S → mI S 76 = g6 → mI S 77 = reg (18 * j) (3 * 6) (fun _ => nI 0) (mI S0 77) → mI S 78 = reg (6 * j) 6 (fun _ => bI false) (mI S0 78) → GG x 106 0 0 [.ref 75, .int (nI (j)), .int (nI (m)), .int (nI (6)), unk] [] (S) 61) : ∀ z i (S : pv_M), i + z = 6 → GS S → FN r3 S0 S → mI S 76 = g6 → mI S 77 = reg (18 * j) (3 * i) (fun _ => nI 0) (mI S0 77) → mI S 78 = reg (6 * j) i (fun _ => bI false) (mI S0 78) → GG x 106 0 0 [.ref 75, .int (nI (j)), .int (nI (m)), .int (nI (i)), unk] [] (S) 9 := by
  intro z
  induction z with
  | zero =>
    intro i S hz hS hf h6 h7 h8
    obtain rfl : 6 = i := by omega
    refine g_iload_n C dX12_clears_9 rfl ?_
    refine n_bipush C 6 dX12_clears_10 ?_
    refine n_ic_ge C 61 dX12_clears_12 (fun h12 => ?_) (fun h12 => absurd h12 (by omega))
    exact kk S hS hf h6 h7 h8
  | succ z ih =>
    intro i S hz hS hf h6 h7 h8
    refine g_iload_n C dX12_clears_9 rfl ?_
    refine n_bipush C 6 dX12_clears_10 ?_
    refine n_ic_ge C 61 dX12_clears_12 (fun h12 => absurd h12 (by omega)) (fun h12 => ?_)
    refine g_aload_n C dX12_clears_15 rfl ?_
    refine g_getR C fo_X12_16 dX12_clears_16 rfl (by decide) (fun _ => rfl) (gs_75_3 hS) ?_
    refine n_bipush C 6 dX12_clears_19 ?_
    refine g_iload_n C dX12_clears_21 rfl ?_
    refine n_imul C dX12_clears_22 ?_
    refine g_iload_n C dX12_clears_23 rfl ?_
    refine n_iadd C dX12_clears_24 ?_
    refine n_iconst C 0 dX12_clears_25 ?_
    refine g_zast C dX12_clears_26 rfl (by decide) (by omega) rfl rfl ?_
    refine n_iconst C 0 dX12_clears_27 ?_
    refine g_istore C (by rw [hmL]; decide) dX12_clears_28 [.ref 75, .int (nI (j)), .int (nI (m)), .int (nI (i)), .int (nI (0))] rfl ?_
    refine lq_clears hR hmL C hj (s := i) (by omega) (fun S2 hS2 hf2 h62 h72 h82 => ?_) 3 0 _ rfl (hS.fn (FN.wI (P := r3) (by decide))) (hf.tr (FN.wI (by decide))) h6 h7 (reg_I h8 (by omega) rfl)
    refine n_iinc C (by rw [hmL]; decide) dX12_clears_55 rfl (n_i1 _) [.ref 75, .int (nI (j)), .int (nI (m)), .int (nI (i + 1)), .int (nI (3))] ?_
    refine g_goto C 9 dX12_clears_58 (by decide) ?_
    refine g_frg [.ref 75, .int (nI (j)), .int (nI (m)), .int (nI (i + 1)), unk] ⟨Or.inr rfl, Or.inr rfl, Or.inr rfl, Or.inr rfl, Or.inl rfl, trivial⟩ ?_
    exact ih (i + 1) S2 (by omega) hS2 hf2 h62 h72 h82
    

set_option maxRecDepth 100000 in
theorem k_clears (l : Launch) {S : pv_M} {A : Ab} {j m : Nat} (hS : GS S) (hM : MSt S A) (hj : j < 3) : mt l MX12_clears 106 [.ref 75, .int (nI (j)), .int (nI (m))] S (fun v S' => v = none ∧ MSt S' (setR A j (m, (fun _ => 0), 0)) ∧ FN r3 S S') := by
  refine mt_of (by decide) (Nat.le_of_ble_eq_true rfl) ?_
  intro x hl hR hmL C E
  show GG x 106 0 0 [.ref 75, .int (nI (j)), .int (nI (m)), unk, unk] [] S 0
  refine g_aload_n C dX12_clears_0 rfl ?_
  refine g_getR C fo_X12_7 dX12_clears_1 rfl (by decide) (fun _ => rfl) (gs_75_1 hS) ?_
  refine g_iload_n C dX12_clears_4 rfl ?_
  refine g_iload_n C dX12_clears_5 rfl ?_
  refine g_iast C dX12_clears_6 rfl (by decide) (by omega) rfl ?_
  refine n_iconst C 0 dX12_clears_7 ?_
  refine g_istore_n C (by rw [hmL]; decide) dX12_clears_8 [.ref 75, .int (nI (j)), .int (nI (m)), .int (nI (0)), unk] rfl ?_
  refine lp_clears hR hmL C (S0 := S) hj (fun S2 hS2 hf2 h62 h72 h82 => ?_) 6 0 _ rfl (hS.fn (FN.wI (P := r3) (by decide))) (FN.wI (by decide)) rfl reg_0.symm reg_0.symm
  refine g_vret C E dX12_clears_61 (by rw [hR]; decide) (by rw [hR]; decide) ⟨rfl, hM.set (hM.1.set hj (fun k hk => by rw [h62]; exact va_up_ne _ _ hk) (by rw [h62]; exact up_same) (fun p hp => by rw [h72]; exact reg_out hp) (fun i hi => by rw [h72]; exact reg_in hi rfl) (fun p hp => by rw [h82]; exact reg_out hp) (fun i hi => by rw [h82, Nat.zero_testBit]; exact reg_in hi rfl)) hf2, hf2⟩
