set_option maxRecDepth 100000 in
theorem m_reset (l : Launch) {S : pv_M} {A : Ab} {j m : Nat} (hS : GS S) (hM : MSt S A) (hj : j < 3) (h0 : 0 < m) (h6 : m ≤ 6) : mt l MX12_reset 106 [.ref 75, .int (nI (j)), .int (nI (m))] S (fun v S' => v = none ∧ mI S' 75 0 = nI 0 ∧ MSt S' (setR A j (m, (fun _ => 0), 0)) ∧ FN mC S S') := by
  refine mt_of (by decide) (Nat.le_of_ble_eq_true rfl) ?_
  intro x hl hR hmL C E
  show GG x 106 0 0 [.ref 75, .int (nI (j)), .int (nI (m))] [] S 0
  refine g_aload_n C dX12_reset_0 rfl ?_
  refine g_iload_n C dX12_reset_1 rfl ?_
  refine g_callS C (k_isRegister _ hj) so_X12_106 dX12_reset_2 rfl rfl (rm_ok (M' := MX12_reset) hR (by decide)) (Nat.le_of_ble_eq_true rfl) (fun v9 S9 h9 => ?_)
  obtain ⟨rfl, h9⟩ := h9
  refine g_S S h9 ?_
  refine g_n0 [.int (bI (true)), .ref 75] rfl rfl rfl ?_
  refine b_if_ne C 12 dX12_reset_5 (fun h5 => ?_) (fun h5 => absurd h5 (by decide))
  refine g_iload_n C dX12_reset_12 rfl ?_
  refine n_iconst C 1 dX12_reset_13 ?_
  refine n_bipush C 6 dX12_reset_14 ?_
  refine g_callS C (k_in _ (fun e => absurd ((nI_ltI (by omega) (by decide)).mp e) (by omega)) (fun e => absurd ((nI_ltI (by decide) (by omega)).mp e) (by omega))) so_X12_102 dX12_reset_16 rfl rfl (rm_ok (M' := MX12_reset) hR (by decide)) (Nat.le_of_ble_eq_true rfl) (fun v9 S9 h9 => ?_)
  obtain ⟨rfl, h9⟩ := h9
  refine g_S S h9 ?_
  refine g_n0 [.int (bI (true)), .ref 75] rfl rfl rfl ?_
  refine b_if_ne C 26 dX12_reset_19 (fun h19 => ?_) (fun h19 => absurd h19 (by decide))
  refine n_iconst C 0 dX12_reset_26 ?_
  refine g_putI C fo_X12_98 dX12_reset_27 rfl (by decide) rfl ?_
  refine g_aload_n C dX12_reset_30 rfl ?_
  refine g_getI C (a := (nI (0))) fo_X12_98 dX12_reset_31 rfl (by decide) (fun _ => rfl) rfl ?_
  refine n_if_ne C 43 dX12_reset_34 (fun h34 => absurd h34 (by decide)) (fun h34 => ?_)
  refine g_aload_n C dX12_reset_37 rfl ?_
  refine g_iload_n C dX12_reset_38 rfl ?_
  refine g_iload_n C dX12_reset_39 rfl ?_
  refine g_callV C (As := [.int (nI (j)), .int (nI (m))]) (k_clears _ (hS.fn (th_fs (c := 0)).1) (hM.fs (th_fs (c := 0))) hj) vo_X12_114 dX12_reset_40 rfl rfl (by decide) rfl (rm_ok (M' := MX12_reset) hR (by decide)) (Nat.le_of_ble_eq_true rfl) (fun v9 S9 h9 => ?_)
  obtain ⟨rfl, g1, g2⟩ := h9
  refine g_n0 [] rfl rfl rfl ?_
  exact g_vret C E dX12_reset_43 (by rw [hR]; decide) (by rw [hR]; decide) ⟨rfl, by rw [(g2.2 75 (by decide)).1]; exact th_0, g1, (th_fs (c := 0)).mC.tr (r3_mC g2)⟩

set_option maxRecDepth 100000 in
theorem m_reset_r (l : Launch) {S : pv_M} {p : Int32} (hS : GS S) (h : badI p 3) {q : Int32} : mt l MX12_reset 106 [.ref 75, .int (p), .int (q)] S (fun v S' => v = none ∧ S' = th S 1) := by
  refine mt_of (by decide) (Nat.le_of_ble_eq_true rfl) ?_
  intro x hl hR hmL C E
  show GG x 106 0 0 [.ref 75, .int (p), .int (q)] [] S 0
  refine g_aload_n C dX12_reset_0 rfl ?_
  refine g_iload_n C dX12_reset_1 rfl ?_
  refine g_callS C (k_isRegisterF _ h) so_X12_106 dX12_reset_2 rfl rfl (rm_ok (M' := MX12_reset) hR (by decide)) (Nat.le_of_ble_eq_true rfl) (fun v9 S9 h9 => ?_)
  obtain ⟨rfl, h9⟩ := h9
  refine g_S S h9 ?_
  refine g_n0 [.int (bI (false)), .ref 75] rfl rfl rfl ?_
  refine b_if_ne C 12 dX12_reset_5 (fun h5 => absurd h5 (by decide)) (fun h5 => ?_)
  refine n_iconst C 1 dX12_reset_8 ?_
  refine g_goto C 27 dX12_reset_9 (by decide) ?_
  refine g_putI C fo_X12_98 dX12_reset_27 rfl (by decide) rfl ?_
  refine g_aload_n C dX12_reset_30 rfl ?_
  refine g_getI C (a := (nI (1))) fo_X12_98 dX12_reset_31 rfl (by decide) (fun _ => rfl) rfl ?_
  refine n_if_ne C 43 dX12_reset_34 (fun h34 => ?_) (fun h34 => absurd h34 (by decide))
  exact g_vret C E dX12_reset_43 (by rw [hR]; decide) (by rw [hR]; decide) ⟨rfl, rfl⟩

set_option maxRecDepth 100000 in
theorem m_reset_n (l : Launch) {S : pv_M} {j : Nat} {p : Int32} (hS : GS S) (hj : j < 3) (h : p < nI 1 ∨ nI 6 < p) : mt l MX12_reset 106 [.ref 75, .int (nI (j)), .int (p)] S (fun v S' => v = none ∧ S' = th S 2) := by
  refine mt_of (by decide) (Nat.le_of_ble_eq_true rfl) ?_
  intro x hl hR hmL C E
  show GG x 106 0 0 [.ref 75, .int (nI (j)), .int (p)] [] S 0
  refine g_aload_n C dX12_reset_0 rfl ?_
  refine g_iload_n C dX12_reset_1 rfl ?_
  refine g_callS C (k_isRegister _ hj) so_X12_106 dX12_reset_2 rfl rfl (rm_ok (M' := MX12_reset) hR (by decide)) (Nat.le_of_ble_eq_true rfl) (fun v9 S9 h9 => ?_)
  obtain ⟨rfl, h9⟩ := h9
  refine g_S S h9 ?_
  refine g_n0 [.int (bI (true)), .ref 75] rfl rfl rfl ?_
  refine b_if_ne C 12 dX12_reset_5 (fun h5 => ?_) (fun h5 => absurd h5 (by decide))
  refine g_iload_n C dX12_reset_12 rfl ?_
  refine n_iconst C 1 dX12_reset_13 ?_
  refine n_bipush C 6 dX12_reset_14 ?_
  refine g_callS C (k_inF _ h) so_X12_102 dX12_reset_16 rfl rfl (rm_ok (M' := MX12_reset) hR (by decide)) (Nat.le_of_ble_eq_true rfl) (fun v9 S9 h9 => ?_)
  obtain ⟨rfl, h9⟩ := h9
  refine g_S S h9 ?_
  refine g_n0 [.int (bI (false)), .ref 75] rfl rfl rfl ?_
  refine b_if_ne C 26 dX12_reset_19 (fun h19 => absurd h19 (by decide)) (fun h19 => ?_)
  refine n_iconst C 2 dX12_reset_22 ?_
  refine g_goto C 27 dX12_reset_23 (by decide) ?_
  refine g_putI C fo_X12_98 dX12_reset_27 rfl (by decide) rfl ?_
  refine g_aload_n C dX12_reset_30 rfl ?_
  refine g_getI C (a := (nI (2))) fo_X12_98 dX12_reset_31 rfl (by decide) (fun _ => rfl) rfl ?_
  refine n_if_ne C 43 dX12_reset_34 (fun h34 => ?_) (fun h34 => absurd h34 (by decide))
  exact g_vret C E dX12_reset_43 (by rw [hR]; decide) (by rw [hR]; decide) ⟨rfl, rfl⟩

set_option maxRecDepth 100000 in
theorem m_setTarget (l : Launch) {S : pv_M} {A : Ab} {j : Nat} (hS : GS S) (hM : MSt S A) (hj : j < 3) (hG : gdR (A.1.1 j)) {s q t : Nat} (h1 : s < rN A j) (h2 : q < 3) (h3 : t < rN A j) : mt l MX12_setTarget 106 [.ref 75, .int (nI (j)), .int (nI (s)), .int (nI (q)), .int (nI (t))] S (fun v S' => v = none ∧ mI S' 75 0 = nI 0 ∧ MSt S' (setR A j (rN A j, va_up (rT A j) (s * 3 + q) t, rF A j)) ∧ FN mC S S') := by
  refine mt_of (by decide) (Nat.le_of_ble_eq_true rfl) ?_
  intro x hl hR hmL C E
  show GG x 106 0 0 [.ref 75, .int (nI (j)), .int (nI (s)), .int (nI (q)), .int (nI (t))] [] S 0
  have hn6 : rN A j ≤ 6 := hG.2.1
  have hn0 : 0 < rN A j := hG.1
  have hrn : rN A j = (A.1.1 j).1 := rfl
  refine g_aload_n C dX12_setTarget_0 rfl ?_
  refine g_aload_n C dX12_setTarget_1 rfl ?_
  refine g_iload_n C dX12_setTarget_2 rfl ?_
  refine g_iload_n C dX12_setTarget_3 rfl ?_
  refine g_callV C (As := [.int (nI (j)), .int (nI (s))]) (k_isState _ hS hM hj hG h1) vo_X12_118 dX12_setTarget_4 rfl rfl (by decide) rfl (rm_ok (M' := MX12_setTarget) hR (by decide)) (Nat.le_of_ble_eq_true rfl) (fun v9 S9 h9 => ?_)
  obtain ⟨rfl, h9⟩ := h9
  refine g_S S h9 ?_
  refine g_n0 [.int (bI (true)), .ref 75] rfl rfl rfl ?_
  refine b_if_eq C 31 dX12_setTarget_7 (fun h7 => absurd h7 (by decide)) (fun h7 => ?_)
  refine g_iload_n C dX12_setTarget_10 rfl ?_
  refine g_callS C (k_isLetter _ h2) so_X12_122 dX12_setTarget_11 rfl rfl (rm_ok (M' := MX12_setTarget) hR (by decide)) (Nat.le_of_ble_eq_true rfl) (fun v9 S9 h9 => ?_)
  obtain ⟨rfl, h9⟩ := h9
  refine g_S S h9 ?_
  refine g_n0 [.int (bI (true)), .ref 75] rfl rfl rfl ?_
  refine b_if_eq C 31 dX12_setTarget_14 (fun h14 => absurd h14 (by decide)) (fun h14 => ?_)
  refine g_aload_n C dX12_setTarget_17 rfl ?_
  refine g_iload_n C dX12_setTarget_18 rfl ?_
  refine g_iload C dX12_setTarget_19 rfl ?_
  refine g_callV C (As := [.int (nI (j)), .int (nI (t))]) (k_isState _ hS hM hj hG h3) vo_X12_118 dX12_setTarget_21 rfl rfl (by decide) rfl (rm_ok (M' := MX12_setTarget) hR (by decide)) (Nat.le_of_ble_eq_true rfl) (fun v9 S9 h9 => ?_)
  obtain ⟨rfl, h9⟩ := h9
  refine g_S S h9 ?_
  refine g_n0 [.int (bI (true)), .ref 75] rfl rfl rfl ?_
  refine b_if_eq C 31 dX12_setTarget_24 (fun h24 => absurd h24 (by decide)) (fun h24 => ?_)
  refine n_iconst C 0 dX12_setTarget_27 ?_
  refine g_goto C 32 dX12_setTarget_28 (by decide) ?_
  refine g_putI C fo_X12_98 dX12_setTarget_32 rfl (by decide) rfl ?_
  refine g_aload_n C dX12_setTarget_35 rfl ?_
  refine g_getI C (a := (nI (0))) fo_X12_98 dX12_setTarget_36 rfl (by decide) (fun _ => rfl) rfl ?_
  refine n_if_ne C 55 dX12_setTarget_39 (fun h39 => absurd h39 (by decide)) (fun h39 => ?_)
  refine g_aload_n C dX12_setTarget_42 rfl ?_
  refine g_getR C fo_X12_13 dX12_setTarget_43 rfl (by decide) (fun _ => rfl) (gs_75_2 hS) ?_
  refine g_iload_n C dX12_setTarget_46 rfl ?_
  refine g_iload_n C dX12_setTarget_47 rfl ?_
  refine g_iload_n C dX12_setTarget_48 rfl ?_
  refine g_callS C (k_place _) so_X12_110 dX12_setTarget_49 rfl rfl (rm_ok (M' := MX12_setTarget) hR (by decide)) (Nat.le_of_ble_eq_true rfl) (fun v9 S9 h9 => ?_)
  obtain ⟨rfl, h9⟩ := h9
  refine g_S (wI S 75 (va_up (mI S 75) 0 (nI (0)))) h9 ?_
  refine g_n0 [.int (nI (18 * j + 3 * s + q)), .ref 77] rfl rfl rfl ?_
  refine g_iload C dX12_setTarget_52 rfl ?_
  refine g_iast C dX12_setTarget_54 rfl (by decide) (by omega) rfl ?_
  exact g_vret C E dX12_setTarget_55 (by rw [hR]; decide) (by rw [hR]; decide) ⟨rfl, rfl, (hM.fs (th_fs (c := 0))).set (hM.1.set hj (fun k hk => rfl) (hM.1.n hj) (fun p hp => by rw [mI_wI]; exact va_up_ne _ _ (by omega)) (fun i hi => by
    rw [mI_wI]
    by_cases e : i = s * 3 + q
    · rw [e, up_same, show 18 * j + (s * 3 + q) = 18 * j + 3 * s + q by omega, up_same]
    · rw [va_up_ne _ _ e, va_up_ne _ _ (by omega)]; exact hM.1.2.1 j hj i hi) (fun p hp => rfl) (fun i hi => hM.1.2.2 j hj i hi)) (FN.wI (by decide)), (th_fs (c := 0)).mC.tr (FN.wI (by decide))⟩

set_option maxRecDepth 100000 in
theorem m_setTarget_r (l : Launch) {S : pv_M} {p : Int32} (hS : GS S) (h : badI p 3) {q1 q2 q3 : Int32} : mt l MX12_setTarget 106 [.ref 75, .int (p), .int (q1), .int (q2), .int (q3)] S (fun v S' => v = none ∧ S' = th S 1) := by
  refine mt_of (by decide) (Nat.le_of_ble_eq_true rfl) ?_
  intro x hl hR hmL C E
  show GG x 106 0 0 [.ref 75, .int (p), .int (q1), .int (q2), .int (q3)] [] S 0
  refine g_aload_n C dX12_setTarget_0 rfl ?_
  refine g_aload_n C dX12_setTarget_1 rfl ?_
  refine g_iload_n C dX12_setTarget_2 rfl ?_
  refine g_iload_n C dX12_setTarget_3 rfl ?_
  refine g_callV C (As := [.int (p), .int (q1)]) (k_isStateR _ hS h) vo_X12_118 dX12_setTarget_4 rfl rfl (by decide) rfl (rm_ok (M' := MX12_setTarget) hR (by decide)) (Nat.le_of_ble_eq_true rfl) (fun v9 S9 h9 => ?_)
  obtain ⟨rfl, h9⟩ := h9
  refine g_S S h9 ?_
  refine g_n0 [.int (bI (false)), .ref 75] rfl rfl rfl ?_
  refine b_if_eq C 31 dX12_setTarget_7 (fun h7 => ?_) (fun h7 => absurd h7 (by decide))
  refine n_iconst C 1 dX12_setTarget_31 ?_
  refine g_putI C fo_X12_98 dX12_setTarget_32 rfl (by decide) rfl ?_
  refine g_aload_n C dX12_setTarget_35 rfl ?_
  refine g_getI C (a := (nI (1))) fo_X12_98 dX12_setTarget_36 rfl (by decide) (fun _ => rfl) rfl ?_
  refine n_if_ne C 55 dX12_setTarget_39 (fun h39 => ?_) (fun h39 => absurd h39 (by decide))
  exact g_vret C E dX12_setTarget_55 (by rw [hR]; decide) (by rw [hR]; decide) ⟨rfl, rfl⟩

set_option maxRecDepth 100000 in
theorem m_setTarget_s (l : Launch) {S : pv_M} {A : Ab} {j : Nat} (hS : GS S) (hM : MSt S A) (hj : j < 3) (hG : gdR (A.1.1 j)) {p q2 q3 : Int32} (h : badI p (rN A j)) : mt l MX12_setTarget 106 [.ref 75, .int (nI (j)), .int (p), .int (q2), .int (q3)] S (fun v S' => v = none ∧ S' = th S 1) := by
  refine mt_of (by decide) (Nat.le_of_ble_eq_true rfl) ?_
  intro x hl hR hmL C E
  show GG x 106 0 0 [.ref 75, .int (nI (j)), .int (p), .int (q2), .int (q3)] [] S 0
  refine g_aload_n C dX12_setTarget_0 rfl ?_
  refine g_aload_n C dX12_setTarget_1 rfl ?_
  refine g_iload_n C dX12_setTarget_2 rfl ?_
  refine g_iload_n C dX12_setTarget_3 rfl ?_
  refine g_callV C (As := [.int (nI (j)), .int (p)]) (k_isStateF _ hS hM hj hG h) vo_X12_118 dX12_setTarget_4 rfl rfl (by decide) rfl (rm_ok (M' := MX12_setTarget) hR (by decide)) (Nat.le_of_ble_eq_true rfl) (fun v9 S9 h9 => ?_)
  obtain ⟨rfl, h9⟩ := h9
  refine g_S S h9 ?_
  refine g_n0 [.int (bI (false)), .ref 75] rfl rfl rfl ?_
  refine b_if_eq C 31 dX12_setTarget_7 (fun h7 => ?_) (fun h7 => absurd h7 (by decide))
  refine n_iconst C 1 dX12_setTarget_31 ?_
  refine g_putI C fo_X12_98 dX12_setTarget_32 rfl (by decide) rfl ?_
  refine g_aload_n C dX12_setTarget_35 rfl ?_
  refine g_getI C (a := (nI (1))) fo_X12_98 dX12_setTarget_36 rfl (by decide) (fun _ => rfl) rfl ?_
  refine n_if_ne C 55 dX12_setTarget_39 (fun h39 => ?_) (fun h39 => absurd h39 (by decide))
  exact g_vret C E dX12_setTarget_55 (by rw [hR]; decide) (by rw [hR]; decide) ⟨rfl, rfl⟩

set_option maxRecDepth 100000 in
theorem m_setTarget_l (l : Launch) {S : pv_M} {A : Ab} {j : Nat} (hS : GS S) (hM : MSt S A) (hj : j < 3) (hG : gdR (A.1.1 j)) {s : Nat} {p q3 : Int32} (h1 : s < rN A j) (h : badI p 3) : mt l MX12_setTarget 106 [.ref 75, .int (nI (j)), .int (nI (s)), .int (p), .int (q3)] S (fun v S' => v = none ∧ S' = th S 1) := by
  refine mt_of (by decide) (Nat.le_of_ble_eq_true rfl) ?_
  intro x hl hR hmL C E
  show GG x 106 0 0 [.ref 75, .int (nI (j)), .int (nI (s)), .int (p), .int (q3)] [] S 0
  refine g_aload_n C dX12_setTarget_0 rfl ?_
  refine g_aload_n C dX12_setTarget_1 rfl ?_
  refine g_iload_n C dX12_setTarget_2 rfl ?_
  refine g_iload_n C dX12_setTarget_3 rfl ?_
  refine g_callV C (As := [.int (nI (j)), .int (nI (s))]) (k_isState _ hS hM hj hG h1) vo_X12_118 dX12_setTarget_4 rfl rfl (by decide) rfl (rm_ok (M' := MX12_setTarget) hR (by decide)) (Nat.le_of_ble_eq_true rfl) (fun v9 S9 h9 => ?_)
  obtain ⟨rfl, h9⟩ := h9
  refine g_S S h9 ?_
  refine g_n0 [.int (bI (true)), .ref 75] rfl rfl rfl ?_
  refine b_if_eq C 31 dX12_setTarget_7 (fun h7 => absurd h7 (by decide)) (fun h7 => ?_)
  refine g_iload_n C dX12_setTarget_10 rfl ?_
  refine g_callS C (k_isLetterF _ h) so_X12_122 dX12_setTarget_11 rfl rfl (rm_ok (M' := MX12_setTarget) hR (by decide)) (Nat.le_of_ble_eq_true rfl) (fun v9 S9 h9 => ?_)
  obtain ⟨rfl, h9⟩ := h9
  refine g_S S h9 ?_
  refine g_n0 [.int (bI (false)), .ref 75] rfl rfl rfl ?_
  refine b_if_eq C 31 dX12_setTarget_14 (fun h14 => ?_) (fun h14 => absurd h14 (by decide))
  refine n_iconst C 1 dX12_setTarget_31 ?_
  refine g_putI C fo_X12_98 dX12_setTarget_32 rfl (by decide) rfl ?_
  refine g_aload_n C dX12_setTarget_35 rfl ?_
  refine g_getI C (a := (nI (1))) fo_X12_98 dX12_setTarget_36 rfl (by decide) (fun _ => rfl) rfl ?_
  refine n_if_ne C 55 dX12_setTarget_39 (fun h39 => ?_) (fun h39 => absurd h39 (by decide))
  exact g_vret C E dX12_setTarget_55 (by rw [hR]; decide) (by rw [hR]; decide) ⟨rfl, rfl⟩

set_option maxRecDepth 100000 in
theorem m_setTarget_t (l : Launch) {S : pv_M} {A : Ab} {j : Nat} (hS : GS S) (hM : MSt S A) (hj : j < 3) (hG : gdR (A.1.1 j)) {s q : Nat} {p : Int32} (h1 : s < rN A j) (h2 : q < 3) (h : badI p (rN A j)) : mt l MX12_setTarget 106 [.ref 75, .int (nI (j)), .int (nI (s)), .int (nI (q)), .int (p)] S (fun v S' => v = none ∧ S' = th S 1) := by
  refine mt_of (by decide) (Nat.le_of_ble_eq_true rfl) ?_
  intro x hl hR hmL C E
  show GG x 106 0 0 [.ref 75, .int (nI (j)), .int (nI (s)), .int (nI (q)), .int (p)] [] S 0
  refine g_aload_n C dX12_setTarget_0 rfl ?_
  refine g_aload_n C dX12_setTarget_1 rfl ?_
  refine g_iload_n C dX12_setTarget_2 rfl ?_
  refine g_iload_n C dX12_setTarget_3 rfl ?_
  refine g_callV C (As := [.int (nI (j)), .int (nI (s))]) (k_isState _ hS hM hj hG h1) vo_X12_118 dX12_setTarget_4 rfl rfl (by decide) rfl (rm_ok (M' := MX12_setTarget) hR (by decide)) (Nat.le_of_ble_eq_true rfl) (fun v9 S9 h9 => ?_)
  obtain ⟨rfl, h9⟩ := h9
  refine g_S S h9 ?_
  refine g_n0 [.int (bI (true)), .ref 75] rfl rfl rfl ?_
  refine b_if_eq C 31 dX12_setTarget_7 (fun h7 => absurd h7 (by decide)) (fun h7 => ?_)
  refine g_iload_n C dX12_setTarget_10 rfl ?_
  refine g_callS C (k_isLetter _ h2) so_X12_122 dX12_setTarget_11 rfl rfl (rm_ok (M' := MX12_setTarget) hR (by decide)) (Nat.le_of_ble_eq_true rfl) (fun v9 S9 h9 => ?_)
  obtain ⟨rfl, h9⟩ := h9
  refine g_S S h9 ?_
  refine g_n0 [.int (bI (true)), .ref 75] rfl rfl rfl ?_
  refine b_if_eq C 31 dX12_setTarget_14 (fun h14 => absurd h14 (by decide)) (fun h14 => ?_)
  refine g_aload_n C dX12_setTarget_17 rfl ?_
  refine g_iload_n C dX12_setTarget_18 rfl ?_
  refine g_iload C dX12_setTarget_19 rfl ?_
  refine g_callV C (As := [.int (nI (j)), .int (p)]) (k_isStateF _ hS hM hj hG h) vo_X12_118 dX12_setTarget_21 rfl rfl (by decide) rfl (rm_ok (M' := MX12_setTarget) hR (by decide)) (Nat.le_of_ble_eq_true rfl) (fun v9 S9 h9 => ?_)
  obtain ⟨rfl, h9⟩ := h9
  refine g_S S h9 ?_
  refine g_n0 [.int (bI (false)), .ref 75] rfl rfl rfl ?_
  refine b_if_eq C 31 dX12_setTarget_24 (fun h24 => ?_) (fun h24 => absurd h24 (by decide))
  refine n_iconst C 1 dX12_setTarget_31 ?_
  refine g_putI C fo_X12_98 dX12_setTarget_32 rfl (by decide) rfl ?_
  refine g_aload_n C dX12_setTarget_35 rfl ?_
  refine g_getI C (a := (nI (1))) fo_X12_98 dX12_setTarget_36 rfl (by decide) (fun _ => rfl) rfl ?_
  refine n_if_ne C 55 dX12_setTarget_39 (fun h39 => ?_) (fun h39 => absurd h39 (by decide))
  exact g_vret C E dX12_setTarget_55 (by rw [hR]; decide) (by rw [hR]; decide) ⟨rfl, rfl⟩

set_option maxRecDepth 100000 in
theorem m_setFinal (l : Launch) {S : pv_M} {A : Ab} {j : Nat} (hS : GS S) (hM : MSt S A) (hj : j < 3) (hG : gdR (A.1.1 j)) {s : Nat} {c : Bool} (h1 : s < rN A j) : mt l MX12_setFinal 106 [.ref 75, .int (nI (j)), .int (nI (s)), .int (bI (c))] S (fun v S' => v = some (.int (bI ((rF A j).testBit s))) ∧ mI S' 75 0 = nI 0 ∧ MSt S' (setR A j (rN A j, rT A j, fset (rF A j) s c)) ∧ FN mC S S') := by
  refine mt_of (by decide) (Nat.le_of_ble_eq_true rfl) ?_
  intro x hl hR hmL C E
  show GG x 106 0 0 [.ref 75, .int (nI (j)), .int (nI (s)), .int (bI (c)), unk] [] S 0
  have hn6 : rN A j ≤ 6 := hG.2.1
  have hn0 : 0 < rN A j := hG.1
  have hrn : rN A j = (A.1.1 j).1 := rfl
  refine g_aload_n C dX12_setFinal_0 rfl ?_
  refine g_iload_n C dX12_setFinal_1 rfl ?_
  refine g_iload_n C dX12_setFinal_2 rfl ?_
  refine g_callV C (As := [.int (nI (j)), .int (nI (s))]) (k_isState _ hS hM hj hG h1) vo_X12_118 dX12_setFinal_3 rfl rfl (by decide) rfl (rm_ok (M' := MX12_setFinal) hR (by decide)) (Nat.le_of_ble_eq_true rfl) (fun v9 S9 h9 => ?_)
  obtain ⟨rfl, h9⟩ := h9
  refine g_S S h9 ?_
  refine g_n0 [.int (bI (true))] rfl rfl rfl ?_
  refine b_if_ne C 15 dX12_setFinal_6 (fun h6 => ?_) (fun h6 => absurd h6 (by decide))
  refine g_aload_n C dX12_setFinal_15 rfl ?_
  refine g_getR C fo_X12_16 dX12_setFinal_16 rfl (by decide) (fun _ => rfl) (gs_75_3 hS) ?_
  refine n_bipush C 6 dX12_setFinal_19 ?_
  refine g_iload_n C dX12_setFinal_21 rfl ?_
  refine n_imul C dX12_setFinal_22 ?_
  refine g_iload_n C dX12_setFinal_23 rfl ?_
  refine n_iadd C dX12_setFinal_24 ?_
  refine n_zald C (v := (bI ((rF A j).testBit s))) dX12_setFinal_25 rfl (by decide) (hM.1.f hj (i := s) (by omega) rfl) ?_ (by omega)
  refine g_istore C (by rw [hmL]; decide) dX12_setFinal_26 [.ref 75, .int (nI (j)), .int (nI (s)), .int (bI (c)), .int (bI ((rF A j).testBit s))] rfl ?_
  refine g_aload_n C dX12_setFinal_28 rfl ?_
  refine g_getR C fo_X12_16 dX12_setFinal_29 rfl (by decide) (fun _ => rfl) (gs_75_3 hS) ?_
  refine n_bipush C 6 dX12_setFinal_32 ?_
  refine g_iload_n C dX12_setFinal_34 rfl ?_
  refine n_imul C dX12_setFinal_35 ?_
  refine g_iload_n C dX12_setFinal_36 rfl ?_
  refine n_iadd C dX12_setFinal_37 ?_
  refine g_iload_n C dX12_setFinal_38 rfl ?_
  refine g_zast C dX12_setFinal_39 rfl (by decide) (by omega) rfl (bI_nar _) ?_
  refine g_aload_n C dX12_setFinal_40 rfl ?_
  refine g_iload C dX12_setFinal_41 rfl ?_
  refine g_callV C (As := [.int (bI ((rF A j).testBit s))]) (k_so _ (hS.fn (FN.wI (P := mC) (by decide)))) vo_X12_128 dX12_setFinal_43 rfl rfl (by decide) rfl (rm_ok (M' := MX12_setFinal) hR (by decide)) (Nat.le_of_ble_eq_true rfl) (fun v9 S9 h9 => ?_)
  obtain ⟨rfl, h9⟩ := h9
  refine g_S (wI (wI S 78 (va_up (mI S 78) ((6) * (j) + (s)) (bI c))) 75 (va_up (mI S 75) 0 (nI 0))) h9 ?_
  refine g_n0 [.int (bI ((rF A j).testBit s))] rfl rfl rfl ?_
  exact g_zret C E dX12_setFinal_46 (bI_01 _) (by rw [hR]; decide) (by rw [hR]; decide) ⟨rfl, rfl, (hM.set (S' := wI S 78 (va_up (mI S 78) (6 * j + s) (bI c))) (hM.1.set hj (fun k hk => rfl) (hM.1.n hj) (fun p hp => rfl) (fun i hi => hM.1.2.1 j hj i hi) (fun p hp => by rw [mI_wI]; exact va_up_ne _ _ (by omega)) (fun i hi => by
    rw [mI_wI, (fset_ok (rF A j) hG.2.2.2 s (by omega) c).2 i hi]
    by_cases e : i = s
    · rw [e, up_same, if_pos rfl]
    · rw [va_up_ne _ _ (by omega), if_neg e]; exact hM.1.2.2 j hj i hi)) (FN.wI (by decide))).fs th_fs, (FN.wI (by decide)).tr (th_fs (c := 0)).mC⟩

set_option maxRecDepth 100000 in
theorem m_setFinal_r (l : Launch) {S : pv_M} {p : Int32} (hS : GS S) (h : badI p 3) {q : Int32} {c : Bool} : mt l MX12_setFinal 106 [.ref 75, .int (p), .int (q), .int (bI (c))] S (fun v S' => v = some (.int (bI false)) ∧ S' = th S 1) := by
  refine mt_of (by decide) (Nat.le_of_ble_eq_true rfl) ?_
  intro x hl hR hmL C E
  show GG x 106 0 0 [.ref 75, .int (p), .int (q), .int (bI (c)), unk] [] S 0
  refine g_aload_n C dX12_setFinal_0 rfl ?_
  refine g_iload_n C dX12_setFinal_1 rfl ?_
  refine g_iload_n C dX12_setFinal_2 rfl ?_
  refine g_callV C (As := [.int (p), .int (q)]) (k_isStateR _ hS h) vo_X12_118 dX12_setFinal_3 rfl rfl (by decide) rfl (rm_ok (M' := MX12_setFinal) hR (by decide)) (Nat.le_of_ble_eq_true rfl) (fun v9 S9 h9 => ?_)
  obtain ⟨rfl, h9⟩ := h9
  refine g_S S h9 ?_
  refine g_n0 [.int (bI (false))] rfl rfl rfl ?_
  refine b_if_ne C 15 dX12_setFinal_6 (fun h6 => absurd h6 (by decide)) (fun h6 => ?_)
  refine g_aload_n C dX12_setFinal_9 rfl ?_
  refine n_iconst C 1 dX12_setFinal_10 ?_
  refine g_callV C (As := [.int (nI (1))]) (k_not _ hS) vo_X12_125 dX12_setFinal_11 rfl rfl (by decide) rfl (rm_ok (M' := MX12_setFinal) hR (by decide)) (Nat.le_of_ble_eq_true rfl) (fun v9 S9 h9 => ?_)
  obtain ⟨rfl, h9⟩ := h9
  refine g_S (wI S 75 (va_up (mI S 75) 0 (nI 1))) h9 ?_
  refine g_n0 [.int (bI (false))] rfl rfl rfl ?_
  exact g_zret C E dX12_setFinal_14 (bI_01 _) (by rw [hR]; decide) (by rw [hR]; decide) ⟨rfl, rfl⟩

set_option maxRecDepth 100000 in
theorem m_setFinal_s (l : Launch) {S : pv_M} {A : Ab} {j : Nat} (hS : GS S) (hM : MSt S A) (hj : j < 3) (hG : gdR (A.1.1 j)) {p : Int32} {c : Bool} (h : badI p (rN A j)) : mt l MX12_setFinal 106 [.ref 75, .int (nI (j)), .int (p), .int (bI (c))] S (fun v S' => v = some (.int (bI false)) ∧ S' = th S 1) := by
  refine mt_of (by decide) (Nat.le_of_ble_eq_true rfl) ?_
  intro x hl hR hmL C E
  show GG x 106 0 0 [.ref 75, .int (nI (j)), .int (p), .int (bI (c)), unk] [] S 0
  refine g_aload_n C dX12_setFinal_0 rfl ?_
  refine g_iload_n C dX12_setFinal_1 rfl ?_
  refine g_iload_n C dX12_setFinal_2 rfl ?_
  refine g_callV C (As := [.int (nI (j)), .int (p)]) (k_isStateF _ hS hM hj hG h) vo_X12_118 dX12_setFinal_3 rfl rfl (by decide) rfl (rm_ok (M' := MX12_setFinal) hR (by decide)) (Nat.le_of_ble_eq_true rfl) (fun v9 S9 h9 => ?_)
  obtain ⟨rfl, h9⟩ := h9
  refine g_S S h9 ?_
  refine g_n0 [.int (bI (false))] rfl rfl rfl ?_
  refine b_if_ne C 15 dX12_setFinal_6 (fun h6 => absurd h6 (by decide)) (fun h6 => ?_)
  refine g_aload_n C dX12_setFinal_9 rfl ?_
  refine n_iconst C 1 dX12_setFinal_10 ?_
  refine g_callV C (As := [.int (nI (1))]) (k_not _ hS) vo_X12_125 dX12_setFinal_11 rfl rfl (by decide) rfl (rm_ok (M' := MX12_setFinal) hR (by decide)) (Nat.le_of_ble_eq_true rfl) (fun v9 S9 h9 => ?_)
  obtain ⟨rfl, h9⟩ := h9
  refine g_S (wI S 75 (va_up (mI S 75) 0 (nI 1))) h9 ?_
  refine g_n0 [.int (bI (false))] rfl rfl rfl ?_
  exact g_zret C E dX12_setFinal_14 (bI_01 _) (by rw [hR]; decide) (by rw [hR]; decide) ⟨rfl, rfl⟩

set_option maxRecDepth 100000 in
theorem m_stateCount (l : Launch) {S : pv_M} {A : Ab} {j : Nat} (hS : GS S) (hM : MSt S A) (hj : j < 3) (hG : gdR (A.1.1 j)) : mt l MX12_stateCount 106 [.ref 75, .int (nI (j))] S (fun v S' => v = some (.int (nI (rN A j))) ∧ S' = th S 0) := by
  refine mt_of (by decide) (Nat.le_of_ble_eq_true rfl) ?_
  intro x hl hR hmL C E
  show GG x 106 0 0 [.ref 75, .int (nI (j))] [] S 0
  refine g_iload_n C dX12_stateCount_0 rfl ?_
  refine g_callS C (k_isRegister _ hj) so_X12_106 dX12_stateCount_1 rfl rfl (rm_ok (M' := MX12_stateCount) hR (by decide)) (Nat.le_of_ble_eq_true rfl) (fun v9 S9 h9 => ?_)
  obtain ⟨rfl, h9⟩ := h9
  refine g_S S h9 ?_
  refine g_n0 [.int (bI (true))] rfl rfl rfl ?_
  refine b_if_eq C 20 dX12_stateCount_4 (fun h4 => absurd h4 (by decide)) (fun h4 => ?_)
  refine g_aload_n C dX12_stateCount_7 rfl ?_
  refine g_aload_n C dX12_stateCount_8 rfl ?_
  refine g_getR C fo_X12_7 dX12_stateCount_9 rfl (by decide) (fun _ => rfl) (gs_75_1 hS) ?_
  refine g_iload_n C dX12_stateCount_12 rfl ?_
  refine n_iald C (v := (nI (rN A j))) dX12_stateCount_13 rfl (by decide) (hM.1.n hj) ?_ (by omega)
  refine g_callV C (As := [.int (nI (rN A j))]) (k_done _ hS) vo_X12_132 dX12_stateCount_14 rfl rfl (by decide) rfl (rm_ok (M' := MX12_stateCount) hR (by decide)) (Nat.le_of_ble_eq_true rfl) (fun v9 S9 h9 => ?_)
  obtain ⟨rfl, h9⟩ := h9
  refine g_S (wI S 75 (va_up (mI S 75) 0 (nI 0))) h9 ?_
  refine g_n0 [.int (nI (rN A j))] rfl rfl rfl ?_
  refine g_goto C 25 dX12_stateCount_17 (by decide) ?_
  exact g_iret C E dX12_stateCount_25 (by rw [hR]; decide) (by rw [hR]; decide) ⟨rfl, rfl⟩

set_option maxRecDepth 100000 in
theorem m_stateCount_r (l : Launch) {S : pv_M} {p : Int32} (hS : GS S) (h : badI p 3) : mt l MX12_stateCount 106 [.ref 75, .int (p)] S (fun v S' => v = some (.int (nI 0)) ∧ S' = th S 1) := by
  refine mt_of (by decide) (Nat.le_of_ble_eq_true rfl) ?_
  intro x hl hR hmL C E
  show GG x 106 0 0 [.ref 75, .int (p)] [] S 0
  refine g_iload_n C dX12_stateCount_0 rfl ?_
  refine g_callS C (k_isRegisterF _ h) so_X12_106 dX12_stateCount_1 rfl rfl (rm_ok (M' := MX12_stateCount) hR (by decide)) (Nat.le_of_ble_eq_true rfl) (fun v9 S9 h9 => ?_)
  obtain ⟨rfl, h9⟩ := h9
  refine g_S S h9 ?_
  refine g_n0 [.int (bI (false))] rfl rfl rfl ?_
  refine b_if_eq C 20 dX12_stateCount_4 (fun h4 => ?_) (fun h4 => absurd h4 (by decide))
  refine g_aload_n C dX12_stateCount_20 rfl ?_
  refine n_iconst C 1 dX12_stateCount_21 ?_
  refine g_callV C (As := [.int (nI (1))]) (k_fails _ hS) vo_X12_136 dX12_stateCount_22 rfl rfl (by decide) rfl (rm_ok (M' := MX12_stateCount) hR (by decide)) (Nat.le_of_ble_eq_true rfl) (fun v9 S9 h9 => ?_)
  obtain ⟨rfl, h9⟩ := h9
  refine g_S (wI S 75 (va_up (mI S 75) 0 (nI 1))) h9 ?_
  refine g_n0 [.int (nI (0))] rfl rfl rfl ?_
  exact g_iret C E dX12_stateCount_25 (by rw [hR]; decide) (by rw [hR]; decide) ⟨rfl, rfl⟩

set_option maxRecDepth 100000 in
theorem m_target (l : Launch) {S : pv_M} {A : Ab} {j : Nat} (hS : GS S) (hM : MSt S A) (hj : j < 3) (hG : gdR (A.1.1 j)) {s q : Nat} (h1 : s < rN A j) (h2 : q < 3) : mt l MX12_target 106 [.ref 75, .int (nI (j)), .int (nI (s)), .int (nI (q))] S (fun v S' => v = some (.int (nI (rT A j (s * 3 + q)))) ∧ S' = th S 0) := by
  refine mt_of (by decide) (Nat.le_of_ble_eq_true rfl) ?_
  intro x hl hR hmL C E
  show GG x 106 0 0 [.ref 75, .int (nI (j)), .int (nI (s)), .int (nI (q))] [] S 0
  have hn6 : rN A j ≤ 6 := hG.2.1
  have hn0 : 0 < rN A j := hG.1
  have hrn : rN A j = (A.1.1 j).1 := rfl
  refine g_aload_n C dX12_target_0 rfl ?_
  refine g_iload_n C dX12_target_1 rfl ?_
  refine g_iload_n C dX12_target_2 rfl ?_
  refine g_callV C (As := [.int (nI (j)), .int (nI (s))]) (k_isState _ hS hM hj hG h1) vo_X12_118 dX12_target_3 rfl rfl (by decide) rfl (rm_ok (M' := MX12_target) hR (by decide)) (Nat.le_of_ble_eq_true rfl) (fun v9 S9 h9 => ?_)
  obtain ⟨rfl, h9⟩ := h9
  refine g_S S h9 ?_
  refine g_n0 [.int (bI (true))] rfl rfl rfl ?_
  refine b_if_eq C 34 dX12_target_6 (fun h6 => absurd h6 (by decide)) (fun h6 => ?_)
  refine g_iload_n C dX12_target_9 rfl ?_
  refine g_callS C (k_isLetter _ h2) so_X12_122 dX12_target_10 rfl rfl (rm_ok (M' := MX12_target) hR (by decide)) (Nat.le_of_ble_eq_true rfl) (fun v9 S9 h9 => ?_)
  obtain ⟨rfl, h9⟩ := h9
  refine g_S S h9 ?_
  refine g_n0 [.int (bI (true))] rfl rfl rfl ?_
  refine b_if_eq C 34 dX12_target_13 (fun h13 => absurd h13 (by decide)) (fun h13 => ?_)
  refine g_aload_n C dX12_target_16 rfl ?_
  refine g_aload_n C dX12_target_17 rfl ?_
  refine g_getR C fo_X12_13 dX12_target_18 rfl (by decide) (fun _ => rfl) (gs_75_2 hS) ?_
  refine g_iload_n C dX12_target_21 rfl ?_
  refine g_iload_n C dX12_target_22 rfl ?_
  refine g_iload_n C dX12_target_23 rfl ?_
  refine g_callS C (k_place _) so_X12_110 dX12_target_24 rfl rfl (rm_ok (M' := MX12_target) hR (by decide)) (Nat.le_of_ble_eq_true rfl) (fun v9 S9 h9 => ?_)
  obtain ⟨rfl, h9⟩ := h9
  refine g_S S h9 ?_
  refine g_n0 [.int (nI (18 * j + 3 * s + q)), .ref 77, .ref 75] rfl rfl rfl ?_
  refine n_iald C (v := (nI (rT A j (s * 3 + q)))) dX12_target_27 rfl (by decide) (hM.1.t hj (i := s * 3 + q) (by omega) (by omega)) ?_ (by omega)
  refine g_callV C (As := [.int (nI (rT A j (s * 3 + q)))]) (k_done _ hS) vo_X12_132 dX12_target_28 rfl rfl (by decide) rfl (rm_ok (M' := MX12_target) hR (by decide)) (Nat.le_of_ble_eq_true rfl) (fun v9 S9 h9 => ?_)
  obtain ⟨rfl, h9⟩ := h9
  refine g_S (wI S 75 (va_up (mI S 75) 0 (nI 0))) h9 ?_
  refine g_n0 [.int (nI (rT A j (s * 3 + q)))] rfl rfl rfl ?_
  refine g_goto C 39 dX12_target_31 (by decide) ?_
  exact g_iret C E dX12_target_39 (by rw [hR]; decide) (by rw [hR]; decide) ⟨rfl, rfl⟩

set_option maxRecDepth 100000 in
theorem m_target_r (l : Launch) {S : pv_M} {p : Int32} (hS : GS S) (h : badI p 3) {q1 q2 : Int32} : mt l MX12_target 106 [.ref 75, .int (p), .int (q1), .int (q2)] S (fun v S' => v = some (.int (nI 0)) ∧ S' = th S 1) := by
  refine mt_of (by decide) (Nat.le_of_ble_eq_true rfl) ?_
  intro x hl hR hmL C E
  show GG x 106 0 0 [.ref 75, .int (p), .int (q1), .int (q2)] [] S 0
  refine g_aload_n C dX12_target_0 rfl ?_
  refine g_iload_n C dX12_target_1 rfl ?_
  refine g_iload_n C dX12_target_2 rfl ?_
  refine g_callV C (As := [.int (p), .int (q1)]) (k_isStateR _ hS h) vo_X12_118 dX12_target_3 rfl rfl (by decide) rfl (rm_ok (M' := MX12_target) hR (by decide)) (Nat.le_of_ble_eq_true rfl) (fun v9 S9 h9 => ?_)
  obtain ⟨rfl, h9⟩ := h9
  refine g_S S h9 ?_
  refine g_n0 [.int (bI (false))] rfl rfl rfl ?_
  refine b_if_eq C 34 dX12_target_6 (fun h6 => ?_) (fun h6 => absurd h6 (by decide))
  refine g_aload_n C dX12_target_34 rfl ?_
  refine n_iconst C 1 dX12_target_35 ?_
  refine g_callV C (As := [.int (nI (1))]) (k_fails _ hS) vo_X12_136 dX12_target_36 rfl rfl (by decide) rfl (rm_ok (M' := MX12_target) hR (by decide)) (Nat.le_of_ble_eq_true rfl) (fun v9 S9 h9 => ?_)
  obtain ⟨rfl, h9⟩ := h9
  refine g_S (wI S 75 (va_up (mI S 75) 0 (nI 1))) h9 ?_
  refine g_n0 [.int (nI (0))] rfl rfl rfl ?_
  exact g_iret C E dX12_target_39 (by rw [hR]; decide) (by rw [hR]; decide) ⟨rfl, rfl⟩

set_option maxRecDepth 100000 in
theorem m_target_s (l : Launch) {S : pv_M} {A : Ab} {j : Nat} (hS : GS S) (hM : MSt S A) (hj : j < 3) (hG : gdR (A.1.1 j)) {p q2 : Int32} (h : badI p (rN A j)) : mt l MX12_target 106 [.ref 75, .int (nI (j)), .int (p), .int (q2)] S (fun v S' => v = some (.int (nI 0)) ∧ S' = th S 1) := by
  refine mt_of (by decide) (Nat.le_of_ble_eq_true rfl) ?_
  intro x hl hR hmL C E
  show GG x 106 0 0 [.ref 75, .int (nI (j)), .int (p), .int (q2)] [] S 0
  refine g_aload_n C dX12_target_0 rfl ?_
  refine g_iload_n C dX12_target_1 rfl ?_
  refine g_iload_n C dX12_target_2 rfl ?_
  refine g_callV C (As := [.int (nI (j)), .int (p)]) (k_isStateF _ hS hM hj hG h) vo_X12_118 dX12_target_3 rfl rfl (by decide) rfl (rm_ok (M' := MX12_target) hR (by decide)) (Nat.le_of_ble_eq_true rfl) (fun v9 S9 h9 => ?_)
  obtain ⟨rfl, h9⟩ := h9
  refine g_S S h9 ?_
  refine g_n0 [.int (bI (false))] rfl rfl rfl ?_
  refine b_if_eq C 34 dX12_target_6 (fun h6 => ?_) (fun h6 => absurd h6 (by decide))
  refine g_aload_n C dX12_target_34 rfl ?_
  refine n_iconst C 1 dX12_target_35 ?_
  refine g_callV C (As := [.int (nI (1))]) (k_fails _ hS) vo_X12_136 dX12_target_36 rfl rfl (by decide) rfl (rm_ok (M' := MX12_target) hR (by decide)) (Nat.le_of_ble_eq_true rfl) (fun v9 S9 h9 => ?_)
  obtain ⟨rfl, h9⟩ := h9
  refine g_S (wI S 75 (va_up (mI S 75) 0 (nI 1))) h9 ?_
  refine g_n0 [.int (nI (0))] rfl rfl rfl ?_
  exact g_iret C E dX12_target_39 (by rw [hR]; decide) (by rw [hR]; decide) ⟨rfl, rfl⟩

set_option maxRecDepth 100000 in
theorem m_target_l (l : Launch) {S : pv_M} {A : Ab} {j : Nat} (hS : GS S) (hM : MSt S A) (hj : j < 3) (hG : gdR (A.1.1 j)) {s : Nat} {p : Int32} (h1 : s < rN A j) (h : badI p 3) : mt l MX12_target 106 [.ref 75, .int (nI (j)), .int (nI (s)), .int (p)] S (fun v S' => v = some (.int (nI 0)) ∧ S' = th S 1) := by
  refine mt_of (by decide) (Nat.le_of_ble_eq_true rfl) ?_
  intro x hl hR hmL C E
  show GG x 106 0 0 [.ref 75, .int (nI (j)), .int (nI (s)), .int (p)] [] S 0
  refine g_aload_n C dX12_target_0 rfl ?_
  refine g_iload_n C dX12_target_1 rfl ?_
  refine g_iload_n C dX12_target_2 rfl ?_
  refine g_callV C (As := [.int (nI (j)), .int (nI (s))]) (k_isState _ hS hM hj hG h1) vo_X12_118 dX12_target_3 rfl rfl (by decide) rfl (rm_ok (M' := MX12_target) hR (by decide)) (Nat.le_of_ble_eq_true rfl) (fun v9 S9 h9 => ?_)
  obtain ⟨rfl, h9⟩ := h9
  refine g_S S h9 ?_
  refine g_n0 [.int (bI (true))] rfl rfl rfl ?_
  refine b_if_eq C 34 dX12_target_6 (fun h6 => absurd h6 (by decide)) (fun h6 => ?_)
  refine g_iload_n C dX12_target_9 rfl ?_
  refine g_callS C (k_isLetterF _ h) so_X12_122 dX12_target_10 rfl rfl (rm_ok (M' := MX12_target) hR (by decide)) (Nat.le_of_ble_eq_true rfl) (fun v9 S9 h9 => ?_)
  obtain ⟨rfl, h9⟩ := h9
  refine g_S S h9 ?_
  refine g_n0 [.int (bI (false))] rfl rfl rfl ?_
  refine b_if_eq C 34 dX12_target_13 (fun h13 => ?_) (fun h13 => absurd h13 (by decide))
  refine g_aload_n C dX12_target_34 rfl ?_
  refine n_iconst C 1 dX12_target_35 ?_
  refine g_callV C (As := [.int (nI (1))]) (k_fails _ hS) vo_X12_136 dX12_target_36 rfl rfl (by decide) rfl (rm_ok (M' := MX12_target) hR (by decide)) (Nat.le_of_ble_eq_true rfl) (fun v9 S9 h9 => ?_)
  obtain ⟨rfl, h9⟩ := h9
  refine g_S (wI S 75 (va_up (mI S 75) 0 (nI 1))) h9 ?_
  refine g_n0 [.int (nI (0))] rfl rfl rfl ?_
  exact g_iret C E dX12_target_39 (by rw [hR]; decide) (by rw [hR]; decide) ⟨rfl, rfl⟩

set_option maxRecDepth 100000 in
theorem m_isFinal (l : Launch) {S : pv_M} {A : Ab} {j : Nat} (hS : GS S) (hM : MSt S A) (hj : j < 3) (hG : gdR (A.1.1 j)) {s : Nat} (h1 : s < rN A j) : mt l MX12_isFinal 106 [.ref 75, .int (nI (j)), .int (nI (s))] S (fun v S' => v = some (.int (bI ((rF A j).testBit s))) ∧ S' = th S 0) := by
  refine mt_of (by decide) (Nat.le_of_ble_eq_true rfl) ?_
  intro x hl hR hmL C E
  show GG x 106 0 0 [.ref 75, .int (nI (j)), .int (nI (s))] [] S 0
  have hn6 : rN A j ≤ 6 := hG.2.1
  have hn0 : 0 < rN A j := hG.1
  have hrn : rN A j = (A.1.1 j).1 := rfl
  refine g_aload_n C dX12_isFinal_0 rfl ?_
  refine g_iload_n C dX12_isFinal_1 rfl ?_
  refine g_iload_n C dX12_isFinal_2 rfl ?_
  refine g_callV C (As := [.int (nI (j)), .int (nI (s))]) (k_isState _ hS hM hj hG h1) vo_X12_118 dX12_isFinal_3 rfl rfl (by decide) rfl (rm_ok (M' := MX12_isFinal) hR (by decide)) (Nat.le_of_ble_eq_true rfl) (fun v9 S9 h9 => ?_)
  obtain ⟨rfl, h9⟩ := h9
  refine g_S S h9 ?_
  refine g_n0 [.int (bI (true))] rfl rfl rfl ?_
  refine b_if_eq C 27 dX12_isFinal_6 (fun h6 => absurd h6 (by decide)) (fun h6 => ?_)
  refine g_aload_n C dX12_isFinal_9 rfl ?_
  refine g_aload_n C dX12_isFinal_10 rfl ?_
  refine g_getR C fo_X12_16 dX12_isFinal_11 rfl (by decide) (fun _ => rfl) (gs_75_3 hS) ?_
  refine n_bipush C 6 dX12_isFinal_14 ?_
  refine g_iload_n C dX12_isFinal_16 rfl ?_
  refine n_imul C dX12_isFinal_17 ?_
  refine g_iload_n C dX12_isFinal_18 rfl ?_
  refine n_iadd C dX12_isFinal_19 ?_
  refine n_zald C (v := (bI ((rF A j).testBit s))) dX12_isFinal_20 rfl (by decide) (hM.1.f hj (i := s) (by omega) rfl) ?_ (by omega)
  refine g_callV C (As := [.int (bI ((rF A j).testBit s))]) (k_so _ hS) vo_X12_128 dX12_isFinal_21 rfl rfl (by decide) rfl (rm_ok (M' := MX12_isFinal) hR (by decide)) (Nat.le_of_ble_eq_true rfl) (fun v9 S9 h9 => ?_)
  obtain ⟨rfl, h9⟩ := h9
  refine g_S (wI S 75 (va_up (mI S 75) 0 (nI 0))) h9 ?_
  refine g_n0 [.int (bI ((rF A j).testBit s))] rfl rfl rfl ?_
  refine g_goto C 32 dX12_isFinal_24 (by decide) ?_
  exact g_zret C E dX12_isFinal_32 (bI_01 _) (by rw [hR]; decide) (by rw [hR]; decide) ⟨rfl, rfl⟩

set_option maxRecDepth 100000 in
theorem m_isFinal_r (l : Launch) {S : pv_M} {p : Int32} (hS : GS S) (h : badI p 3) {q : Int32} : mt l MX12_isFinal 106 [.ref 75, .int (p), .int (q)] S (fun v S' => v = some (.int (bI false)) ∧ S' = th S 1) := by
  refine mt_of (by decide) (Nat.le_of_ble_eq_true rfl) ?_
  intro x hl hR hmL C E
  show GG x 106 0 0 [.ref 75, .int (p), .int (q)] [] S 0
  refine g_aload_n C dX12_isFinal_0 rfl ?_
  refine g_iload_n C dX12_isFinal_1 rfl ?_
  refine g_iload_n C dX12_isFinal_2 rfl ?_
  refine g_callV C (As := [.int (p), .int (q)]) (k_isStateR _ hS h) vo_X12_118 dX12_isFinal_3 rfl rfl (by decide) rfl (rm_ok (M' := MX12_isFinal) hR (by decide)) (Nat.le_of_ble_eq_true rfl) (fun v9 S9 h9 => ?_)
  obtain ⟨rfl, h9⟩ := h9
  refine g_S S h9 ?_
  refine g_n0 [.int (bI (false))] rfl rfl rfl ?_
  refine b_if_eq C 27 dX12_isFinal_6 (fun h6 => ?_) (fun h6 => absurd h6 (by decide))
  refine g_aload_n C dX12_isFinal_27 rfl ?_
  refine n_iconst C 1 dX12_isFinal_28 ?_
  refine g_callV C (As := [.int (nI (1))]) (k_not _ hS) vo_X12_125 dX12_isFinal_29 rfl rfl (by decide) rfl (rm_ok (M' := MX12_isFinal) hR (by decide)) (Nat.le_of_ble_eq_true rfl) (fun v9 S9 h9 => ?_)
  obtain ⟨rfl, h9⟩ := h9
  refine g_S (wI S 75 (va_up (mI S 75) 0 (nI 1))) h9 ?_
  refine g_n0 [.int (bI (false))] rfl rfl rfl ?_
  exact g_zret C E dX12_isFinal_32 (bI_01 _) (by rw [hR]; decide) (by rw [hR]; decide) ⟨rfl, rfl⟩

set_option maxRecDepth 100000 in
theorem m_isFinal_s (l : Launch) {S : pv_M} {A : Ab} {j : Nat} (hS : GS S) (hM : MSt S A) (hj : j < 3) (hG : gdR (A.1.1 j)) {p : Int32} (h : badI p (rN A j)) : mt l MX12_isFinal 106 [.ref 75, .int (nI (j)), .int (p)] S (fun v S' => v = some (.int (bI false)) ∧ S' = th S 1) := by
  refine mt_of (by decide) (Nat.le_of_ble_eq_true rfl) ?_
  intro x hl hR hmL C E
  show GG x 106 0 0 [.ref 75, .int (nI (j)), .int (p)] [] S 0
  refine g_aload_n C dX12_isFinal_0 rfl ?_
  refine g_iload_n C dX12_isFinal_1 rfl ?_
  refine g_iload_n C dX12_isFinal_2 rfl ?_
  refine g_callV C (As := [.int (nI (j)), .int (p)]) (k_isStateF _ hS hM hj hG h) vo_X12_118 dX12_isFinal_3 rfl rfl (by decide) rfl (rm_ok (M' := MX12_isFinal) hR (by decide)) (Nat.le_of_ble_eq_true rfl) (fun v9 S9 h9 => ?_)
  obtain ⟨rfl, h9⟩ := h9
  refine g_S S h9 ?_
  refine g_n0 [.int (bI (false))] rfl rfl rfl ?_
  refine b_if_eq C 27 dX12_isFinal_6 (fun h6 => ?_) (fun h6 => absurd h6 (by decide))
  refine g_aload_n C dX12_isFinal_27 rfl ?_
  refine n_iconst C 1 dX12_isFinal_28 ?_
  refine g_callV C (As := [.int (nI (1))]) (k_not _ hS) vo_X12_125 dX12_isFinal_29 rfl rfl (by decide) rfl (rm_ok (M' := MX12_isFinal) hR (by decide)) (Nat.le_of_ble_eq_true rfl) (fun v9 S9 h9 => ?_)
  obtain ⟨rfl, h9⟩ := h9
  refine g_S (wI S 75 (va_up (mI S 75) 0 (nI 1))) h9 ?_
  refine g_n0 [.int (bI (false))] rfl rfl rfl ?_
  exact g_zret C E dX12_isFinal_32 (bI_01 _) (by rw [hR]; decide) (by rw [hR]; decide) ⟨rfl, rfl⟩

set_option maxRecDepth 100000 in
theorem k_draw (l : Launch) {S : pv_M} {seed : Int32} {k m : Nat} (hS : GS S) (hx : mI S 75 16 = drw seed k) (h0 : 0 < m) (h6 : m ≤ 6) : mt l MX12_draw 106 [.ref 75, .int (nI (m))] S (fun v S' => v = some (.int (nI (dv seed k m))) ∧ S' = wI S 75 (va_up (mI S 75) 16 (drw seed (k + 1)))) := by
  refine mt_of (by decide) (Nat.le_of_ble_eq_true rfl) ?_
  intro x hl hR hmL C E
  show GG x 106 0 0 [.ref 75, .int (nI (m))] [] S 0
  have hx16 := x16 ((drw seed k) * (1103515245) + ((12345)))
  refine g_aload_n C dX12_draw_0 rfl ?_
  refine g_aload_n C dX12_draw_1 rfl ?_
  refine g_getI C (a := (drw seed k)) fo_X12_139 dX12_draw_2 rfl (by decide) (fun _ => rfl) hx ?_
  refine g_ldc C dX12_draw_5 kc_X12_142 ?_
  refine g_imul C dX12_draw_7 ?_
  refine g_sipush C (12345) dX12_draw_8 (by decide) ?_
  refine g_iadd C dX12_draw_11 ?_
  refine g_putI C fo_X12_139 dX12_draw_12 rfl (by decide) rfl ?_
  refine g_aload_n C dX12_draw_15 rfl ?_
  refine g_getI C (a := (((drw seed k) * (1103515245)) + ((12345)))) fo_X12_139 dX12_draw_16 rfl (by decide) (fun _ => rfl) rfl ?_
  refine n_bipush C 16 dX12_draw_19 ?_
  refine n_iushr C dX12_draw_21 ?_
  refine g_iload_n C dX12_draw_22 rfl ?_
  refine n_irem C dX12_draw_23 ?_
  exact g_iret C E dX12_draw_24 (by rw [hR]; decide) (by rw [hR]; decide) ⟨rfl, rfl⟩

abbrev rZ : Nat → Prop := fun r => r = 75 ∨ r = 77 ∨ r = 78

theorem up_up {α : Type} {f : Nat → α} {k : Nat} {a b : α} : va_up (va_up f k a) k b = va_up f k b := by
  funext j
  by_cases h : j = k
  · rw [h, up_same, up_same]
  · rw [va_up_ne _ _ h, va_up_ne _ _ h, va_up_ne _ _ h]

set_option maxRecDepth 100000 in
theorem lq_rand {x : Cx} (hR : xR x = MX12_randomize.rm) (hmL : (xc x).maxLocals = MX12_randomize.nL) (C : BX x cX12_randomize RX12) {S0 : pv_M} {seed : Int32} {j n s : Nat} (hj : j < 3) (hN : mI S0 76 j = nI n) (h0 : 0 < n) (h6 : n ≤ 6) (hs : s < n) (kk : ∀ S : pv_M, GS S → FN rZ S0 S → mI S 75 = va_up (mI S0 75) 16 (drw seed (3 * s + 3)) → mI S 77 = reg (18 * j) (3 * s + 3) (fun k => nI (dv seed k n)) (mI S0 77) → mI S 78 = mI S0 78 → GG x 106 0 0 [.ref 75, .int (nI (j)), .int (seed), .int (nI (s)), .int (nI (3))] [] (S) 78) : ∀ z i (S : pv_M), i + z = 3 → GS S → FN rZ S0 S → mI S 75 = va_up (mI S0 75) 16 (drw seed (3 * s + i)) → mI S 77 = reg (18 * j) (3 * s + i) (fun k => nI (dv seed k n)) (mI S0 77) → mI S 78 = mI S0 78 → GG x 106 0 0 [.ref 75, .int (nI (j)), .int (seed), .int (nI (s)), .int (nI (i))] [] (S) 44 := by
  intro z
  induction z with
  | zero =>
    intro i S hz hS hf h5 h7 h8
    obtain rfl : 3 = i := by omega
    refine g_iload C dX12_randomize_44 rfl ?_
    refine n_iconst C 3 dX12_randomize_46 ?_
    refine n_ic_ge C 78 dX12_randomize_47 (fun h47 => ?_) (fun h47 => absurd h47 (by omega))
    exact kk S hS hf h5 h7 h8
  | succ z ih =>
    intro i S hz hS hf h5 h7 h8
    refine g_iload C dX12_randomize_44 rfl ?_
    refine n_iconst C 3 dX12_randomize_46 ?_
    refine n_ic_ge C 78 dX12_randomize_47 (fun h47 => absurd h47 (by omega)) (fun h47 => ?_)
    refine g_aload_n C dX12_randomize_50 rfl ?_
    refine g_getR C fo_X12_13 dX12_randomize_51 rfl (by decide) (fun _ => rfl) (gs_75_2 hS) ?_
    refine g_iload_n C dX12_randomize_54 rfl ?_
    refine g_iload_n C dX12_randomize_55 rfl ?_
    refine g_iload C dX12_randomize_56 rfl ?_
    refine g_callS C (k_place _) so_X12_110 dX12_randomize_58 rfl rfl (rm_ok (M' := MX12_randomize) hR (by decide)) (Nat.le_of_ble_eq_true rfl) (fun v9 S9 h9 => ?_)
    obtain ⟨rfl, h9⟩ := h9
    refine g_S S h9 ?_
    refine g_n0 [.int (nI (18 * j + 3 * s + i)), .ref 77] rfl rfl rfl ?_
    refine g_aload_n C dX12_randomize_61 rfl ?_
    refine g_aload_n C dX12_randomize_62 rfl ?_
    refine g_getR C fo_X12_7 dX12_randomize_63 rfl (by decide) (fun _ => rfl) (gs_75_1 hS) ?_
    refine g_iload_n C dX12_randomize_66 rfl ?_
    refine n_iald C (v := (nI (n))) dX12_randomize_67 rfl (by decide) ((congrFun (hf.2 76 (by decide)).1 _).trans hN) ?_ (by omega)
    refine g_callV C (As := [.int (nI (n))]) (k_draw (k := 3 * s + i) _ hS (by rw [h5]; exact up_same) h0 h6) vo_X12_143 dX12_randomize_68 rfl rfl (by decide) rfl (rm_ok (M' := MX12_randomize) hR (by decide)) (Nat.le_of_ble_eq_true rfl) (fun v9 S9 h9 => ?_)
    obtain ⟨rfl, h9⟩ := h9
    refine g_S (wI S 75 (va_up (mI S 75) 16 (drw seed (3 * s + i + 1)))) h9 ?_
    refine g_n0 [.int (nI (dv seed (3 * s + i) n)), .int (nI (18 * j + 3 * s + i)), .ref 77] rfl rfl rfl ?_
    refine g_iast C dX12_randomize_71 rfl (by decide) (by omega) rfl ?_
    refine n_iinc C (by rw [hmL]; decide) dX12_randomize_72 rfl (n_i1 _) [.ref 75, .int (nI (j)), .int (seed), .int (nI (s)), .int (nI (i + 1))] ?_
    refine g_goto C 44 dX12_randomize_75 (by decide) ?_
    refine ih (i + 1) _ (by omega) (hS.fn ((FN.wI (P := rZ) (by decide)).tr (FN.wI (by decide)))) (hf.tr ((FN.wI (by decide)).tr (FN.wI (by decide)))) (by show va_up (mI S 75) 16 _ = _; rw [h5]; exact up_up) (reg_I (i := 3 * s + i) (S := wI S 75 _) h7 (by omega) rfl) h8

set_option maxRecDepth 100000 in
theorem lp_rand {x : Cx} (hR : xR x = MX12_randomize.rm) (hmL : (xc x).maxLocals = MX12_randomize.nL) (C : BX x cX12_randomize RX12) {S0 : pv_M} {seed : Int32} {j n : Nat} (hj : j < 3) (hN : mI S0 76 j = nI n) (h0 : 0 < n) (h6 : n ≤ 6) (kk : ∀ S : pv_M, GS S → FN rZ S0 S → mI S 75 = va_up (mI S0 75) 16 (drw seed (3 * n)) → mI S 77 = reg (18 * j) (3 * n) (fun k => nI (dv seed k n)) (mI S0 77) → mI S 78 = mI S0 78 → GG x 106 0 0 [.ref 75, .int (nI (j)), .int (seed), .int (nI (n)), unk] [] (S) 84) : ∀ z i (S : pv_M), i + z = n → GS S → FN rZ S0 S → mI S 75 = va_up (mI S0 75) 16 (drw seed (3 * i)) → mI S 77 = reg (18 * j) (3 * i) (fun k => nI (dv seed k n)) (mI S0 77) → mI S 78 = mI S0 78 → GG x 106 0 0 [.ref 75, .int (nI (j)), .int (seed), .int (nI (i)), unk] [] (S) 31 := by
  intro z
  induction z with
  | zero =>
    intro i S hz hS hf h5 h7 h8
    obtain rfl : n = i := by omega
    refine g_iload_n C dX12_randomize_31 rfl ?_
    refine g_aload_n C dX12_randomize_32 rfl ?_
    refine g_getR C fo_X12_7 dX12_randomize_33 rfl (by decide) (fun _ => rfl) (gs_75_1 hS) ?_
    refine g_iload_n C dX12_randomize_36 rfl ?_
    refine n_iald C (v := (nI (n))) dX12_randomize_37 rfl (by decide) ((congrFun (hf.2 76 (by decide)).1 _).trans hN) ?_ (by omega)
    refine n_ic_ge C 84 dX12_randomize_38 (fun h38 => ?_) (fun h38 => absurd h38 (by omega))
    exact kk S hS hf h5 h7 h8
  | succ z ih =>
    intro i S hz hS hf h5 h7 h8
    refine g_iload_n C dX12_randomize_31 rfl ?_
    refine g_aload_n C dX12_randomize_32 rfl ?_
    refine g_getR C fo_X12_7 dX12_randomize_33 rfl (by decide) (fun _ => rfl) (gs_75_1 hS) ?_
    refine g_iload_n C dX12_randomize_36 rfl ?_
    refine n_iald C (v := (nI (n))) dX12_randomize_37 rfl (by decide) ((congrFun (hf.2 76 (by decide)).1 _).trans hN) ?_ (by omega)
    refine n_ic_ge C 84 dX12_randomize_38 (fun h38 => absurd h38 (by omega)) (fun h38 => ?_)
    refine n_iconst C 0 dX12_randomize_41 ?_
    refine g_istore C (by rw [hmL]; decide) dX12_randomize_42 [.ref 75, .int (nI (j)), .int (seed), .int (nI (i)), .int (nI (0))] rfl ?_
    refine lq_rand hR hmL C hj hN h0 h6 (s := i) (by omega) (fun S2 hS2 hf2 h52 h72 h82 => ?_) 3 0 S rfl hS hf h5 h7 h8
    refine n_iinc C (by rw [hmL]; decide) dX12_randomize_78 rfl (n_i1 _) [.ref 75, .int (nI (j)), .int (seed), .int (nI (i + 1)), .int (nI (3))] ?_
    refine g_goto C 31 dX12_randomize_81 (by decide) ?_
    refine g_frg [.ref 75, .int (nI (j)), .int (seed), .int (nI (i + 1)), unk] ⟨Or.inr rfl, Or.inr rfl, Or.inr rfl, Or.inr rfl, Or.inl rfl, trivial⟩ ?_
    exact ih (i + 1) S2 (by omega) hS2 hf2 h52 h72 h82
    

set_option maxRecDepth 100000 in
theorem lr_rand {x : Cx} (hR : xR x = MX12_randomize.rm) (hmL : (xc x).maxLocals = MX12_randomize.nL) (C : BX x cX12_randomize RX12) {S0 : pv_M} {g7 : Nat → Int32} {seed : Int32} {j n : Nat} (hj : j < 3) (hN : mI S0 76 j = nI n) (h0 : 0 < n) (h6 : n ≤ 6) (kk : ∀ S : pv_M, GS S → FN rZ S0 S → mI S 75 = va_up (mI S0 75) 16 (drw seed (3 * n + n)) → mI S 77 = g7 → mI S 78 = reg (6 * j) n (fun k => bI (decide (dv seed (3 * n + k) 2 = 1))) (mI S0 78) → GG x 106 0 0 [.ref 75, .int (nI (j)), .int (seed), .int (nI (n)), unk] [] (S) 127) : ∀ z i (S : pv_M), i + z = n → GS S → FN rZ S0 S → mI S 75 = va_up (mI S0 75) 16 (drw seed (3 * n + i)) → mI S 77 = g7 → mI S 78 = reg (6 * j) i (fun k => bI (decide (dv seed (3 * n + k) 2 = 1))) (mI S0 78) → GG x 106 0 0 [.ref 75, .int (nI (j)), .int (seed), .int (nI (i)), unk] [] (S) 86 := by
  intro z
  induction z with
  | zero =>
    intro i S hz hS hf h5 h7 h8
    obtain rfl : n = i := by omega
    refine g_iload_n C dX12_randomize_86 rfl ?_
    refine g_aload_n C dX12_randomize_87 rfl ?_
    refine g_getR C fo_X12_7 dX12_randomize_88 rfl (by decide) (fun _ => rfl) (gs_75_1 hS) ?_
    refine g_iload_n C dX12_randomize_91 rfl ?_
    refine n_iald C (v := (nI (n))) dX12_randomize_92 rfl (by decide) ((congrFun (hf.2 76 (by decide)).1 _).trans hN) ?_ (by omega)
    refine n_ic_ge C 127 dX12_randomize_93 (fun h93 => ?_) (fun h93 => absurd h93 (by omega))
    exact kk S hS hf h5 h7 h8
  | succ z ih =>
    intro i S hz hS hf h5 h7 h8
    have hd2 : dv seed (3 * n + i) 2 < 2 := dv_lt (by decide)
    refine g_iload_n C dX12_randomize_86 rfl ?_
    refine g_aload_n C dX12_randomize_87 rfl ?_
    refine g_getR C fo_X12_7 dX12_randomize_88 rfl (by decide) (fun _ => rfl) (gs_75_1 hS) ?_
    refine g_iload_n C dX12_randomize_91 rfl ?_
    refine n_iald C (v := (nI (n))) dX12_randomize_92 rfl (by decide) ((congrFun (hf.2 76 (by decide)).1 _).trans hN) ?_ (by omega)
    refine n_ic_ge C 127 dX12_randomize_93 (fun h93 => absurd h93 (by omega)) (fun h93 => ?_)
    refine g_aload_n C dX12_randomize_96 rfl ?_
    refine g_getR C fo_X12_16 dX12_randomize_97 rfl (by decide) (fun _ => rfl) (gs_75_3 hS) ?_
    refine n_bipush C 6 dX12_randomize_100 ?_
    refine g_iload_n C dX12_randomize_102 rfl ?_
    refine n_imul C dX12_randomize_103 ?_
    refine g_iload_n C dX12_randomize_104 rfl ?_
    refine n_iadd C dX12_randomize_105 ?_
    refine g_aload_n C dX12_randomize_106 rfl ?_
    refine n_iconst C 2 dX12_randomize_107 ?_
    refine g_callV C (As := [.int (nI (2))]) (k_draw (k := 3 * n + i) _ hS (by rw [h5]; exact up_same) (by decide) (by decide)) vo_X12_143 dX12_randomize_108 rfl rfl (by decide) rfl (rm_ok (M' := MX12_randomize) hR (by decide)) (Nat.le_of_ble_eq_true rfl) (fun v9 S9 h9 => ?_)
    obtain ⟨rfl, h9⟩ := h9
    refine g_S (wI S 75 (va_up (mI S 75) 16 (drw seed (3 * n + i + 1)))) h9 ?_
    refine g_n0 [.int (nI (dv seed (3 * n + i) 2)), .int (nI (((6) * (j)) + (i))), .ref 78] rfl rfl rfl ?_
    refine n_iconst C 1 dX12_randomize_111 ?_
    suffices K120 : GG x 106 0 0 [.ref 75, .int (nI (j)), .int (seed), .int (nI (i)), unk] [.int (bI (decide (dv seed (3 * n + i) 2 = 1))), .int (nI (((6) * (j)) + (i))), .ref 78] (wI S 75 (va_up (mI S 75) 16 (drw seed (3 * n + i + 1)))) 120 from by
      refine n_ic_ne C 119 dX12_randomize_112 (fun h112 => ?_) (fun h112 => ?_)
      · refine n_iconst C 0 dX12_randomize_119 ?_
        rw [decide_eq_false h112] at K120; exact K120
      · refine n_iconst C 1 dX12_randomize_115 ?_
        refine g_goto C 120 dX12_randomize_116 (by decide) ?_
        rw [decide_eq_true h112] at K120; exact K120
    refine g_zast C dX12_randomize_120 rfl (by decide) (by omega) rfl (bI_nar _) ?_
    refine n_iinc C (by rw [hmL]; decide) dX12_randomize_121 rfl (n_i1 _) [.ref 75, .int (nI (j)), .int (seed), .int (nI (i + 1)), unk] ?_
    refine g_goto C 86 dX12_randomize_124 (by decide) ?_
    refine ih (i + 1) _ (by omega) (hS.fn ((FN.wI (P := rZ) (by decide)).tr (FN.wI (by decide)))) (hf.tr ((FN.wI (by decide)).tr (FN.wI (by decide)))) (by show va_up (mI S 75) 16 _ = _; rw [h5]; exact up_up) h7 (reg_I (S := wI S 75 _) h8 (by omega) rfl)

set_option maxRecDepth 100000 in
theorem m_randomize (l : Launch) {S : pv_M} {A : Ab} {j : Nat} (hS : GS S) (hM : MSt S A) (hj : j < 3) (hG : gdR (A.1.1 j)) {seed : Int32} : mt l MX12_randomize 106 [.ref 75, .int (nI (j)), .int (seed)] S (fun v S' => v = none ∧ mI S' 75 0 = nI 0 ∧ FN mC S S' ∧ ∀ T' F', (∀ i, i < 18 → T' i = if i < rN A j * 3 then dv seed i (rN A j) else rT A j i) → (∀ i, i < 6 → Nat.testBit F' i = if i < rN A j then decide (dv seed (rN A j * 3 + i) 2 = 1) else (rF A j).testBit i) → MSt S' (setR A j (rN A j, T', F'))) := by
  refine mt_of (by decide) (Nat.le_of_ble_eq_true rfl) ?_
  intro x hl hR hmL C E
  show GG x 106 0 0 [.ref 75, .int (nI (j)), .int (seed), unk, unk] [] S 0
  have hn6 : rN A j ≤ 6 := hG.2.1
  have hn0 : 0 < rN A j := hG.1
  have hrn : rN A j = (A.1.1 j).1 := rfl
  refine g_aload_n C dX12_randomize_0 rfl ?_
  refine g_iload_n C dX12_randomize_1 rfl ?_
  refine g_callS C (k_isRegister _ hj) so_X12_106 dX12_randomize_2 rfl rfl (rm_ok (M' := MX12_randomize) hR (by decide)) (Nat.le_of_ble_eq_true rfl) (fun v9 S9 h9 => ?_)
  obtain ⟨rfl, h9⟩ := h9
  refine g_S S h9 ?_
  refine g_n0 [.int (bI (true)), .ref 75] rfl rfl rfl ?_
  refine b_if_eq C 12 dX12_randomize_5 (fun h5 => absurd h5 (by decide)) (fun h5 => ?_)
  refine n_iconst C 0 dX12_randomize_8 ?_
  refine g_goto C 13 dX12_randomize_9 (by decide) ?_
  refine g_putI C fo_X12_98 dX12_randomize_13 rfl (by decide) rfl ?_
  refine g_aload_n C dX12_randomize_16 rfl ?_
  refine g_getI C (a := (nI (0))) fo_X12_98 dX12_randomize_17 rfl (by decide) (fun _ => rfl) rfl ?_
  refine n_if_eq C 24 dX12_randomize_20 (fun h20 => ?_) (fun h20 => absurd h20 (by decide))
  refine g_aload_n C dX12_randomize_24 rfl ?_
  refine g_iload_n C dX12_randomize_25 rfl ?_
  refine g_putI C fo_X12_139 dX12_randomize_26 rfl (by decide) rfl ?_
  refine n_iconst C 0 dX12_randomize_29 ?_
  refine g_istore_n C (by rw [hmL]; decide) dX12_randomize_30 [.ref 75, .int (nI (j)), .int (seed), .int (nI (0)), unk] rfl ?_
  have hS0 : GS (th S 0) := hS.fn th_fs.1
  have hM0 : MSt (th S 0) A := hM.fs th_fs
  have hz : FN rZ (th S 0) (wI (th S 0) 75 (va_up (mI (th S 0) 75) 16 seed)) := FN.wI (by decide)
  refine lp_rand hR hmL C (S0 := th S 0) (seed := seed) hj (hM0.1.n hj) hn0 hn6 (fun S2 hS2 hf2 h52 h72 h82 => ?_) _ 0 _ (Nat.zero_add _) (hS0.fn hz) hz rfl reg_0.symm rfl
  refine n_iconst C 0 dX12_randomize_84 ?_
  refine g_istore_n C (by rw [hmL]; decide) dX12_randomize_85 [.ref 75, .int (nI j), .int seed, .int (nI 0), unk] rfl ?_
  refine lr_rand hR hmL C (S0 := th S 0) (seed := seed) hj (hM0.1.n hj) hn0 hn6 (fun S3 hS3 hf3 h53 h73 h83 => ?_) _ 0 S2 (Nat.zero_add _) hS2 hf2 h52 h72 (by rw [h82]; exact reg_0.symm)
  refine g_vret C E dX12_randomize_127 (by rw [hR]; decide) (by rw [hR]; decide) ⟨rfl, by rw [h53]; exact rI_s, th_fs.mC.tr (hf3.mono (fun r h => by rcases h with rfl | rfl | rfl <;> decide)), fun T' F' q1 q2 => ?_⟩
  refine hM0.set4 (S' := S3) (hM0.1.set hj (fun k _ => congrFun (hf3.2 76 (by decide)).1 k) ((congrFun (hf3.2 76 (by decide)).1 j).trans (hM0.1.n hj)) (fun p hp => by rw [h73]; exact reg_out (by omega)) (fun i hi => ?_) (fun p hp => by rw [h83]; exact reg_out (by omega)) (fun i hi => ?_)) (hf3.mono (fun r h => by rcases h with rfl | rfl | rfl <;> decide)) (by rw [h53]; rfl) (by rw [h53]; rfl) (by rw [h53]; rfl)
  · rw [q1 i hi, h73]
    by_cases e : i < rN A j * 3
    · rw [if_pos e]; exact reg_in (by omega) rfl
    · rw [if_neg e, reg_out (by omega)]; exact hM0.1.2.1 j hj i hi
  · rw [q2 i hi, h83]
    by_cases e : i < rN A j
    · rw [if_pos e, reg_in (k := i) (by omega) rfl, Nat.mul_comm (rN A j) 3]
    · rw [if_neg e, reg_out (by omega)]; exact hM0.1.2.2 j hj i hi

set_option maxRecDepth 100000 in
theorem m_randomize_r (l : Launch) {S : pv_M} {p : Int32} (hS : GS S) (h : badI p 3) {q : Int32} : mt l MX12_randomize 106 [.ref 75, .int (p), .int (q)] S (fun v S' => v = none ∧ S' = th S 1) := by
  refine mt_of (by decide) (Nat.le_of_ble_eq_true rfl) ?_
  intro x hl hR hmL C E
  show GG x 106 0 0 [.ref 75, .int (p), .int (q), unk, unk] [] S 0
  refine g_aload_n C dX12_randomize_0 rfl ?_
  refine g_iload_n C dX12_randomize_1 rfl ?_
  refine g_callS C (k_isRegisterF _ h) so_X12_106 dX12_randomize_2 rfl rfl (rm_ok (M' := MX12_randomize) hR (by decide)) (Nat.le_of_ble_eq_true rfl) (fun v9 S9 h9 => ?_)
  obtain ⟨rfl, h9⟩ := h9
  refine g_S S h9 ?_
  refine g_n0 [.int (bI (false)), .ref 75] rfl rfl rfl ?_
  refine b_if_eq C 12 dX12_randomize_5 (fun h5 => ?_) (fun h5 => absurd h5 (by decide))
  refine n_iconst C 1 dX12_randomize_12 ?_
  refine g_putI C fo_X12_98 dX12_randomize_13 rfl (by decide) rfl ?_
  refine g_aload_n C dX12_randomize_16 rfl ?_
  refine g_getI C (a := (nI (1))) fo_X12_98 dX12_randomize_17 rfl (by decide) (fun _ => rfl) rfl ?_
  refine n_if_eq C 24 dX12_randomize_20 (fun h20 => absurd h20 (by decide)) (fun h20 => ?_)
  exact g_vret C E dX12_randomize_23 (by rw [hR]; decide) (by rw [hR]; decide) ⟨rfl, rfl⟩

set_option maxRecDepth 100000 in
theorem lp_mw {x : Cx} (hR : xR x = MX12_makeWitness.rm) (hmL : (xc x).maxLocals = MX12_makeWitness.nL) (C : BX x cX12_makeWitness RX12) {S0 : pv_M} {j m : Nat} (hj : j < 3) (h0 : 0 < m) (h6 : m ≤ 6) (kk : ∀ S : pv_M, GS S → FN (fun r => r = 77) S0 S → mI S 77 = reg (18 * j) (3 * m) (fun k => nI (witT m k)) (mI S0 77) → GG x 106 0 0 [.ref 75, .int (nI (j)), .int (nI (m)), .int (nI (m))] [] (S) 133) : ∀ z i (S : pv_M), i + z = m → GS S → FN (fun r => r = 77) S0 S → mI S 77 = reg (18 * j) (3 * i) (fun k => nI (witT m k)) (mI S0 77) → GG x 106 0 0 [.ref 75, .int (nI (j)), .int (nI (m)), .int (nI (i))] [] (S) 46 := by
  intro z
  induction z with
  | zero =>
    intro i S hz hS hf h7
    obtain rfl : m = i := by omega
    refine g_iload_n C dX12_makeWitness_46 rfl ?_
    refine g_iload_n C dX12_makeWitness_47 rfl ?_
    refine n_ic_ge C 133 dX12_makeWitness_48 (fun h48 => ?_) (fun h48 => absurd h48 (by omega))
    exact kk S hS hf h7
  | succ z ih =>
    intro i S hz hS hf h7
    refine g_iload_n C dX12_makeWitness_46 rfl ?_
    refine g_iload_n C dX12_makeWitness_47 rfl ?_
    refine n_ic_ge C 133 dX12_makeWitness_48 (fun h48 => absurd h48 (by omega)) (fun h48 => ?_)
    refine g_aload_n C dX12_makeWitness_51 rfl ?_
    refine g_getR C fo_X12_13 dX12_makeWitness_52 rfl (by decide) (fun _ => rfl) (gs_75_2 hS) ?_
    refine g_iload_n C dX12_makeWitness_55 rfl ?_
    refine g_iload_n C dX12_makeWitness_56 rfl ?_
    refine n_iconst C 0 dX12_makeWitness_57 ?_
    refine g_callS C (k_place _) so_X12_110 dX12_makeWitness_58 rfl rfl (rm_ok (M' := MX12_makeWitness) hR (by decide)) (Nat.le_of_ble_eq_true rfl) (fun v9 S9 h9 => ?_)
    obtain ⟨rfl, h9⟩ := h9
    refine g_S S h9 ?_
    refine g_n0 [.int (nI (18 * j + 3 * i + 0)), .ref 77] rfl rfl rfl ?_
    refine g_iload_n C dX12_makeWitness_61 rfl ?_
    refine g_iload_n C dX12_makeWitness_62 rfl ?_
    refine n_iconst C 1 dX12_makeWitness_63 ?_
    refine n_isub C dX12_makeWitness_64 ?_
    suffices K75 : GG x 106 0 0 [.ref 75, .int (nI (j)), .int (nI (m)), .int (nI (i))] [.int (nI (if i = m - 1 then 0 else i + 1)), .int (nI (18 * j + 3 * i + 0)), .ref 77] S 75 from by
      refine n_ic_ne C 72 dX12_makeWitness_65 (fun h65 => ?_) (fun h65 => ?_)
      · refine g_iload_n C dX12_makeWitness_72 rfl ?_
        refine n_iconst C 1 dX12_makeWitness_73 ?_
        refine n_iadd C dX12_makeWitness_74 ?_
        first | (rw [if_pos (by omega)] at K75; exact K75) | (rw [if_neg (by omega)] at K75; exact K75)
      · refine n_iconst C 0 dX12_makeWitness_68 ?_
        refine g_goto C 75 dX12_makeWitness_69 (by decide) ?_
        first | (rw [if_pos (by omega)] at K75; exact K75) | (rw [if_neg (by omega)] at K75; exact K75)
    refine g_iast C dX12_makeWitness_75 rfl (by decide) (by omega) rfl ?_
    refine g_aload_n C dX12_makeWitness_76 rfl ?_
    refine g_getR C fo_X12_13 dX12_makeWitness_77 rfl (by decide) (fun _ => rfl) (gs_75_2 hS) ?_
    refine g_iload_n C dX12_makeWitness_80 rfl ?_
    refine g_iload_n C dX12_makeWitness_81 rfl ?_
    refine n_iconst C 1 dX12_makeWitness_82 ?_
    refine g_callS C (k_place _) so_X12_110 dX12_makeWitness_83 rfl rfl (rm_ok (M' := MX12_makeWitness) hR (by decide)) (Nat.le_of_ble_eq_true rfl) (fun v9 S9 h9 => ?_)
    obtain ⟨rfl, h9⟩ := h9
    refine g_S (wI S 77 (va_up (mI S 77) (18 * j + 3 * i + 0) (nI (if i = m - 1 then 0 else i + 1)))) h9 ?_
    refine g_n0 [.int (nI (18 * j + 3 * i + 1)), .ref 77] rfl rfl rfl ?_
    refine g_iload_n C dX12_makeWitness_86 rfl ?_
    refine n_iconst C 1 dX12_makeWitness_87 ?_
    suffices K103 : GG x 106 0 0 [.ref 75, .int (nI (j)), .int (nI (m)), .int (nI (i))] [.int (nI (if i < 2 ∧ 1 < m then 1 - i else i)), .int (nI (18 * j + 3 * i + 1)), .ref 77] (wI S 77 (va_up (mI S 77) (18 * j + 3 * i + 0) (nI (if i = m - 1 then 0 else i + 1)))) 103 from by
      refine n_ic_le C 102 dX12_makeWitness_88 (fun h88 => ?_) (fun h88 => ?_)
      · refine g_iload_n C dX12_makeWitness_102 rfl ?_
        first | (rw [if_pos (by omega)] at K103; exact K103) | (rw [if_neg (by omega)] at K103; exact K103)
      · refine g_iload_n C dX12_makeWitness_91 rfl ?_
        refine n_iconst C 2 dX12_makeWitness_92 ?_
        refine n_ic_ge C 102 dX12_makeWitness_93 (fun h93 => ?_) (fun h93 => ?_)
        · refine g_iload_n C dX12_makeWitness_102 rfl ?_
          first | (rw [if_pos (by omega)] at K103; exact K103) | (rw [if_neg (by omega)] at K103; exact K103)
        · refine n_iconst C 1 dX12_makeWitness_96 ?_
          refine g_iload_n C dX12_makeWitness_97 rfl ?_
          refine n_isub C dX12_makeWitness_98 ?_
          refine g_goto C 103 dX12_makeWitness_99 (by decide) ?_
          first | (rw [if_pos (by omega)] at K103; exact K103) | (rw [if_neg (by omega)] at K103; exact K103)
    refine g_iast C dX12_makeWitness_103 rfl (by decide) (by omega) rfl ?_
    refine g_aload_n C dX12_makeWitness_104 rfl ?_
    refine g_getR C fo_X12_13 dX12_makeWitness_105 rfl (by decide) (fun _ => rfl) (gs_75_2 hS) ?_
    refine g_iload_n C dX12_makeWitness_108 rfl ?_
    refine g_iload_n C dX12_makeWitness_109 rfl ?_
    refine n_iconst C 2 dX12_makeWitness_110 ?_
    refine g_callS C (k_place _) so_X12_110 dX12_makeWitness_111 rfl rfl (rm_ok (M' := MX12_makeWitness) hR (by decide)) (Nat.le_of_ble_eq_true rfl) (fun v9 S9 h9 => ?_)
    obtain ⟨rfl, h9⟩ := h9
    refine g_S (wI (wI S 77 (va_up (mI S 77) (18 * j + 3 * i + 0) (nI (if i = m - 1 then 0 else i + 1)))) 77 (va_up (mI (wI S 77 (va_up (mI S 77) (18 * j + 3 * i + 0) (nI (if i = m - 1 then 0 else i + 1)))) 77) (18 * j + 3 * i + 1) (nI (if i < 2 ∧ 1 < m then 1 - i else i)))) h9 ?_
    refine g_n0 [.int (nI (18 * j + 3 * i + 2)), .ref 77] rfl rfl rfl ?_
    refine g_iload_n C dX12_makeWitness_114 rfl ?_
    refine g_iload_n C dX12_makeWitness_115 rfl ?_
    refine n_iconst C 1 dX12_makeWitness_116 ?_
    refine n_isub C dX12_makeWitness_117 ?_
    suffices K126 : GG x 106 0 0 [.ref 75, .int (nI (j)), .int (nI (m)), .int (nI (i))] [.int (nI (if i = m - 1 then 0 else i)), .int (nI (18 * j + 3 * i + 2)), .ref 77] (wI (wI S 77 (va_up (mI S 77) (18 * j + 3 * i + 0) (nI (if i = m - 1 then 0 else i + 1)))) 77 (va_up (mI (wI S 77 (va_up (mI S 77) (18 * j + 3 * i + 0) (nI (if i = m - 1 then 0 else i + 1)))) 77) (18 * j + 3 * i + 1) (nI (if i < 2 ∧ 1 < m then 1 - i else i)))) 126 from by
      refine n_ic_ne C 125 dX12_makeWitness_118 (fun h118 => ?_) (fun h118 => ?_)
      · refine g_iload_n C dX12_makeWitness_125 rfl ?_
        first | (rw [if_pos (by omega)] at K126; exact K126) | (rw [if_neg (by omega)] at K126; exact K126)
      · refine n_iconst C 0 dX12_makeWitness_121 ?_
        refine g_goto C 126 dX12_makeWitness_122 (by decide) ?_
        first | (rw [if_pos (by omega)] at K126; exact K126) | (rw [if_neg (by omega)] at K126; exact K126)
    refine g_iast C dX12_makeWitness_126 rfl (by decide) (by omega) rfl ?_
    refine n_iinc C (by rw [hmL]; decide) dX12_makeWitness_127 rfl (n_i1 _) [.ref 75, .int (nI (j)), .int (nI (m)), .int (nI (i + 1))] ?_
    refine g_goto C 46 dX12_makeWitness_130 (by decide) ?_
    refine ih (i + 1) _ (by omega) (((hS.fn (FN.wI (P := fun r => r = 77) rfl)).fn (FN.wI (P := fun r => r = 77) rfl)).fn (FN.wI (P := fun r => r = 77) rfl)) (((hf.tr (FN.wI rfl)).tr (FN.wI rfl)).tr (FN.wI rfl)) ?_
    have e0 := reg_I (S := S) (v := nI (if i = m - 1 then 0 else i + 1)) (p := 18 * j + 3 * i + 0) h7 (by omega) (by rw [← witT0 (by omega), show i * 3 + 0 = 3 * i by omega])
    have e1 := reg_I (v := nI (if i < 2 ∧ 1 < m then 1 - i else i)) (p := 18 * j + 3 * i + 1) e0 (by omega) (by rw [← witT1 (by omega), show i * 3 + 1 = 3 * i + 1 by omega])
    have e2 := reg_I (i := 3 * i + 1 + 1) (v := nI (if i = m - 1 then 0 else i)) (p := 18 * j + 3 * i + 2) e1 (by omega) (by rw [← witT2 (by omega), show i * 3 + 2 = 3 * i + 1 + 1 by omega])
    exact e2

set_option maxRecDepth 100000 in
theorem m_makeWitness (l : Launch) {S : pv_M} {A : Ab} {j m : Nat} (hS : GS S) (hM : MSt S A) (hj : j < 3) (h0 : 0 < m) (h6 : m ≤ 6) : mt l MX12_makeWitness 106 [.ref 75, .int (nI (j)), .int (nI (m))] S (fun v S' => v = none ∧ mI S' 75 0 = nI 0 ∧ MSt S' (setR A j (m, witT m, fset 0 (m - 1) true)) ∧ FN mC S S') := by
  refine mt_of (by decide) (Nat.le_of_ble_eq_true rfl) ?_
  intro x hl hR hmL C E
  show GG x 106 0 0 [.ref 75, .int (nI (j)), .int (nI (m)), unk] [] S 0
  refine g_aload_n C dX12_makeWitness_0 rfl ?_
  refine g_iload_n C dX12_makeWitness_1 rfl ?_
  refine g_callS C (k_isRegister _ hj) so_X12_106 dX12_makeWitness_2 rfl rfl (rm_ok (M' := MX12_makeWitness) hR (by decide)) (Nat.le_of_ble_eq_true rfl) (fun v9 S9 h9 => ?_)
  obtain ⟨rfl, h9⟩ := h9
  refine g_S S h9 ?_
  refine g_n0 [.int (bI (true)), .ref 75] rfl rfl rfl ?_
  refine b_if_ne C 12 dX12_makeWitness_5 (fun h5 => ?_) (fun h5 => absurd h5 (by decide))
  refine g_iload_n C dX12_makeWitness_12 rfl ?_
  refine n_iconst C 1 dX12_makeWitness_13 ?_
  refine n_bipush C 6 dX12_makeWitness_14 ?_
  refine g_callS C (k_in _ (fun e => absurd ((nI_ltI (by omega) (by decide)).mp e) (by omega)) (fun e => absurd ((nI_ltI (by decide) (by omega)).mp e) (by omega))) so_X12_102 dX12_makeWitness_16 rfl rfl (rm_ok (M' := MX12_makeWitness) hR (by decide)) (Nat.le_of_ble_eq_true rfl) (fun v9 S9 h9 => ?_)
  obtain ⟨rfl, h9⟩ := h9
  refine g_S S h9 ?_
  refine g_n0 [.int (bI (true)), .ref 75] rfl rfl rfl ?_
  refine b_if_ne C 26 dX12_makeWitness_19 (fun h19 => ?_) (fun h19 => absurd h19 (by decide))
  refine n_iconst C 0 dX12_makeWitness_26 ?_
  refine g_putI C fo_X12_98 dX12_makeWitness_27 rfl (by decide) rfl ?_
  refine g_aload_n C dX12_makeWitness_30 rfl ?_
  refine g_getI C (a := (nI (0))) fo_X12_98 dX12_makeWitness_31 rfl (by decide) (fun _ => rfl) rfl ?_
  refine n_if_eq C 38 dX12_makeWitness_34 (fun h34 => ?_) (fun h34 => absurd h34 (by decide))
  refine g_aload_n C dX12_makeWitness_38 rfl ?_
  refine g_iload_n C dX12_makeWitness_39 rfl ?_
  refine g_iload_n C dX12_makeWitness_40 rfl ?_
  refine g_callV C (As := [.int (nI (j)), .int (nI (m))]) (k_clears _ (hS.fn (th_fs (c := 0)).1) (hM.fs (th_fs (c := 0))) hj) vo_X12_114 dX12_makeWitness_41 rfl rfl (by decide) rfl (rm_ok (M' := MX12_makeWitness) hR (by decide)) (Nat.le_of_ble_eq_true rfl) (fun v9 S9 h9 => ?_)
  obtain ⟨rfl, g1, g2⟩ := h9
  refine g_n0 [] rfl rfl rfl ?_
  refine n_iconst C 0 dX12_makeWitness_44 ?_
  refine g_istore_n C (by rw [hmL]; decide) dX12_makeWitness_45 [.ref 75, .int (nI (j)), .int (nI (m)), .int (nI (0))] rfl ?_
  refine lp_mw hR hmL C (S0 := S9) hj h0 h6 (fun S2 hS2 hf2 h72 => ?_) m 0 S9 (Nat.zero_add _) ((hS.fn (th_fs (c := 0)).1).fn g2) FN.rf reg_0.symm
  refine g_aload_n C dX12_makeWitness_133 rfl ?_
  refine g_getR C fo_X12_16 dX12_makeWitness_134 rfl (by decide) (fun _ => rfl) (gs_75_3 hS2) ?_
  refine n_bipush C 6 dX12_makeWitness_137 ?_
  refine g_iload_n C dX12_makeWitness_139 rfl ?_
  refine n_imul C dX12_makeWitness_140 ?_
  refine g_iload_n C dX12_makeWitness_141 rfl ?_
  refine n_iadd C dX12_makeWitness_142 ?_
  refine n_iconst C 1 dX12_makeWitness_143 ?_
  refine n_isub C dX12_makeWitness_144 ?_
  refine g_iconst C (bI true) dX12_makeWitness_145 (by decide) ?_
  refine g_zast C dX12_makeWitness_146 rfl (by decide) (by omega) rfl (bI_nar _) ?_
  have g1R : RgM S9 76 77 78 (va_up A.1.1 j (m, (fun _ => 0), 0)) := g1.1
  have q6 : mI S2 76 = mI S9 76 := (hf2.2 76 (by decide)).1
  have q8 : mI S2 78 = mI S9 78 := (hf2.2 78 (by decide)).1
  refine g_vret C E dX12_makeWitness_147 (by rw [hR]; decide) (by rw [hR]; decide) ⟨rfl, ?_, ?_, ?_⟩
  · show mI S2 75 0 = _
    rw [(hf2.2 75 (by decide)).1, (g2.2 75 (by decide)).1]; exact th_0
  · have hX := g1.set (S' := wI S2 78 (va_up (mI S2 78) (6 * j + m - 1) (bI true))) (g1.1.set (m := m) (T := witT m) (F := fset 0 (m - 1) true) hj (fun k _ => congrFun q6 k) ((congrFun q6 j).trans (by have := g1R.n hj; rwa [up_same] at this)) (fun p hp => by show mI S2 77 p = _; rw [h72]; exact reg_out (by omega)) (fun i hi => ?_) (fun p hp => by show mI (wI S2 78 _) 78 p = _; rw [mI_wI, va_up_ne _ _ (by omega), q8]) (fun i hi => ?_)) (((hf2.mono (fun r h => Or.inr (Or.inl h))).tr (FN.wI (by decide))))
    · have e : va_up (va_up A.1.1 j (m, (fun _ => 0), 0)) j (m, witT m, fset 0 (m - 1) true) = va_up A.1.1 j (m, witT m, fset 0 (m - 1) true) := up_up
      rw [e] at hX
      exact hX
    · show mI S2 77 (18 * j + i) = _
      rw [h72]
      by_cases e : i < 3 * m
      · exact reg_in e rfl
      · rw [reg_out (by omega)]
        have := g1R.2.1 j hj i hi
        rw [up_same] at this
        rw [this]
        unfold witT
        rw [if_neg (by omega)]
    · rw [mI_wI, (fset_ok 0 (by decide) (m - 1) (by omega) true).2 i hi]
      by_cases e : i = m - 1
      · rw [if_pos e, show 6 * j + m - 1 = 6 * j + i by omega, up_same]
      · rw [if_neg e, va_up_ne _ _ (by omega), q8]
        have := g1R.2.2 j hj i hi
        rwa [up_same] at this
  · exact th_fs.mC.tr ((r3_mC g2).tr ((hf2.mono (fun r h => by rw [h]; decide)).tr (FN.wI (by decide))))

set_option maxRecDepth 100000 in
theorem m_makeWitness_r (l : Launch) {S : pv_M} {p : Int32} (hS : GS S) (h : badI p 3) {q : Int32} : mt l MX12_makeWitness 106 [.ref 75, .int (p), .int (q)] S (fun v S' => v = none ∧ S' = th S 1) := by
  refine mt_of (by decide) (Nat.le_of_ble_eq_true rfl) ?_
  intro x hl hR hmL C E
  show GG x 106 0 0 [.ref 75, .int (p), .int (q), unk] [] S 0
  refine g_aload_n C dX12_makeWitness_0 rfl ?_
  refine g_iload_n C dX12_makeWitness_1 rfl ?_
  refine g_callS C (k_isRegisterF _ h) so_X12_106 dX12_makeWitness_2 rfl rfl (rm_ok (M' := MX12_makeWitness) hR (by decide)) (Nat.le_of_ble_eq_true rfl) (fun v9 S9 h9 => ?_)
  obtain ⟨rfl, h9⟩ := h9
  refine g_S S h9 ?_
  refine g_n0 [.int (bI (false)), .ref 75] rfl rfl rfl ?_
  refine b_if_ne C 12 dX12_makeWitness_5 (fun h5 => absurd h5 (by decide)) (fun h5 => ?_)
  refine n_iconst C 1 dX12_makeWitness_8 ?_
  refine g_goto C 27 dX12_makeWitness_9 (by decide) ?_
  refine g_putI C fo_X12_98 dX12_makeWitness_27 rfl (by decide) rfl ?_
  refine g_aload_n C dX12_makeWitness_30 rfl ?_
  refine g_getI C (a := (nI (1))) fo_X12_98 dX12_makeWitness_31 rfl (by decide) (fun _ => rfl) rfl ?_
  refine n_if_eq C 38 dX12_makeWitness_34 (fun h34 => absurd h34 (by decide)) (fun h34 => ?_)
  exact g_vret C E dX12_makeWitness_37 (by rw [hR]; decide) (by rw [hR]; decide) ⟨rfl, rfl⟩

set_option maxRecDepth 100000 in
theorem m_makeWitness_n (l : Launch) {S : pv_M} {j : Nat} {p : Int32} (hS : GS S) (hj : j < 3) (h : p < nI 1 ∨ nI 6 < p) : mt l MX12_makeWitness 106 [.ref 75, .int (nI (j)), .int (p)] S (fun v S' => v = none ∧ S' = th S 2) := by
  refine mt_of (by decide) (Nat.le_of_ble_eq_true rfl) ?_
  intro x hl hR hmL C E
  show GG x 106 0 0 [.ref 75, .int (nI (j)), .int (p), unk] [] S 0
  refine g_aload_n C dX12_makeWitness_0 rfl ?_
  refine g_iload_n C dX12_makeWitness_1 rfl ?_
  refine g_callS C (k_isRegister _ hj) so_X12_106 dX12_makeWitness_2 rfl rfl (rm_ok (M' := MX12_makeWitness) hR (by decide)) (Nat.le_of_ble_eq_true rfl) (fun v9 S9 h9 => ?_)
  obtain ⟨rfl, h9⟩ := h9
  refine g_S S h9 ?_
  refine g_n0 [.int (bI (true)), .ref 75] rfl rfl rfl ?_
  refine b_if_ne C 12 dX12_makeWitness_5 (fun h5 => ?_) (fun h5 => absurd h5 (by decide))
  refine g_iload_n C dX12_makeWitness_12 rfl ?_
  refine n_iconst C 1 dX12_makeWitness_13 ?_
  refine n_bipush C 6 dX12_makeWitness_14 ?_
  refine g_callS C (k_inF _ h) so_X12_102 dX12_makeWitness_16 rfl rfl (rm_ok (M' := MX12_makeWitness) hR (by decide)) (Nat.le_of_ble_eq_true rfl) (fun v9 S9 h9 => ?_)
  obtain ⟨rfl, h9⟩ := h9
  refine g_S S h9 ?_
  refine g_n0 [.int (bI (false)), .ref 75] rfl rfl rfl ?_
  refine b_if_ne C 26 dX12_makeWitness_19 (fun h19 => absurd h19 (by decide)) (fun h19 => ?_)
  refine n_iconst C 2 dX12_makeWitness_22 ?_
  refine g_goto C 27 dX12_makeWitness_23 (by decide) ?_
  refine g_putI C fo_X12_98 dX12_makeWitness_27 rfl (by decide) rfl ?_
  refine g_aload_n C dX12_makeWitness_30 rfl ?_
  refine g_getI C (a := (nI (2))) fo_X12_98 dX12_makeWitness_31 rfl (by decide) (fun _ => rfl) rfl ?_
  refine n_if_eq C 38 dX12_makeWitness_34 (fun h34 => absurd h34 (by decide)) (fun h34 => ?_)
  exact g_vret C E dX12_makeWitness_37 (by rw [hR]; decide) (by rw [hR]; decide) ⟨rfl, rfl⟩
